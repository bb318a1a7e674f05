section
-- ===== PART A: goes FIRST, ahead of the names: the tables' words, and 'selects' of the private methods out of them =====
/-- a private method of a class that the tables say can be made, by its rows of tables_1 -/
def lw_okq (q : MethodName × Nat) : Prop := (q.1.cls ≠ "java/lang/invoke/MethodHandle" ∧ q.1.cls ≠ "java/lang/invoke/VarHandle") ∧ Cond.instantiable q.1.cls q.2 ∈ tables_1 ∧ Cond.privateMethod q.1 ∈ tables_1 ∧ Cond.instanceMethod q.1 ∈ tables_1
theorem lw_p0 : lw_okq (⟨"java/lang/Throwable", "fillInStackTrace", "(I)Ljava/lang/Throwable;"⟩, 6) := ⟨⟨by decide +kernel, by decide +kernel⟩, List.mem_of_getElem? (i := 288) (by decide +kernel), List.mem_of_getElem? (i := 286) (by decide +kernel), List.mem_of_getElem? (i := 287) (by decide +kernel)⟩
theorem lw_p1 : lw_okq (⟨"Tallow", "unsettleAll", "()V"⟩, 7) := ⟨⟨by decide +kernel, by decide +kernel⟩, List.mem_of_getElem? (i := 17) (by decide +kernel), List.mem_of_getElem? (i := 378) (by decide +kernel), List.mem_of_getElem? (i := 379) (by decide +kernel)⟩
theorem lw_p2 : lw_okq (⟨"Tallow", "tableNow", "()LTallow$Table;"⟩, 7) := ⟨⟨by decide +kernel, by decide +kernel⟩, List.mem_of_getElem? (i := 17) (by decide +kernel), List.mem_of_getElem? (i := 416) (by decide +kernel), List.mem_of_getElem? (i := 417) (by decide +kernel)⟩
theorem lw_p3 : lw_okq (⟨"Tallow", "readText", "()V"⟩, 7) := ⟨⟨by decide +kernel, by decide +kernel⟩, List.mem_of_getElem? (i := 17) (by decide +kernel), List.mem_of_getElem? (i := 420) (by decide +kernel), List.mem_of_getElem? (i := 421) (by decide +kernel)⟩
theorem lw_p4 : lw_okq (⟨"Tallow$Reading", "isMoreToRead", "(LTallow$Text;I)Z"⟩, 14) := ⟨⟨by decide +kernel, by decide +kernel⟩, List.mem_of_getElem? (i := 85) (by decide +kernel), List.mem_of_getElem? (i := 428) (by decide +kernel), List.mem_of_getElem? (i := 429) (by decide +kernel)⟩
theorem lw_p5 : lw_okq (⟨"Tallow$Reading", "readQuoted", "(LTallow$Text;II)I"⟩, 14) := ⟨⟨by decide +kernel, by decide +kernel⟩, List.mem_of_getElem? (i := 85) (by decide +kernel), List.mem_of_getElem? (i := 433) (by decide +kernel), List.mem_of_getElem? (i := 434) (by decide +kernel)⟩
theorem lw_p6 : lw_okq (⟨"Tallow$Reading", "takeSigns", "(LTallow$Text;II)V"⟩, 14) := ⟨⟨by decide +kernel, by decide +kernel⟩, List.mem_of_getElem? (i := 85) (by decide +kernel), List.mem_of_getElem? (i := 437) (by decide +kernel), List.mem_of_getElem? (i := 438) (by decide +kernel)⟩
theorem lw_p7 : lw_okq (⟨"Tallow$Reading", "endOfCell", "(LTallow$Text;II)I"⟩, 14) := ⟨⟨by decide +kernel, by decide +kernel⟩, List.mem_of_getElem? (i := 85) (by decide +kernel), List.mem_of_getElem? (i := 442) (by decide +kernel), List.mem_of_getElem? (i := 443) (by decide +kernel)⟩
theorem lw_p8 : lw_okq (⟨"Tallow$Reading", "readPlain", "(LTallow$Text;II)I"⟩, 14) := ⟨⟨by decide +kernel, by decide +kernel⟩, List.mem_of_getElem? (i := 85) (by decide +kernel), List.mem_of_getElem? (i := 446) (by decide +kernel), List.mem_of_getElem? (i := 447) (by decide +kernel)⟩
theorem lw_p9 : lw_okq (⟨"Tallow$Reading", "closeCell", "(IZ)V"⟩, 14) := ⟨⟨by decide +kernel, by decide +kernel⟩, List.mem_of_getElem? (i := 85) (by decide +kernel), List.mem_of_getElem? (i := 450) (by decide +kernel), List.mem_of_getElem? (i := 451) (by decide +kernel)⟩
theorem lw_p10 : lw_okq (⟨"Tallow$Reading", "closeRow", "()V"⟩, 14) := ⟨⟨by decide +kernel, by decide +kernel⟩, List.mem_of_getElem? (i := 85) (by decide +kernel), List.mem_of_getElem? (i := 454) (by decide +kernel), List.mem_of_getElem? (i := 455) (by decide +kernel)⟩
theorem lw_p11 : lw_okq (⟨"Tallow$Reading", "findUsualWidth", "()V"⟩, 14) := ⟨⟨by decide +kernel, by decide +kernel⟩, List.mem_of_getElem? (i := 85) (by decide +kernel), List.mem_of_getElem? (i := 461) (by decide +kernel), List.mem_of_getElem? (i := 462) (by decide +kernel)⟩
theorem lw_p12 : lw_okq (⟨"Tallow$Reading", "rowsOfWidth", "(I)I"⟩, 14) := ⟨⟨by decide +kernel, by decide +kernel⟩, List.mem_of_getElem? (i := 85) (by decide +kernel), List.mem_of_getElem? (i := 465) (by decide +kernel), List.mem_of_getElem? (i := 466) (by decide +kernel)⟩
theorem lw_p13 : lw_okq (⟨"Tallow", "guessedParter", "()I"⟩, 7) := ⟨⟨by decide +kernel, by decide +kernel⟩, List.mem_of_getElem? (i := 17) (by decide +kernel), List.mem_of_getElem? (i := 469) (by decide +kernel), List.mem_of_getElem? (i := 470) (by decide +kernel)⟩
theorem lw_p14 : lw_okq (⟨"Tallow", "tableWith", "(I)LTallow$Table;"⟩, 7) := ⟨⟨by decide +kernel, by decide +kernel⟩, List.mem_of_getElem? (i := 17) (by decide +kernel), List.mem_of_getElem? (i := 481) (by decide +kernel), List.mem_of_getElem? (i := 482) (by decide +kernel)⟩
theorem lw_p15 : lw_okq (⟨"Tallow$Table", "guessedMark", "()I"⟩, 13) := ⟨⟨by decide +kernel, by decide +kernel⟩, List.mem_of_getElem? (i := 79) (by decide +kernel), List.mem_of_getElem? (i := 490) (by decide +kernel), List.mem_of_getElem? (i := 491) (by decide +kernel)⟩
def lw_privs_1 : List (MethodName × Nat) := [(⟨"java/lang/Throwable", "fillInStackTrace", "(I)Ljava/lang/Throwable;"⟩, 6), (⟨"Tallow", "unsettleAll", "()V"⟩, 7), (⟨"Tallow", "tableNow", "()LTallow$Table;"⟩, 7), (⟨"Tallow", "readText", "()V"⟩, 7), (⟨"Tallow$Reading", "isMoreToRead", "(LTallow$Text;I)Z"⟩, 14), (⟨"Tallow$Reading", "readQuoted", "(LTallow$Text;II)I"⟩, 14), (⟨"Tallow$Reading", "takeSigns", "(LTallow$Text;II)V"⟩, 14), (⟨"Tallow$Reading", "endOfCell", "(LTallow$Text;II)I"⟩, 14), (⟨"Tallow$Reading", "readPlain", "(LTallow$Text;II)I"⟩, 14), (⟨"Tallow$Reading", "closeCell", "(IZ)V"⟩, 14), (⟨"Tallow$Reading", "closeRow", "()V"⟩, 14), (⟨"Tallow$Reading", "findUsualWidth", "()V"⟩, 14), (⟨"Tallow$Reading", "rowsOfWidth", "(I)I"⟩, 14), (⟨"Tallow", "guessedParter", "()I"⟩, 7), (⟨"Tallow", "tableWith", "(I)LTallow$Table;"⟩, 7), (⟨"Tallow$Table", "guessedMark", "()I"⟩, 13)]
theorem lw_r1 : ∀ q ∈ lw_privs_1, lw_okq q := List.forall_mem_cons.mpr ⟨lw_p0, List.forall_mem_cons.mpr ⟨lw_p1, List.forall_mem_cons.mpr ⟨lw_p2, List.forall_mem_cons.mpr ⟨lw_p3, List.forall_mem_cons.mpr ⟨lw_p4, List.forall_mem_cons.mpr ⟨lw_p5, List.forall_mem_cons.mpr ⟨lw_p6, List.forall_mem_cons.mpr ⟨lw_p7, List.forall_mem_cons.mpr ⟨lw_p8, List.forall_mem_cons.mpr ⟨lw_p9, List.forall_mem_cons.mpr ⟨lw_p10, List.forall_mem_cons.mpr ⟨lw_p11, List.forall_mem_cons.mpr ⟨lw_p12, List.forall_mem_cons.mpr ⟨lw_p13, List.forall_mem_cons.mpr ⟨lw_p14, List.forall_mem_cons.mpr ⟨lw_p15, fun _ h => absurd h List.not_mem_nil⟩⟩⟩⟩⟩⟩⟩⟩⟩⟩⟩⟩⟩⟩⟩⟩
theorem lw_p16 : lw_okq (⟨"Tallow$Table", "nameCell", "(I)V"⟩, 13) := ⟨⟨by decide +kernel, by decide +kernel⟩, List.mem_of_getElem? (i := 79) (by decide +kernel), List.mem_of_getElem? (i := 504) (by decide +kernel), List.mem_of_getElem? (i := 505) (by decide +kernel)⟩
theorem lw_p17 : lw_okq (⟨"Tallow$Table", "guessedHeading", "(I)I"⟩, 13) := ⟨⟨by decide +kernel, by decide +kernel⟩, List.mem_of_getElem? (i := 79) (by decide +kernel), List.mem_of_getElem? (i := 547) (by decide +kernel), List.mem_of_getElem? (i := 548) (by decide +kernel)⟩
theorem lw_p18 : lw_okq (⟨"Tallow$Table", "talliedFilled", "()I"⟩, 13) := ⟨⟨by decide +kernel, by decide +kernel⟩, List.mem_of_getElem? (i := 79) (by decide +kernel), List.mem_of_getElem? (i := 569) (by decide +kernel), List.mem_of_getElem? (i := 570) (by decide +kernel)⟩
theorem lw_p19 : lw_okq (⟨"Tallow$Table", "markRepeats", "(I)V"⟩, 13) := ⟨⟨by decide +kernel, by decide +kernel⟩, List.mem_of_getElem? (i := 79) (by decide +kernel), List.mem_of_getElem? (i := 573) (by decide +kernel), List.mem_of_getElem? (i := 574) (by decide +kernel)⟩
theorem lw_p20 : lw_okq (⟨"Tallow$Table", "isAhead", "(III)Z"⟩, 13) := ⟨⟨by decide +kernel, by decide +kernel⟩, List.mem_of_getElem? (i := 79) (by decide +kernel), List.mem_of_getElem? (i := 577) (by decide +kernel), List.mem_of_getElem? (i := 578) (by decide +kernel)⟩
theorem lw_p21 : lw_okq (⟨"Tallow$Table", "findFaults", "(LTallow$Told;I)V"⟩, 13) := ⟨⟨by decide +kernel, by decide +kernel⟩, List.mem_of_getElem? (i := 79) (by decide +kernel), List.mem_of_getElem? (i := 585) (by decide +kernel), List.mem_of_getElem? (i := 586) (by decide +kernel)⟩
theorem lw_p22 : lw_okq (⟨"Tallow$Table", "faultOfCell", "(LTallow$Told;II)I"⟩, 13) := ⟨⟨by decide +kernel, by decide +kernel⟩, List.mem_of_getElem? (i := 79) (by decide +kernel), List.mem_of_getElem? (i := 594) (by decide +kernel), List.mem_of_getElem? (i := 595) (by decide +kernel)⟩
theorem lw_p23 : lw_okq (⟨"Tallow$Table", "isOfKind", "(II)Z"⟩, 13) := ⟨⟨by decide +kernel, by decide +kernel⟩, List.mem_of_getElem? (i := 79) (by decide +kernel), List.mem_of_getElem? (i := 598) (by decide +kernel), List.mem_of_getElem? (i := 599) (by decide +kernel)⟩
theorem lw_p24 : lw_okq (⟨"Tallow$Table", "keepOnce", "(I)V"⟩, 13) := ⟨⟨by decide +kernel, by decide +kernel⟩, List.mem_of_getElem? (i := 79) (by decide +kernel), List.mem_of_getElem? (i := 611) (by decide +kernel), List.mem_of_getElem? (i := 612) (by decide +kernel)⟩
theorem lw_p25 : lw_okq (⟨"Tallow$Table", "isSameRow", "(II)Z"⟩, 13) := ⟨⟨by decide +kernel, by decide +kernel⟩, List.mem_of_getElem? (i := 79) (by decide +kernel), List.mem_of_getElem? (i := 615) (by decide +kernel), List.mem_of_getElem? (i := 616) (by decide +kernel)⟩
theorem lw_p26 : lw_okq (⟨"Tallow$Table", "repeatsIn", "(I)I"⟩, 13) := ⟨⟨by decide +kernel, by decide +kernel⟩, List.mem_of_getElem? (i := 79) (by decide +kernel), List.mem_of_getElem? (i := 686) (by decide +kernel), List.mem_of_getElem? (i := 687) (by decide +kernel)⟩
theorem lw_p27 : lw_okq (⟨"Tallow$Table", "isFilledIn", "(II)Z"⟩, 13) := ⟨⟨by decide +kernel, by decide +kernel⟩, List.mem_of_getElem? (i := 79) (by decide +kernel), List.mem_of_getElem? (i := 699) (by decide +kernel), List.mem_of_getElem? (i := 700) (by decide +kernel)⟩
theorem lw_p28 : lw_okq (⟨"Tallow$Table", "cellOfKept", "(II)I"⟩, 13) := ⟨⟨by decide +kernel, by decide +kernel⟩, List.mem_of_getElem? (i := 79) (by decide +kernel), List.mem_of_getElem? (i := 703) (by decide +kernel), List.mem_of_getElem? (i := 704) (by decide +kernel)⟩
theorem lw_p29 : lw_okq (⟨"Tallow", "settledWith", "(I)LTallow$Table;"⟩, 7) := ⟨⟨by decide +kernel, by decide +kernel⟩, List.mem_of_getElem? (i := 17) (by decide +kernel), List.mem_of_getElem? (i := 764) (by decide +kernel), List.mem_of_getElem? (i := 765) (by decide +kernel)⟩
def lw_privs_2 : List (MethodName × Nat) := [(⟨"Tallow$Table", "nameCell", "(I)V"⟩, 13), (⟨"Tallow$Table", "guessedHeading", "(I)I"⟩, 13), (⟨"Tallow$Table", "talliedFilled", "()I"⟩, 13), (⟨"Tallow$Table", "markRepeats", "(I)V"⟩, 13), (⟨"Tallow$Table", "isAhead", "(III)Z"⟩, 13), (⟨"Tallow$Table", "findFaults", "(LTallow$Told;I)V"⟩, 13), (⟨"Tallow$Table", "faultOfCell", "(LTallow$Told;II)I"⟩, 13), (⟨"Tallow$Table", "isOfKind", "(II)Z"⟩, 13), (⟨"Tallow$Table", "keepOnce", "(I)V"⟩, 13), (⟨"Tallow$Table", "isSameRow", "(II)Z"⟩, 13), (⟨"Tallow$Table", "repeatsIn", "(I)I"⟩, 13), (⟨"Tallow$Table", "isFilledIn", "(II)Z"⟩, 13), (⟨"Tallow$Table", "cellOfKept", "(II)I"⟩, 13), (⟨"Tallow", "settledWith", "(I)LTallow$Table;"⟩, 7)]
theorem lw_r2 : ∀ q ∈ lw_privs_2, lw_okq q := List.forall_mem_cons.mpr ⟨lw_p16, List.forall_mem_cons.mpr ⟨lw_p17, List.forall_mem_cons.mpr ⟨lw_p18, List.forall_mem_cons.mpr ⟨lw_p19, List.forall_mem_cons.mpr ⟨lw_p20, List.forall_mem_cons.mpr ⟨lw_p21, List.forall_mem_cons.mpr ⟨lw_p22, List.forall_mem_cons.mpr ⟨lw_p23, List.forall_mem_cons.mpr ⟨lw_p24, List.forall_mem_cons.mpr ⟨lw_p25, List.forall_mem_cons.mpr ⟨lw_p26, List.forall_mem_cons.mpr ⟨lw_p27, List.forall_mem_cons.mpr ⟨lw_p28, List.forall_mem_cons.mpr ⟨lw_p29, fun _ h => absurd h List.not_mem_nil⟩⟩⟩⟩⟩⟩⟩⟩⟩⟩⟩⟩⟩⟩
def lw_privs : List (MethodName × Nat) := lw_privs_1 ++ (lw_privs_2)
def lw_tbl : List Cond := k2_sels lw_privs ++ tables_1
theorem lw_privs_ok : ∀ q ∈ lw_privs, lw_okq q := by
  show ∀ q ∈ lw_privs_1 ++ (lw_privs_2), lw_okq q
  exact List.forall_mem_append.mpr ⟨lw_r1, lw_r2⟩
/-- the streams that the claim lets the run draw from -/
abbrev lw_cs : List Choice := [Jvm.Choice.named "NaN.bits"]
theorem lw_bits : nanBits ∈ lw_cs := by first | decide | exact List.mem_cons_self | simp [lw_cs, nanBits]
-- names: classes
def RX0 : String := "Tallow$Faults"
def RX1 : String := "Tallow$Kinds"
def RX2 : String := "Tallow$Numbers"
def RX3 : String := "Tallow$Reading"
def RX4 : String := "Tallow$Table"
def RX5 : String := "Tallow$Text"
def RX6 : String := "Tallow$Told"
def RX7 : String := "Tallow"
def RJ9 : String := "java/lang/Math"
def RL : String := "TallowLaw"
def TX0 : u_T := fun k => match k with
  | 0 => ("Tallow$Faults", "rows", "LTallow$Numbers;", true)
  | 1 => ("Tallow$Faults", "columns", "LTallow$Numbers;", true)
  | 2 => ("Tallow$Faults", "codes", "LTallow$Numbers;", true)
  | _ => ("Tallow$Faults", "count", "I", false)
def tyX0 : Nat → FieldType := fun k => match k with
  | 0 => .object "Tallow$Numbers"
  | 1 => .object "Tallow$Numbers"
  | 2 => .object "Tallow$Numbers"
  | _ => .int
theorem nmX0 : ∀ a, a < 4 → ∀ b, b < 4 → a ≠ b → (TX0 a).2.1 ≠ (TX0 b).2.1 := by decide +kernel
theorem tyX0_ok : ∀ k, k < 4 → parseFieldDescriptor (TX0 k).2.2.1 = some (tyX0 k) := by decide +kernel
def TX2 : u_T := fun k => match k with
  | _ => ("Tallow$Numbers", "held", "[I", true)
def tyX2 : Nat → FieldType := fun k => match k with
  | _ => .array .int
theorem nmX2 : ∀ a, a < 1 → ∀ b, b < 1 → a ≠ b → (TX2 a).2.1 ≠ (TX2 b).2.1 := by decide +kernel
theorem tyX2_ok : ∀ k, k < 1 → parseFieldDescriptor (TX2 k).2.2.1 = some (tyX2 k) := by decide +kernel
def TX3 : u_T := fun k => match k with
  | 0 => ("Tallow$Reading", "signs", "LTallow$Numbers;", true)
  | 1 => ("Tallow$Reading", "starts", "LTallow$Numbers;", true)
  | 2 => ("Tallow$Reading", "lengths", "LTallow$Numbers;", true)
  | 3 => ("Tallow$Reading", "quoted", "LTallow$Numbers;", true)
  | 4 => ("Tallow$Reading", "cellFaults", "LTallow$Numbers;", true)
  | 5 => ("Tallow$Reading", "firstCells", "LTallow$Numbers;", true)
  | 6 => ("Tallow$Reading", "widths", "LTallow$Numbers;", true)
  | 7 => ("Tallow$Reading", "signCount", "I", false)
  | 8 => ("Tallow$Reading", "cellCount", "I", false)
  | 9 => ("Tallow$Reading", "rowCount", "I", false)
  | 10 => ("Tallow$Reading", "openWidth", "I", false)
  | 11 => ("Tallow$Reading", "openFault", "I", false)
  | 12 => ("Tallow$Reading", "usualWidth", "I", false)
  | _ => ("Tallow$Reading", "usualRows", "I", false)
def tyX3 : Nat → FieldType := fun k => match k with
  | 0 => .object "Tallow$Numbers"
  | 1 => .object "Tallow$Numbers"
  | 2 => .object "Tallow$Numbers"
  | 3 => .object "Tallow$Numbers"
  | 4 => .object "Tallow$Numbers"
  | 5 => .object "Tallow$Numbers"
  | 6 => .object "Tallow$Numbers"
  | 7 => .int
  | 8 => .int
  | 9 => .int
  | 10 => .int
  | 11 => .int
  | 12 => .int
  | _ => .int
theorem nmX3 : ∀ a, a < 14 → ∀ b, b < 14 → a ≠ b → (TX3 a).2.1 ≠ (TX3 b).2.1 := by decide +kernel
theorem tyX3_ok : ∀ k, k < 14 → parseFieldDescriptor (TX3 k).2.2.1 = some (tyX3 k) := by decide +kernel
def TX4 : u_T := fun k => match k with
  | 0 => ("Tallow$Table", "reading", "LTallow$Reading;", true)
  | 1 => ("Tallow$Table", "faults", "LTallow$Faults;", true)
  | 2 => ("Tallow$Table", "keptRows", "LTallow$Numbers;", true)
  | 3 => ("Tallow$Table", "kinds", "LTallow$Numbers;", true)
  | 4 => ("Tallow$Table", "values", "LTallow$Numbers;", true)
  | 5 => ("Tallow$Table", "repeats", "LTallow$Numbers;", true)
  | 6 => ("Tallow$Table", "columnKinds", "LTallow$Numbers;", true)
  | 7 => ("Tallow$Table", "tally", "LTallow$Numbers;", true)
  | 8 => ("Tallow$Table", "parter", "I", true)
  | 9 => ("Tallow$Table", "mark", "I", false)
  | 10 => ("Tallow$Table", "heading", "I", false)
  | 11 => ("Tallow$Table", "keptCount", "I", false)
  | _ => ("Tallow$Table", "settled", "Z", false)
def tyX4 : Nat → FieldType := fun k => match k with
  | 0 => .object "Tallow$Reading"
  | 1 => .object "Tallow$Faults"
  | 2 => .object "Tallow$Numbers"
  | 3 => .object "Tallow$Numbers"
  | 4 => .object "Tallow$Numbers"
  | 5 => .object "Tallow$Numbers"
  | 6 => .object "Tallow$Numbers"
  | 7 => .object "Tallow$Numbers"
  | 8 => .int
  | 9 => .int
  | 10 => .int
  | 11 => .int
  | _ => .boolean
theorem nmX4 : ∀ a, a < 13 → ∀ b, b < 13 → a ≠ b → (TX4 a).2.1 ≠ (TX4 b).2.1 := by decide +kernel
theorem tyX4_ok : ∀ k, k < 13 → parseFieldDescriptor (TX4 k).2.2.1 = some (tyX4 k) := by decide +kernel
def TX5 : u_T := fun k => match k with
  | 0 => ("Tallow$Text", "signs", "LTallow$Numbers;", true)
  | _ => ("Tallow$Text", "count", "I", false)
def tyX5 : Nat → FieldType := fun k => match k with
  | 0 => .object "Tallow$Numbers"
  | _ => .int
theorem nmX5 : ∀ a, a < 2 → ∀ b, b < 2 → a ≠ b → (TX5 a).2.1 ≠ (TX5 b).2.1 := by decide +kernel
theorem tyX5_ok : ∀ k, k < 2 → parseFieldDescriptor (TX5 k).2.2.1 = some (tyX5 k) := by decide +kernel
def TX6 : u_T := fun k => match k with
  | 0 => ("Tallow$Told", "choices", "LTallow$Numbers;", true)
  | 1 => ("Tallow$Told", "rules", "LTallow$Numbers;", true)
  | _ => ("Tallow$Told", "share", "I", false)
def tyX6 : Nat → FieldType := fun k => match k with
  | 0 => .object "Tallow$Numbers"
  | 1 => .object "Tallow$Numbers"
  | _ => .int
theorem nmX6 : ∀ a, a < 3 → ∀ b, b < 3 → a ≠ b → (TX6 a).2.1 ≠ (TX6 b).2.1 := by decide +kernel
theorem tyX6_ok : ∀ k, k < 3 → parseFieldDescriptor (TX6 k).2.2.1 = some (tyX6 k) := by decide +kernel
def TX7 : u_T := fun k => match k with
  | 0 => ("Tallow", "text", "LTallow$Text;", true)
  | 1 => ("Tallow", "told", "LTallow$Told;", true)
  | 2 => ("Tallow", "byComma", "LTallow$Table;", true)
  | 3 => ("Tallow", "bySemicolon", "LTallow$Table;", true)
  | 4 => ("Tallow", "byTab", "LTallow$Table;", true)
  | 5 => ("Tallow", "byBar", "LTallow$Table;", true)
  | _ => ("Tallow", "textIsRead", "Z", false)
def tyX7 : Nat → FieldType := fun k => match k with
  | 0 => .object "Tallow$Text"
  | 1 => .object "Tallow$Told"
  | 2 => .object "Tallow$Table"
  | 3 => .object "Tallow$Table"
  | 4 => .object "Tallow$Table"
  | 5 => .object "Tallow$Table"
  | _ => .boolean
theorem nmX7 : ∀ a, a < 7 → ∀ b, b < 7 → a ≠ b → (TX7 a).2.1 ≠ (TX7 b).2.1 := by decide +kernel
theorem tyX7_ok : ∀ k, k < 7 → parseFieldDescriptor (TX7 k).2.2.1 = some (tyX7 k) := by decide +kernel
abbrev mCl : List vw_C := [(RX0, TX0, 4), (RX2, TX2, 1), (RX3, TX3, 14), (RX4, TX4, 13), (RX5, TX5, 2), (RX6, TX6, 3), (RX7, TX7, 7)]
abbrev mFT : List (Nat → FieldType) := [tyX0, tyX2, tyX3, tyX4, tyX5, tyX6, tyX7]
-- names: methods
abbrev cX0_init : ByteArray := prog_2_method_1_code
def yX0_init : MethodName := ⟨RX0, "<init>", "()V"⟩
abbrev cX0_add : ByteArray := prog_2_method_2_code
def yX0_add : MethodName := ⟨RX0, "add", "(III)V"⟩
abbrev cX0_fact : ByteArray := prog_2_method_3_code
def yX0_fact : MethodName := ⟨RX0, "fact", "(II)I"⟩
abbrev cX0_inColumn : ByteArray := prog_2_method_4_code
def yX0_inColumn : MethodName := ⟨RX0, "inColumn", "(I)I"⟩
abbrev cX1_isWhole : ByteArray := prog_3_method_2_code
def yX1_isWhole : MethodName := ⟨RX1, "isWhole", "(LTallow$Numbers;II)Z"⟩
abbrev cX1_isDecimal : ByteArray := prog_3_method_3_code
def yX1_isDecimal : MethodName := ⟨RX1, "isDecimal", "(LTallow$Numbers;III)Z"⟩
abbrev cX1_isFlag : ByteArray := prog_3_method_4_code
def yX1_isFlag : MethodName := ⟨RX1, "isFlag", "(LTallow$Numbers;II)Z"⟩
abbrev cX1_wholeNumber : ByteArray := prog_3_method_5_code
def yX1_wholeNumber : MethodName := ⟨RX1, "wholeNumber", "(LTallow$Numbers;II)I"⟩
abbrev cX1_thousandths : ByteArray := prog_3_method_6_code
def yX1_thousandths : MethodName := ⟨RX1, "thousandths", "(LTallow$Numbers;II)I"⟩
abbrev cX1_dayNumber : ByteArray := prog_3_method_7_code
def yX1_dayNumber : MethodName := ⟨RX1, "dayNumber", "(LTallow$Numbers;II)I"⟩
abbrev cX1_isOneOrTwo : ByteArray := prog_3_method_8_code
def yX1_isOneOrTwo : MethodName := ⟨RX1, "isOneOrTwo", "(I)Z"⟩
abbrev cX1_behindMinus : ByteArray := prog_3_method_9_code
def yX1_behindMinus : MethodName := ⟨RX1, "behindMinus", "(LTallow$Numbers;II)I"⟩
abbrev cX1_digitsFrom : ByteArray := prog_3_method_10_code
def yX1_digitsFrom : MethodName := ⟨RX1, "digitsFrom", "(LTallow$Numbers;II)I"⟩
abbrev cX1_number : ByteArray := prog_3_method_11_code
def yX1_number : MethodName := ⟨RX1, "number", "(LTallow$Numbers;II)I"⟩
abbrev cX1_daysIn : ByteArray := prog_3_method_12_code
def yX1_daysIn : MethodName := ⟨RX1, "daysIn", "(II)I"⟩
abbrev cX1_daysAheadOfMonth : ByteArray := prog_3_method_13_code
def yX1_daysAheadOfMonth : MethodName := ⟨RX1, "daysAheadOfMonth", "(II)I"⟩
abbrev cX1_daysAheadOfYear : ByteArray := prog_3_method_14_code
def yX1_daysAheadOfYear : MethodName := ⟨RX1, "daysAheadOfYear", "(I)I"⟩
abbrev cX1_leapYearsTo : ByteArray := prog_3_method_15_code
def yX1_leapYearsTo : MethodName := ⟨RX1, "leapYearsTo", "(I)I"⟩
abbrev cX1_isLeap : ByteArray := prog_3_method_16_code
def yX1_isLeap : MethodName := ⟨RX1, "isLeap", "(I)Z"⟩
abbrev cX2_init : ByteArray := prog_4_method_1_code
def yX2_init : MethodName := ⟨RX2, "<init>", "(I)V"⟩
abbrev cX2_at : ByteArray := prog_4_method_2_code
def yX2_at : MethodName := ⟨RX2, "at", "(I)I"⟩
abbrev cX2_put : ByteArray := prog_4_method_3_code
def yX2_put : MethodName := ⟨RX2, "put", "(II)V"⟩
abbrev cX3_init : ByteArray := prog_5_method_1_code
def yX3_init : MethodName := ⟨RX3, "<init>", "()V"⟩
abbrev cX3_read : ByteArray := prog_5_method_2_code
def yX3_read : MethodName := ⟨RX3, "read", "(LTallow$Text;I)V"⟩
abbrev cX3_isMoreToRead : ByteArray := prog_5_method_3_code
def yX3_isMoreToRead : MethodName := ⟨RX3, "isMoreToRead", "(LTallow$Text;I)Z"⟩
abbrev cX3_readPlain : ByteArray := prog_5_method_4_code
def yX3_readPlain : MethodName := ⟨RX3, "readPlain", "(LTallow$Text;II)I"⟩
abbrev cX3_readQuoted : ByteArray := prog_5_method_5_code
def yX3_readQuoted : MethodName := ⟨RX3, "readQuoted", "(LTallow$Text;II)I"⟩
abbrev cX3_endOfCell : ByteArray := prog_5_method_6_code
def yX3_endOfCell : MethodName := ⟨RX3, "endOfCell", "(LTallow$Text;II)I"⟩
abbrev cX3_takeSigns : ByteArray := prog_5_method_7_code
def yX3_takeSigns : MethodName := ⟨RX3, "takeSigns", "(LTallow$Text;II)V"⟩
abbrev cX3_closeCell : ByteArray := prog_5_method_8_code
def yX3_closeCell : MethodName := ⟨RX3, "closeCell", "(IZ)V"⟩
abbrev cX3_closeRow : ByteArray := prog_5_method_9_code
def yX3_closeRow : MethodName := ⟨RX3, "closeRow", "()V"⟩
abbrev cX3_findUsualWidth : ByteArray := prog_5_method_10_code
def yX3_findUsualWidth : MethodName := ⟨RX3, "findUsualWidth", "()V"⟩
abbrev cX3_rowsOfWidth : ByteArray := prog_5_method_11_code
def yX3_rowsOfWidth : MethodName := ⟨RX3, "rowsOfWidth", "(I)I"⟩
abbrev cX3_columnCount : ByteArray := prog_5_method_12_code
def yX3_columnCount : MethodName := ⟨RX3, "columnCount", "()I"⟩
abbrev cX3_points : ByteArray := prog_5_method_13_code
def yX3_points : MethodName := ⟨RX3, "points", "()I"⟩
abbrev cX3_cellsIn : ByteArray := prog_5_method_14_code
def yX3_cellsIn : MethodName := ⟨RX3, "cellsIn", "(I)I"⟩
abbrev cX3_cellAt : ByteArray := prog_5_method_15_code
def yX3_cellAt : MethodName := ⟨RX3, "cellAt", "(II)I"⟩
abbrev cX3_haveSameSigns : ByteArray := prog_5_method_16_code
def yX3_haveSameSigns : MethodName := ⟨RX3, "haveSameSigns", "(II)Z"⟩
abbrev cX3_quotedCells : ByteArray := prog_5_method_17_code
def yX3_quotedCells : MethodName := ⟨RX3, "quotedCells", "()I"⟩
abbrev cX4_init : ByteArray := prog_6_method_1_code
def yX4_init : MethodName := ⟨RX4, "<init>", "(I)V"⟩
abbrev cX4_settle : ByteArray := prog_6_method_2_code
def yX4_settle : MethodName := ⟨RX4, "settle", "(LTallow$Told;)V"⟩
abbrev cX4_guessedMark : ByteArray := prog_6_method_3_code
def yX4_guessedMark : MethodName := ⟨RX4, "guessedMark", "()I"⟩
abbrev cX4_nameCell : ByteArray := prog_6_method_4_code
def yX4_nameCell : MethodName := ⟨RX4, "nameCell", "(I)V"⟩
abbrev cX4_guessedHeading : ByteArray := prog_6_method_5_code
def yX4_guessedHeading : MethodName := ⟨RX4, "guessedHeading", "(I)I"⟩
abbrev cX4_tallyKinds : ByteArray := prog_6_method_6_code
def yX4_tallyKinds : MethodName := ⟨RX4, "tallyKinds", "(II)V"⟩
abbrev cX4_talliedFilled : ByteArray := prog_6_method_7_code
def yX4_talliedFilled : MethodName := ⟨RX4, "talliedFilled", "()I"⟩
abbrev cX4_talliedKind : ByteArray := prog_6_method_8_code
def yX4_talliedKind : MethodName := ⟨RX4, "talliedKind", "(I)I"⟩
abbrev cX4_markRepeats : ByteArray := prog_6_method_9_code
def yX4_markRepeats : MethodName := ⟨RX4, "markRepeats", "(I)V"⟩
abbrev cX4_isAhead : ByteArray := prog_6_method_10_code
def yX4_isAhead : MethodName := ⟨RX4, "isAhead", "(III)Z"⟩
abbrev cX4_findFaults : ByteArray := prog_6_method_11_code
def yX4_findFaults : MethodName := ⟨RX4, "findFaults", "(LTallow$Told;I)V"⟩
abbrev cX4_faultOfCell : ByteArray := prog_6_method_12_code
def yX4_faultOfCell : MethodName := ⟨RX4, "faultOfCell", "(LTallow$Told;II)I"⟩
abbrev cX4_isOfKind : ByteArray := prog_6_method_13_code
def yX4_isOfKind : MethodName := ⟨RX4, "isOfKind", "(II)Z"⟩
abbrev cX4_keepOnce : ByteArray := prog_6_method_14_code
def yX4_keepOnce : MethodName := ⟨RX4, "keepOnce", "(I)V"⟩
abbrev cX4_isSameRow : ByteArray := prog_6_method_15_code
def yX4_isSameRow : MethodName := ⟨RX4, "isSameRow", "(II)Z"⟩
abbrev cX4_hasColumn : ByteArray := prog_6_method_16_code
def yX4_hasColumn : MethodName := ⟨RX4, "hasColumn", "(I)Z"⟩
abbrev cX4_hasKept : ByteArray := prog_6_method_17_code
def yX4_hasKept : MethodName := ⟨RX4, "hasKept", "(I)Z"⟩
abbrev cX4_choice : ByteArray := prog_6_method_18_code
def yX4_choice : MethodName := ⟨RX4, "choice", "(I)I"⟩
abbrev cX4_howMany : ByteArray := prog_6_method_19_code
def yX4_howMany : MethodName := ⟨RX4, "howMany", "(I)I"⟩
abbrev cX4_factOfCell : ByteArray := prog_6_method_20_code
def yX4_factOfCell : MethodName := ⟨RX4, "factOfCell", "(II)I"⟩
abbrev cX4_factOfColumn : ByteArray := prog_6_method_21_code
def yX4_factOfColumn : MethodName := ⟨RX4, "factOfColumn", "(II)I"⟩
abbrev cX4_repeatsIn : ByteArray := prog_6_method_22_code
def yX4_repeatsIn : MethodName := ⟨RX4, "repeatsIn", "(I)I"⟩
abbrev cX4_cellOfKept : ByteArray := prog_6_method_23_code
def yX4_cellOfKept : MethodName := ⟨RX4, "cellOfKept", "(II)I"⟩
abbrev cX4_valueIn : ByteArray := prog_6_method_24_code
def yX4_valueIn : MethodName := ⟨RX4, "valueIn", "(II)I"⟩
abbrev cX4_isFilledIn : ByteArray := prog_6_method_25_code
def yX4_isFilledIn : MethodName := ⟨RX4, "isFilledIn", "(II)Z"⟩
abbrev cX4_extremeOf : ByteArray := prog_6_method_26_code
def yX4_extremeOf : MethodName := ⟨RX4, "extremeOf", "(IZ)I"⟩
abbrev cX4_total : ByteArray := prog_6_method_27_code
def yX4_total : MethodName := ⟨RX4, "total", "(I)J"⟩
abbrev cX4_filledInKept : ByteArray := prog_6_method_28_code
def yX4_filledInKept : MethodName := ⟨RX4, "filledInKept", "(I)I"⟩
abbrev cX4_placeOf : ByteArray := prog_6_method_29_code
def yX4_placeOf : MethodName := ⟨RX4, "placeOf", "(II)I"⟩
abbrev cX5_init : ByteArray := prog_7_method_1_code
def yX5_init : MethodName := ⟨RX5, "<init>", "()V"⟩
abbrev cX5_hasRoomFor : ByteArray := prog_7_method_2_code
def yX5_hasRoomFor : MethodName := ⟨RX5, "hasRoomFor", "(I)Z"⟩
abbrev cX5_write : ByteArray := prog_7_method_3_code
def yX5_write : MethodName := ⟨RX5, "write", "(I)V"⟩
abbrev cX5_writeNumber : ByteArray := prog_7_method_4_code
def yX5_writeNumber : MethodName := ⟨RX5, "writeNumber", "(I)V"⟩
abbrev cX5_digitsOf : ByteArray := prog_7_method_5_code
def yX5_digitsOf : MethodName := ⟨RX5, "digitsOf", "(I)I"⟩
abbrev cX6_init : ByteArray := prog_8_method_1_code
def yX6_init : MethodName := ⟨RX6, "<init>", "()V"⟩
abbrev cX6_mustBeFilled : ByteArray := prog_8_method_2_code
def yX6_mustBeFilled : MethodName := ⟨RX6, "mustBeFilled", "(I)Z"⟩
abbrev cX6_mustDiffer : ByteArray := prog_8_method_3_code
def yX6_mustDiffer : MethodName := ⟨RX6, "mustDiffer", "(I)Z"⟩
abbrev cX7_init : ByteArray := prog_1_method_1_code
def yX7_init : MethodName := ⟨RX7, "<init>", "()V"⟩
abbrev cX7_sign : ByteArray := prog_1_method_2_code
def yX7_sign : MethodName := ⟨RX7, "sign", "(I)I"⟩
abbrev cX7_digits : ByteArray := prog_1_method_3_code
def yX7_digits : MethodName := ⟨RX7, "digits", "(I)I"⟩
abbrev cX7_letters : ByteArray := prog_1_method_4_code
def yX7_letters : MethodName := ⟨RX7, "letters", "(II)I"⟩
abbrev cX7_three : ByteArray := prog_1_method_5_code
def yX7_three : MethodName := ⟨RX7, "three", "(IIII)I"⟩
abbrev cX7_tell : ByteArray := prog_1_method_7_code
def yX7_tell : MethodName := ⟨RX7, "tell", "(II)I"⟩
abbrev cX7_setShare : ByteArray := prog_1_method_8_code
def yX7_setShare : MethodName := ⟨RX7, "setShare", "(I)I"⟩
abbrev cX7_setRule : ByteArray := prog_1_method_9_code
def yX7_setRule : MethodName := ⟨RX7, "setRule", "(II)I"⟩
abbrev cX7_used : ByteArray := prog_1_method_10_code
def yX7_used : MethodName := ⟨RX7, "used", "(I)I"⟩
abbrev cX7_score : ByteArray := prog_1_method_11_code
def yX7_score : MethodName := ⟨RX7, "score", "(I)I"⟩
abbrev cX7_many : ByteArray := prog_1_method_12_code
def yX7_many : MethodName := ⟨RX7, "many", "(I)I"⟩
abbrev cX7_width : ByteArray := prog_1_method_13_code
def yX7_width : MethodName := ⟨RX7, "width", "(I)I"⟩
abbrev cX7_cell : ByteArray := prog_1_method_14_code
def yX7_cell : MethodName := ⟨RX7, "cell", "(III)I"⟩
abbrev cX7_signAt : ByteArray := prog_1_method_15_code
def yX7_signAt : MethodName := ⟨RX7, "signAt", "(III)I"⟩
abbrev cX7_column : ByteArray := prog_1_method_16_code
def yX7_column : MethodName := ⟨RX7, "column", "(II)I"⟩
abbrev cX7_extreme : ByteArray := prog_1_method_17_code
def yX7_extreme : MethodName := ⟨RX7, "extreme", "(II)I"⟩
abbrev cX7_sum : ByteArray := prog_1_method_18_code
def yX7_sum : MethodName := ⟨RX7, "sum", "(I)J"⟩
abbrev cX7_mean : ByteArray := prog_1_method_19_code
def yX7_mean : MethodName := ⟨RX7, "mean", "(I)D"⟩
abbrev cX7_fault : ByteArray := prog_1_method_20_code
def yX7_fault : MethodName := ⟨RX7, "fault", "(II)I"⟩
abbrev cX7_kept : ByteArray := prog_1_method_21_code
def yX7_kept : MethodName := ⟨RX7, "kept", "(I)I"⟩
abbrev cX7_value : ByteArray := prog_1_method_22_code
def yX7_value : MethodName := ⟨RX7, "value", "(II)I"⟩
abbrev cX7_find : ByteArray := prog_1_method_23_code
def yX7_find : MethodName := ⟨RX7, "find", "(II)I"⟩
abbrev cX7_keptWith : ByteArray := prog_1_method_24_code
def yX7_keptWith : MethodName := ⟨RX7, "keptWith", "(I)I"⟩
abbrev cX7_kindWith : ByteArray := prog_1_method_25_code
def yX7_kindWith : MethodName := ⟨RX7, "kindWith", "(II)I"⟩
abbrev cX7_digest : ByteArray := prog_1_method_26_code
def yX7_digest : MethodName := ⟨RX7, "digest", "()J"⟩
abbrev cX7_withRows : ByteArray := prog_1_method_27_code
def yX7_withRows : MethodName := ⟨RX7, "withRows", "(JLTallow$Table;)J"⟩
abbrev cX7_withColumns : ByteArray := prog_1_method_28_code
def yX7_withColumns : MethodName := ⟨RX7, "withColumns", "(JLTallow$Table;)J"⟩
abbrev cX7_withFaultsAndKept : ByteArray := prog_1_method_29_code
def yX7_withFaultsAndKept : MethodName := ⟨RX7, "withFaultsAndKept", "(JLTallow$Table;)J"⟩
abbrev cX7_mixed : ByteArray := prog_1_method_30_code
def yX7_mixed : MethodName := ⟨RX7, "mixed", "(JJ)J"⟩
abbrev cX7_isSign : ByteArray := prog_1_method_31_code
def yX7_isSign : MethodName := ⟨RX7, "isSign", "(I)Z"⟩
abbrev cX7_isParter : ByteArray := prog_1_method_32_code
def yX7_isParter : MethodName := ⟨RX7, "isParter", "(I)Z"⟩
abbrev cX7_isShare : ByteArray := prog_1_method_33_code
def yX7_isShare : MethodName := ⟨RX7, "isShare", "(I)Z"⟩
abbrev cX7_tableNow : ByteArray := prog_1_method_34_code
def yX7_tableNow : MethodName := ⟨RX7, "tableNow", "()LTallow$Table;"⟩
abbrev cX7_settledWith : ByteArray := prog_1_method_35_code
def yX7_settledWith : MethodName := ⟨RX7, "settledWith", "(I)LTallow$Table;"⟩
abbrev cX7_tableWith : ByteArray := prog_1_method_36_code
def yX7_tableWith : MethodName := ⟨RX7, "tableWith", "(I)LTallow$Table;"⟩
abbrev cX7_readText : ByteArray := prog_1_method_37_code
def yX7_readText : MethodName := ⟨RX7, "readText", "()V"⟩
abbrev cX7_unsettleAll : ByteArray := prog_1_method_38_code
def yX7_unsettleAll : MethodName := ⟨RX7, "unsettleAll", "()V"⟩
abbrev cX7_guessedParter : ByteArray := prog_1_method_39_code
def yX7_guessedParter : MethodName := ⟨RX7, "guessedParter", "()I"⟩
abbrev cJ9_max_7cf53 : ByteArray := prog_19_method_65_code
def yJ9_max_7cf53 : MethodName := ⟨RJ9, "max", "(II)I"⟩
abbrev cJ9_min_7cf53 : ByteArray := prog_19_method_69_code
def yJ9_min_7cf53 : MethodName := ⟨RJ9, "min", "(II)I"⟩
abbrev cL_below : ByteArray := method_2_code
def yL_below : MethodName := ⟨RL, "below", "(II)I"⟩
abbrev cL_cell : ByteArray := method_3_code
def yL_cell : MethodName := ⟨RL, "cell", "([II)I"⟩
abbrev cL_law : ByteArray := code
def yL_law : MethodName := ⟨RL, "law", "([I)Z"⟩
def mC0 : List (Nat × Instr × Nat × Nat × Nat × Nat) := [(0, .aload_n 0, 0, 0, 0, 0), (1, .invokespecial 3, 0, 998, 0, 184), (4, .aload_n 0, 0, 0, 0, 0), (5, .new 9, 0, 1, 0, 185), (8, .dup, 0, 0, 0, 0), (9, .sipush 561, 0, 0, 0, 0), (12, .invokespecial 11, 0, 19, 1, 186), (15, .putfield 14, 0, 0, 0, 187), (18, .aload_n 0, 0, 0, 0, 0), (19, .new 9, 0, 1, 0, 185), (22, .dup, 0, 0, 0, 0), (23, .sipush 561, 0, 0, 0, 0), (26, .invokespecial 11, 0, 19, 1, 186), (29, .putfield 20, 0, 0, 1, 188), (32, .aload_n 0, 0, 0, 0, 0), (33, .new 9, 0, 1, 0, 185), (36, .dup, 0, 0, 0, 0), (37, .sipush 561, 0, 0, 0, 0), (40, .invokespecial 11, 0, 19, 1, 186), (43, .putfield 23, 0, 0, 2, 189), (46, .aload_n 0, 0, 0, 0, 0), (47, .iconst 0, 0, 0, 0, 0), (48, .putfield 26, 0, 0, 3, 190), (51, .return_, 0, 0, 0, 0)]
def mC1 : List (Nat × Instr × Nat × Nat × Nat × Nat) := [(0, .aload_n 0, 0, 0, 0, 0), (1, .getfield 26, 0, 0, 3, 190), (4, .sipush 561, 0, 0, 0, 0), (7, .if_icmp .ge 49, 0, 0, 0, 0), (10, .aload_n 0, 0, 0, 0, 0), (11, .getfield 14, 0, 0, 0, 187), (14, .aload_n 0, 0, 0, 0, 0), (15, .getfield 26, 0, 0, 3, 190), (18, .iload_n 1, 0, 0, 0, 0), (19, .invokevirtual 30, 0, 21, 2, 622), (22, .aload_n 0, 0, 0, 0, 0), (23, .getfield 20, 0, 0, 1, 188), (26, .aload_n 0, 0, 0, 0, 0), (27, .getfield 26, 0, 0, 3, 190), (30, .iload_n 2, 0, 0, 0, 0), (31, .invokevirtual 30, 0, 21, 2, 622), (34, .aload_n 0, 0, 0, 0, 0), (35, .getfield 23, 0, 0, 2, 189), (38, .aload_n 0, 0, 0, 0, 0), (39, .getfield 26, 0, 0, 3, 190), (42, .iload_n 3, 0, 0, 0, 0), (43, .invokevirtual 30, 0, 21, 2, 622), (46, .aload_n 0, 0, 0, 0, 0), (47, .dup, 0, 0, 0, 0), (48, .getfield 26, 0, 0, 3, 190), (51, .iconst 1, 0, 0, 0, 0), (52, .iadd, 0, 0, 0, 0), (53, .putfield 26, 0, 0, 3, 190), (56, .return_, 0, 0, 0, 0)]
def mC2 : List (Nat × Instr × Nat × Nat × Nat × Nat) := [(0, .iload_n 2, 0, 0, 0, 0), (1, .lookupswitch 45 #[(0, 27), (1, 36)], 27, 0, 0, 0), (28, .aload_n 0, 0, 0, 0, 0), (29, .getfield 14, 0, 0, 0, 187), (32, .iload_n 1, 0, 0, 0, 0), (33, .invokevirtual 34, 0, 20, 1, 714), (36, .ireturn, 0, 0, 0, 0), (37, .aload_n 0, 0, 0, 0, 0), (38, .getfield 20, 0, 0, 1, 188), (41, .iload_n 1, 0, 0, 0, 0), (42, .invokevirtual 34, 0, 20, 1, 714), (45, .ireturn, 0, 0, 0, 0), (46, .aload_n 0, 0, 0, 0, 0), (47, .getfield 23, 0, 0, 2, 189), (50, .iload_n 1, 0, 0, 0, 0), (51, .invokevirtual 34, 0, 20, 1, 714), (54, .ireturn, 0, 0, 0, 0)]
def mC3 : List (Nat × Instr × Nat × Nat × Nat × Nat) := [(0, .iconst 0, 0, 0, 0, 0), (1, .istore_n 2, 0, 0, 0, 0), (2, .iconst 0, 0, 0, 0, 0), (3, .istore_n 3, 0, 0, 0, 0), (4, .iload_n 3, 0, 0, 0, 0), (5, .aload_n 0, 0, 0, 0, 0), (6, .getfield 26, 0, 0, 3, 190), (9, .if_icmp .ge 24, 0, 0, 0, 0), (12, .aload_n 0, 0, 0, 0, 0), (13, .getfield 20, 0, 0, 1, 188), (16, .iload_n 3, 0, 0, 0, 0), (17, .invokevirtual 34, 0, 20, 1, 714), (20, .iload_n 1, 0, 0, 0, 0), (21, .if_icmp .ne 6, 0, 0, 0, 0), (24, .iinc 2 1, 0, 0, 0, 0), (27, .iinc 3 1, 0, 0, 0, 0), (30, .goto (-26), 0, 0, 0, 0), (33, .iload_n 2, 0, 0, 0, 0), (34, .ireturn, 0, 0, 0, 0)]
def mC4 : List (Nat × Instr × Nat × Nat × Nat × Nat) := [(0, .aload_n 0, 0, 0, 0, 0), (1, .iload_n 1, 0, 0, 0, 0), (2, .iload_n 2, 0, 0, 0, 0), (3, .invokestatic 9, 0, 11, 3, 526), (6, .istore_n 3, 0, 0, 0, 0), (7, .aload_n 0, 0, 0, 0, 0), (8, .iload_n 3, 0, 0, 0, 0), (9, .iload_n 2, 0, 0, 0, 0), (10, .invokestatic 15, 0, 12, 3, 530), (13, .istore 4, 0, 0, 0, 0), (15, .iload 4, 0, 0, 0, 0), (17, .iconst 1, 0, 0, 0, 0), (18, .if_icmp .lt 22, 0, 0, 0, 0), (21, .iload 4, 0, 0, 0, 0), (23, .bipush 6, 0, 0, 0, 0), (25, .if_icmp .gt 15, 0, 0, 0, 0), (28, .iload_n 3, 0, 0, 0, 0), (29, .iload 4, 0, 0, 0, 0), (31, .iadd, 0, 0, 0, 0), (32, .iload_n 2, 0, 0, 0, 0), (33, .if_icmp .ne 7, 0, 0, 0, 0), (36, .iconst 1, 0, 0, 0, 0), (37, .goto 4, 0, 0, 0, 0), (40, .iconst 0, 0, 0, 0, 0), (41, .ireturn, 0, 0, 0, 0)]
def mC5 : List (Nat × Instr × Nat × Nat × Nat × Nat) := [(0, .aload_n 0, 0, 0, 0, 0), (1, .iload_n 1, 0, 0, 0, 0), (2, .iload_n 2, 0, 0, 0, 0), (3, .invokestatic 9, 0, 11, 3, 526), (6, .istore 4, 0, 0, 0, 0), (8, .aload_n 0, 0, 0, 0, 0), (9, .iload 4, 0, 0, 0, 0), (11, .iload_n 2, 0, 0, 0, 0), (12, .invokestatic 15, 0, 12, 3, 530), (15, .istore 5, 0, 0, 0, 0), (17, .iload 4, 0, 0, 0, 0), (19, .iload 5, 0, 0, 0, 0), (21, .iadd, 0, 0, 0, 0), (22, .istore 6, 0, 0, 0, 0), (24, .iload 5, 0, 0, 0, 0), (26, .iconst 1, 0, 0, 0, 0), (27, .if_icmp .lt 26, 0, 0, 0, 0), (30, .iload 5, 0, 0, 0, 0), (32, .bipush 6, 0, 0, 0, 0), (34, .if_icmp .gt 19, 0, 0, 0, 0), (37, .iload 6, 0, 0, 0, 0), (39, .iload_n 2, 0, 0, 0, 0), (40, .if_icmp .ge 13, 0, 0, 0, 0), (43, .aload_n 0, 0, 0, 0, 0), (44, .iload 6, 0, 0, 0, 0), (46, .invokevirtual 18, 0, 20, 1, 529), (49, .iload_n 3, 0, 0, 0, 0), (50, .if_icmp .eq 5, 0, 0, 0, 0), (53, .iconst 0, 0, 0, 0, 0), (54, .ireturn, 0, 0, 0, 0), (55, .aload_n 0, 0, 0, 0, 0), (56, .iload 6, 0, 0, 0, 0), (58, .iconst 1, 0, 0, 0, 0), (59, .iadd, 0, 0, 0, 0), (60, .iload_n 2, 0, 0, 0, 0), (61, .invokestatic 15, 0, 12, 3, 530), (64, .istore 7, 0, 0, 0, 0), (66, .iload 7, 0, 0, 0, 0), (68, .iconst 1, 0, 0, 0, 0), (69, .if_icmp .lt 24, 0, 0, 0, 0), (72, .iload 7, 0, 0, 0, 0), (74, .iconst 3, 0, 0, 0, 0), (75, .if_icmp .gt 18, 0, 0, 0, 0), (78, .iload 6, 0, 0, 0, 0), (80, .iconst 1, 0, 0, 0, 0), (81, .iadd, 0, 0, 0, 0), (82, .iload 7, 0, 0, 0, 0), (84, .iadd, 0, 0, 0, 0), (85, .iload_n 2, 0, 0, 0, 0), (86, .if_icmp .ne 7, 0, 0, 0, 0), (89, .iconst 1, 0, 0, 0, 0), (90, .goto 4, 0, 0, 0, 0), (93, .iconst 0, 0, 0, 0, 0), (94, .ireturn, 0, 0, 0, 0)]
def mC6 : List (Nat × Instr × Nat × Nat × Nat × Nat) := [(0, .iload_n 2, 0, 0, 0, 0), (1, .iload_n 1, 0, 0, 0, 0), (2, .isub, 0, 0, 0, 0), (3, .iconst 1, 0, 0, 0, 0), (4, .if_icmp .ne 27, 0, 0, 0, 0), (7, .aload_n 0, 0, 0, 0, 0), (8, .iload_n 1, 0, 0, 0, 0), (9, .invokevirtual 18, 0, 20, 1, 529), (12, .bipush 44, 0, 0, 0, 0), (14, .if_icmp .eq 13, 0, 0, 0, 0), (17, .aload_n 0, 0, 0, 0, 0), (18, .iload_n 1, 0, 0, 0, 0), (19, .invokevirtual 18, 0, 20, 1, 529), (22, .bipush 33, 0, 0, 0, 0), (24, .if_icmp .ne 7, 0, 0, 0, 0), (27, .iconst 1, 0, 0, 0, 0), (28, .goto 4, 0, 0, 0, 0), (31, .iconst 0, 0, 0, 0, 0), (32, .ireturn, 0, 0, 0, 0)]
def mC7 : List (Nat × Instr × Nat × Nat × Nat × Nat) := [(0, .aload_n 0, 0, 0, 0, 0), (1, .aload_n 0, 0, 0, 0, 0), (2, .iload_n 1, 0, 0, 0, 0), (3, .iload_n 2, 0, 0, 0, 0), (4, .invokestatic 9, 0, 11, 3, 526), (7, .iload_n 2, 0, 0, 0, 0), (8, .invokestatic 24, 0, 13, 3, 543), (11, .istore_n 3, 0, 0, 0, 0), (12, .aload_n 0, 0, 0, 0, 0), (13, .iload_n 1, 0, 0, 0, 0), (14, .invokevirtual 18, 0, 20, 1, 529), (17, .bipush 8, 0, 0, 0, 0), (19, .if_icmp .ne 8, 0, 0, 0, 0), (22, .iload_n 3, 0, 0, 0, 0), (23, .ineg, 0, 0, 0, 0), (24, .goto 4, 0, 0, 0, 0), (27, .iload_n 3, 0, 0, 0, 0), (28, .ireturn, 0, 0, 0, 0)]
def mC8 : List (Nat × Instr × Nat × Nat × Nat × Nat) := [(0, .aload_n 0, 0, 0, 0, 0), (1, .iload_n 1, 0, 0, 0, 0), (2, .iload_n 2, 0, 0, 0, 0), (3, .invokestatic 9, 0, 11, 3, 526), (6, .istore_n 3, 0, 0, 0, 0), (7, .iload_n 3, 0, 0, 0, 0), (8, .aload_n 0, 0, 0, 0, 0), (9, .iload_n 3, 0, 0, 0, 0), (10, .iload_n 2, 0, 0, 0, 0), (11, .invokestatic 15, 0, 12, 3, 530), (14, .iadd, 0, 0, 0, 0), (15, .istore 4, 0, 0, 0, 0), (17, .aload_n 0, 0, 0, 0, 0), (18, .iload_n 3, 0, 0, 0, 0), (19, .iload 4, 0, 0, 0, 0), (21, .invokestatic 24, 0, 13, 3, 543), (24, .sipush 1000, 0, 0, 0, 0), (27, .imul, 0, 0, 0, 0), (28, .istore 5, 0, 0, 0, 0), (30, .bipush 100, 0, 0, 0, 0), (32, .istore 6, 0, 0, 0, 0), (34, .iload 4, 0, 0, 0, 0), (36, .iconst 1, 0, 0, 0, 0), (37, .iadd, 0, 0, 0, 0), (38, .istore 7, 0, 0, 0, 0), (40, .iload 7, 0, 0, 0, 0), (42, .iload_n 2, 0, 0, 0, 0), (43, .if_icmp .ge 33, 0, 0, 0, 0), (46, .iload 5, 0, 0, 0, 0), (48, .aload_n 0, 0, 0, 0, 0), (49, .iload 7, 0, 0, 0, 0), (51, .invokevirtual 18, 0, 20, 1, 529), (54, .bipush 10, 0, 0, 0, 0), (56, .isub, 0, 0, 0, 0), (57, .iload 6, 0, 0, 0, 0), (59, .imul, 0, 0, 0, 0), (60, .iadd, 0, 0, 0, 0), (61, .istore 5, 0, 0, 0, 0), (63, .iload 6, 0, 0, 0, 0), (65, .bipush 10, 0, 0, 0, 0), (67, .idiv, 0, 0, 0, 0), (68, .istore 6, 0, 0, 0, 0), (70, .iinc 7 1, 0, 0, 0, 0), (73, .goto (-33), 0, 0, 0, 0), (76, .aload_n 0, 0, 0, 0, 0), (77, .iload_n 1, 0, 0, 0, 0), (78, .invokevirtual 18, 0, 20, 1, 529), (81, .bipush 8, 0, 0, 0, 0), (83, .if_icmp .ne 9, 0, 0, 0, 0), (86, .iload 5, 0, 0, 0, 0), (88, .ineg, 0, 0, 0, 0), (89, .goto 5, 0, 0, 0, 0), (92, .iload 5, 0, 0, 0, 0), (94, .ireturn, 0, 0, 0, 0)]
def mC9 : List (Nat × Instr × Nat × Nat × Nat × Nat) := [(0, .iload_n 1, 0, 0, 0, 0), (1, .aload_n 0, 0, 0, 0, 0), (2, .iload_n 1, 0, 0, 0, 0), (3, .iload_n 2, 0, 0, 0, 0), (4, .invokestatic 15, 0, 12, 3, 530), (7, .iadd, 0, 0, 0, 0), (8, .istore_n 3, 0, 0, 0, 0), (9, .iload_n 3, 0, 0, 0, 0), (10, .iconst 1, 0, 0, 0, 0), (11, .iadd, 0, 0, 0, 0), (12, .aload_n 0, 0, 0, 0, 0), (13, .iload_n 3, 0, 0, 0, 0), (14, .iconst 1, 0, 0, 0, 0), (15, .iadd, 0, 0, 0, 0), (16, .iload_n 2, 0, 0, 0, 0), (17, .invokestatic 15, 0, 12, 3, 530), (20, .iadd, 0, 0, 0, 0), (21, .istore 4, 0, 0, 0, 0), (23, .iload 4, 0, 0, 0, 0), (25, .iconst 1, 0, 0, 0, 0), (26, .iadd, 0, 0, 0, 0), (27, .aload_n 0, 0, 0, 0, 0), (28, .iload 4, 0, 0, 0, 0), (30, .iconst 1, 0, 0, 0, 0), (31, .iadd, 0, 0, 0, 0), (32, .iload_n 2, 0, 0, 0, 0), (33, .invokestatic 15, 0, 12, 3, 530), (36, .iadd, 0, 0, 0, 0), (37, .istore 5, 0, 0, 0, 0), (39, .iload_n 3, 0, 0, 0, 0), (40, .iload_n 1, 0, 0, 0, 0), (41, .isub, 0, 0, 0, 0), (42, .invokestatic 27, 0, 10, 1, 540), (45, .ifCond .eq 57, 0, 0, 0, 0), (48, .iload 4, 0, 0, 0, 0), (50, .iload_n 3, 0, 0, 0, 0), (51, .isub, 0, 0, 0, 0), (52, .iconst 1, 0, 0, 0, 0), (53, .isub, 0, 0, 0, 0), (54, .invokestatic 27, 0, 10, 1, 540), (57, .ifCond .eq 45, 0, 0, 0, 0), (60, .iload 5, 0, 0, 0, 0), (62, .iload 4, 0, 0, 0, 0), (64, .isub, 0, 0, 0, 0), (65, .iconst 1, 0, 0, 0, 0), (66, .isub, 0, 0, 0, 0), (67, .iconst 4, 0, 0, 0, 0), (68, .if_icmp .ne 34, 0, 0, 0, 0), (71, .iload 5, 0, 0, 0, 0), (73, .iload_n 2, 0, 0, 0, 0), (74, .if_icmp .ne 28, 0, 0, 0, 0), (77, .aload_n 0, 0, 0, 0, 0), (78, .iload_n 3, 0, 0, 0, 0), (79, .invokevirtual 18, 0, 20, 1, 529), (82, .bipush 9, 0, 0, 0, 0), (84, .if_icmp .ne 18, 0, 0, 0, 0), (87, .aload_n 0, 0, 0, 0, 0), (88, .iload 4, 0, 0, 0, 0), (90, .invokevirtual 18, 0, 20, 1, 529), (93, .bipush 9, 0, 0, 0, 0), (95, .if_icmp .ne 7, 0, 0, 0, 0), (98, .iconst 1, 0, 0, 0, 0), (99, .goto 4, 0, 0, 0, 0), (102, .iconst 0, 0, 0, 0, 0), (103, .istore 6, 0, 0, 0, 0), (105, .iload 6, 0, 0, 0, 0), (107, .ifCond .ne 5, 0, 0, 0, 0), (110, .iconst (-1), 0, 0, 0, 0), (111, .ireturn, 0, 0, 0, 0), (112, .aload_n 0, 0, 0, 0, 0), (113, .iload_n 1, 0, 0, 0, 0), (114, .iload_n 3, 0, 0, 0, 0), (115, .invokestatic 24, 0, 13, 3, 543), (118, .istore 7, 0, 0, 0, 0), (120, .aload_n 0, 0, 0, 0, 0), (121, .iload_n 3, 0, 0, 0, 0), (122, .iconst 1, 0, 0, 0, 0), (123, .iadd, 0, 0, 0, 0), (124, .iload 4, 0, 0, 0, 0), (126, .invokestatic 24, 0, 13, 3, 543), (129, .istore 8, 0, 0, 0, 0), (131, .aload_n 0, 0, 0, 0, 0), (132, .iload 4, 0, 0, 0, 0), (134, .iconst 1, 0, 0, 0, 0), (135, .iadd, 0, 0, 0, 0), (136, .iload 5, 0, 0, 0, 0), (138, .invokestatic 24, 0, 13, 3, 543), (141, .istore 9, 0, 0, 0, 0), (143, .iload 9, 0, 0, 0, 0), (145, .sipush 1900, 0, 0, 0, 0), (148, .if_icmp .lt 29, 0, 0, 0, 0), (151, .iload 9, 0, 0, 0, 0), (153, .sipush 2099, 0, 0, 0, 0), (156, .if_icmp .gt 21, 0, 0, 0, 0), (159, .iload 7, 0, 0, 0, 0), (161, .iconst 1, 0, 0, 0, 0), (162, .if_icmp .lt 15, 0, 0, 0, 0), (165, .iload 7, 0, 0, 0, 0), (167, .iload 8, 0, 0, 0, 0), (169, .iload 9, 0, 0, 0, 0), (171, .invokestatic 31, 0, 14, 2, 546), (174, .if_icmp .le 5, 0, 0, 0, 0), (177, .iconst (-1), 0, 0, 0, 0), (178, .ireturn, 0, 0, 0, 0), (179, .iload 9, 0, 0, 0, 0), (181, .invokestatic 35, 0, 16, 1, 554), (184, .iload 8, 0, 0, 0, 0), (186, .iload 9, 0, 0, 0, 0), (188, .invokestatic 38, 0, 15, 2, 560), (191, .iadd, 0, 0, 0, 0), (192, .iload 7, 0, 0, 0, 0), (194, .iadd, 0, 0, 0, 0), (195, .iconst 1, 0, 0, 0, 0), (196, .isub, 0, 0, 0, 0), (197, .ireturn, 0, 0, 0, 0)]
def mC10 : List (Nat × Instr × Nat × Nat × Nat × Nat) := [(0, .iload_n 0, 0, 0, 0, 0), (1, .iconst 1, 0, 0, 0, 0), (2, .if_icmp .eq 8, 0, 0, 0, 0), (5, .iload_n 0, 0, 0, 0, 0), (6, .iconst 2, 0, 0, 0, 0), (7, .if_icmp .ne 7, 0, 0, 0, 0), (10, .iconst 1, 0, 0, 0, 0), (11, .goto 4, 0, 0, 0, 0), (14, .iconst 0, 0, 0, 0, 0), (15, .ireturn, 0, 0, 0, 0)]
def mC11 : List (Nat × Instr × Nat × Nat × Nat × Nat) := [(0, .iload_n 1, 0, 0, 0, 0), (1, .iload_n 2, 0, 0, 0, 0), (2, .if_icmp .ge 19, 0, 0, 0, 0), (5, .aload_n 0, 0, 0, 0, 0), (6, .iload_n 1, 0, 0, 0, 0), (7, .invokevirtual 18, 0, 20, 1, 529), (10, .bipush 8, 0, 0, 0, 0), (12, .if_icmp .ne 9, 0, 0, 0, 0), (15, .iload_n 1, 0, 0, 0, 0), (16, .iconst 1, 0, 0, 0, 0), (17, .iadd, 0, 0, 0, 0), (18, .goto 4, 0, 0, 0, 0), (21, .iload_n 1, 0, 0, 0, 0), (22, .ireturn, 0, 0, 0, 0)]
def mC12 : List (Nat × Instr × Nat × Nat × Nat × Nat) := [(0, .iload_n 1, 0, 0, 0, 0), (1, .istore_n 3, 0, 0, 0, 0), (2, .iload_n 3, 0, 0, 0, 0), (3, .iload_n 2, 0, 0, 0, 0), (4, .if_icmp .ge 29, 0, 0, 0, 0), (7, .aload_n 0, 0, 0, 0, 0), (8, .iload_n 3, 0, 0, 0, 0), (9, .invokevirtual 18, 0, 20, 1, 529), (12, .bipush 10, 0, 0, 0, 0), (14, .if_icmp .lt 19, 0, 0, 0, 0), (17, .aload_n 0, 0, 0, 0, 0), (18, .iload_n 3, 0, 0, 0, 0), (19, .invokevirtual 18, 0, 20, 1, 529), (22, .bipush 19, 0, 0, 0, 0), (24, .if_icmp .gt 9, 0, 0, 0, 0), (27, .iinc 3 1, 0, 0, 0, 0), (30, .goto (-28), 0, 0, 0, 0), (33, .iload_n 3, 0, 0, 0, 0), (34, .iload_n 1, 0, 0, 0, 0), (35, .isub, 0, 0, 0, 0), (36, .ireturn, 0, 0, 0, 0)]
def mC13 : List (Nat × Instr × Nat × Nat × Nat × Nat) := [(0, .iconst 0, 0, 0, 0, 0), (1, .istore_n 3, 0, 0, 0, 0), (2, .iload_n 1, 0, 0, 0, 0), (3, .istore 4, 0, 0, 0, 0), (5, .iload 4, 0, 0, 0, 0), (7, .iload_n 2, 0, 0, 0, 0), (8, .if_icmp .ge 24, 0, 0, 0, 0), (11, .iload_n 3, 0, 0, 0, 0), (12, .bipush 10, 0, 0, 0, 0), (14, .imul, 0, 0, 0, 0), (15, .aload_n 0, 0, 0, 0, 0), (16, .iload 4, 0, 0, 0, 0), (18, .invokevirtual 18, 0, 20, 1, 529), (21, .iadd, 0, 0, 0, 0), (22, .bipush 10, 0, 0, 0, 0), (24, .isub, 0, 0, 0, 0), (25, .istore_n 3, 0, 0, 0, 0), (26, .iinc 4 1, 0, 0, 0, 0), (29, .goto (-24), 0, 0, 0, 0), (32, .iload_n 3, 0, 0, 0, 0), (33, .ireturn, 0, 0, 0, 0)]
def mC14 : List (Nat × Instr × Nat × Nat × Nat × Nat) := [(0, .iload_n 0, 0, 0, 0, 0), (1, .iconst 1, 0, 0, 0, 0), (2, .if_icmp .lt 11, 0, 0, 0, 0), (5, .iload_n 0, 0, 0, 0, 0), (6, .getstatic 41, 0, 0, 0, 549), (9, .arraylength, 0, 0, 0, 0), (10, .if_icmp .lt 5, 0, 0, 0, 0), (13, .iconst 0, 0, 0, 0, 0), (14, .ireturn, 0, 0, 0, 0), (15, .getstatic 41, 0, 0, 0, 549), (18, .iload_n 0, 0, 0, 0, 0), (19, .iaload, 0, 0, 0, 0), (20, .getstatic 41, 0, 0, 0, 549), (23, .iload_n 0, 0, 0, 0, 0), (24, .iconst 1, 0, 0, 0, 0), (25, .isub, 0, 0, 0, 0), (26, .iaload, 0, 0, 0, 0), (27, .isub, 0, 0, 0, 0), (28, .istore_n 2, 0, 0, 0, 0), (29, .iload_n 0, 0, 0, 0, 0), (30, .iconst 2, 0, 0, 0, 0), (31, .if_icmp .ne 16, 0, 0, 0, 0), (34, .iload_n 1, 0, 0, 0, 0), (35, .invokestatic 45, 0, 18, 1, 551), (38, .ifCond .eq 9, 0, 0, 0, 0), (41, .iload_n 2, 0, 0, 0, 0), (42, .iconst 1, 0, 0, 0, 0), (43, .iadd, 0, 0, 0, 0), (44, .goto 4, 0, 0, 0, 0), (47, .iload_n 2, 0, 0, 0, 0), (48, .ireturn, 0, 0, 0, 0)]
def mC15 : List (Nat × Instr × Nat × Nat × Nat × Nat) := [(0, .iload_n 0, 0, 0, 0, 0), (1, .iconst 1, 0, 0, 0, 0), (2, .if_icmp .lt 11, 0, 0, 0, 0), (5, .iload_n 0, 0, 0, 0, 0), (6, .getstatic 41, 0, 0, 0, 549), (9, .arraylength, 0, 0, 0, 0), (10, .if_icmp .lt 5, 0, 0, 0, 0), (13, .iconst 0, 0, 0, 0, 0), (14, .ireturn, 0, 0, 0, 0), (15, .getstatic 41, 0, 0, 0, 549), (18, .iload_n 0, 0, 0, 0, 0), (19, .iconst 1, 0, 0, 0, 0), (20, .isub, 0, 0, 0, 0), (21, .iaload, 0, 0, 0, 0), (22, .istore_n 2, 0, 0, 0, 0), (23, .iload_n 0, 0, 0, 0, 0), (24, .iconst 2, 0, 0, 0, 0), (25, .if_icmp .le 16, 0, 0, 0, 0), (28, .iload_n 1, 0, 0, 0, 0), (29, .invokestatic 45, 0, 18, 1, 551), (32, .ifCond .eq 9, 0, 0, 0, 0), (35, .iload_n 2, 0, 0, 0, 0), (36, .iconst 1, 0, 0, 0, 0), (37, .iadd, 0, 0, 0, 0), (38, .goto 4, 0, 0, 0, 0), (41, .iload_n 2, 0, 0, 0, 0), (42, .ireturn, 0, 0, 0, 0)]
def mC16 : List (Nat × Instr × Nat × Nat × Nat × Nat) := [(0, .sipush 365, 0, 0, 0, 0), (3, .iload_n 0, 0, 0, 0, 0), (4, .sipush 1900, 0, 0, 0, 0), (7, .isub, 0, 0, 0, 0), (8, .imul, 0, 0, 0, 0), (9, .iload_n 0, 0, 0, 0, 0), (10, .iconst 1, 0, 0, 0, 0), (11, .isub, 0, 0, 0, 0), (12, .invokestatic 48, 0, 17, 1, 557), (15, .iadd, 0, 0, 0, 0), (16, .sipush 1899, 0, 0, 0, 0), (19, .invokestatic 48, 0, 17, 1, 557), (22, .isub, 0, 0, 0, 0), (23, .ireturn, 0, 0, 0, 0)]
def mC17 : List (Nat × Instr × Nat × Nat × Nat × Nat) := [(0, .iload_n 0, 0, 0, 0, 0), (1, .iconst 4, 0, 0, 0, 0), (2, .idiv, 0, 0, 0, 0), (3, .iload_n 0, 0, 0, 0, 0), (4, .bipush 100, 0, 0, 0, 0), (6, .idiv, 0, 0, 0, 0), (7, .isub, 0, 0, 0, 0), (8, .iload_n 0, 0, 0, 0, 0), (9, .sipush 400, 0, 0, 0, 0), (12, .idiv, 0, 0, 0, 0), (13, .iadd, 0, 0, 0, 0), (14, .ireturn, 0, 0, 0, 0)]
def mC18 : List (Nat × Instr × Nat × Nat × Nat × Nat) := [(0, .iload_n 0, 0, 0, 0, 0), (1, .iconst 4, 0, 0, 0, 0), (2, .irem, 0, 0, 0, 0), (3, .ifCond .ne 22, 0, 0, 0, 0), (6, .iload_n 0, 0, 0, 0, 0), (7, .bipush 100, 0, 0, 0, 0), (9, .irem, 0, 0, 0, 0), (10, .ifCond .ne 11, 0, 0, 0, 0), (13, .iload_n 0, 0, 0, 0, 0), (14, .sipush 400, 0, 0, 0, 0), (17, .irem, 0, 0, 0, 0), (18, .ifCond .ne 7, 0, 0, 0, 0), (21, .iconst 1, 0, 0, 0, 0), (22, .goto 4, 0, 0, 0, 0), (25, .iconst 0, 0, 0, 0, 0), (26, .ireturn, 0, 0, 0, 0)]
def mC19 : List (Nat × Instr × Nat × Nat × Nat × Nat) := [(0, .aload_n 0, 0, 0, 0, 0), (1, .invokespecial 1, 0, 998, 0, 65), (4, .aload_n 0, 0, 0, 0, 0), (5, .iload_n 1, 0, 0, 0, 0), (6, .ifCond .ge 7, 0, 0, 0, 0), (9, .iconst 0, 0, 0, 0, 0), (10, .goto 4, 0, 0, 0, 0), (13, .iload_n 1, 0, 0, 0, 0), (14, .newarray .int, 0, 0, 0, 0), (16, .putfield 7, 0, 1, 0, 66), (19, .return_, 0, 0, 0, 0)]
def mC20 : List (Nat × Instr × Nat × Nat × Nat × Nat) := [(0, .iload_n 1, 0, 0, 0, 0), (1, .ifCond .lt 21, 0, 0, 0, 0), (4, .iload_n 1, 0, 0, 0, 0), (5, .aload_n 0, 0, 0, 0, 0), (6, .getfield 7, 0, 1, 0, 66), (9, .arraylength, 0, 0, 0, 0), (10, .if_icmp .ge 12, 0, 0, 0, 0), (13, .aload_n 0, 0, 0, 0, 0), (14, .getfield 7, 0, 1, 0, 66), (17, .iload_n 1, 0, 0, 0, 0), (18, .iaload, 0, 0, 0, 0), (19, .goto 4, 0, 0, 0, 0), (22, .iconst 0, 0, 0, 0, 0), (23, .ireturn, 0, 0, 0, 0)]
def mC21 : List (Nat × Instr × Nat × Nat × Nat × Nat) := [(0, .iload_n 1, 0, 0, 0, 0), (1, .ifCond .lt 19, 0, 0, 0, 0), (4, .iload_n 1, 0, 0, 0, 0), (5, .aload_n 0, 0, 0, 0, 0), (6, .getfield 7, 0, 1, 0, 66), (9, .arraylength, 0, 0, 0, 0), (10, .if_icmp .ge 10, 0, 0, 0, 0), (13, .aload_n 0, 0, 0, 0, 0), (14, .getfield 7, 0, 1, 0, 66), (17, .iload_n 1, 0, 0, 0, 0), (18, .iload_n 2, 0, 0, 0, 0), (19, .iastore, 0, 0, 0, 0), (20, .return_, 0, 0, 0, 0)]
def mC22 : List (Nat × Instr × Nat × Nat × Nat × Nat) := [(0, .aload_n 0, 0, 0, 0, 0), (1, .invokespecial 3, 0, 998, 0, 119), (4, .aload_n 0, 0, 0, 0, 0), (5, .new 9, 0, 1, 0, 120), (8, .dup, 0, 0, 0, 0), (9, .sipush 500, 0, 0, 0, 0), (12, .invokespecial 11, 0, 19, 1, 121), (15, .putfield 14, 0, 2, 0, 122), (18, .aload_n 0, 0, 0, 0, 0), (19, .new 9, 0, 1, 0, 120), (22, .dup, 0, 0, 0, 0), (23, .sipush 501, 0, 0, 0, 0), (26, .invokespecial 11, 0, 19, 1, 121), (29, .putfield 20, 0, 2, 1, 125), (32, .aload_n 0, 0, 0, 0, 0), (33, .new 9, 0, 1, 0, 120), (36, .dup, 0, 0, 0, 0), (37, .sipush 501, 0, 0, 0, 0), (40, .invokespecial 11, 0, 19, 1, 121), (43, .putfield 23, 0, 2, 2, 128), (46, .aload_n 0, 0, 0, 0, 0), (47, .new 9, 0, 1, 0, 120), (50, .dup, 0, 0, 0, 0), (51, .sipush 501, 0, 0, 0, 0), (54, .invokespecial 11, 0, 19, 1, 121), (57, .putfield 26, 0, 2, 3, 131), (60, .aload_n 0, 0, 0, 0, 0), (61, .new 9, 0, 1, 0, 120), (64, .dup, 0, 0, 0, 0), (65, .sipush 501, 0, 0, 0, 0), (68, .invokespecial 11, 0, 19, 1, 121), (71, .putfield 29, 0, 2, 4, 133), (74, .aload_n 0, 0, 0, 0, 0), (75, .new 9, 0, 1, 0, 120), (78, .dup, 0, 0, 0, 0), (79, .bipush 60, 0, 0, 0, 0), (81, .invokespecial 11, 0, 19, 1, 121), (84, .putfield 32, 0, 2, 5, 135), (87, .aload_n 0, 0, 0, 0, 0), (88, .new 9, 0, 1, 0, 120), (91, .dup, 0, 0, 0, 0), (92, .bipush 60, 0, 0, 0, 0), (94, .invokespecial 11, 0, 19, 1, 121), (97, .putfield 35, 0, 2, 6, 136), (100, .aload_n 0, 0, 0, 0, 0), (101, .iconst 0, 0, 0, 0, 0), (102, .putfield 38, 0, 2, 7, 139), (105, .aload_n 0, 0, 0, 0, 0), (106, .iconst 0, 0, 0, 0, 0), (107, .putfield 42, 0, 2, 8, 140), (110, .aload_n 0, 0, 0, 0, 0), (111, .iconst 0, 0, 0, 0, 0), (112, .putfield 45, 0, 2, 9, 142), (115, .aload_n 0, 0, 0, 0, 0), (116, .iconst 0, 0, 0, 0, 0), (117, .putfield 48, 0, 2, 10, 145), (120, .aload_n 0, 0, 0, 0, 0), (121, .iconst 0, 0, 0, 0, 0), (122, .putfield 51, 0, 2, 11, 146), (125, .aload_n 0, 0, 0, 0, 0), (126, .iconst 0, 0, 0, 0, 0), (127, .putfield 54, 0, 2, 12, 147), (130, .aload_n 0, 0, 0, 0, 0), (131, .iconst 0, 0, 0, 0, 0), (132, .putfield 57, 0, 2, 13, 149), (135, .return_, 0, 0, 0, 0)]
def mC23 : List (Nat × Instr × Nat × Nat × Nat × Nat) := [(0, .aload_n 0, 0, 0, 0, 0), (1, .iconst 0, 0, 0, 0, 0), (2, .putfield 38, 0, 2, 7, 139), (5, .aload_n 0, 0, 0, 0, 0), (6, .iconst 0, 0, 0, 0, 0), (7, .putfield 42, 0, 2, 8, 140), (10, .aload_n 0, 0, 0, 0, 0), (11, .iconst 0, 0, 0, 0, 0), (12, .putfield 45, 0, 2, 9, 142), (15, .aload_n 0, 0, 0, 0, 0), (16, .iconst 0, 0, 0, 0, 0), (17, .putfield 48, 0, 2, 10, 145), (20, .iconst 0, 0, 0, 0, 0), (21, .istore_n 3, 0, 0, 0, 0), (22, .iconst 0, 0, 0, 0, 0), (23, .istore 4, 0, 0, 0, 0), (25, .iload 4, 0, 0, 0, 0), (27, .sipush 501, 0, 0, 0, 0), (30, .if_icmp .ge 111, 0, 0, 0, 0), (33, .aload_n 0, 0, 0, 0, 0), (34, .aload_n 1, 0, 0, 0, 0), (35, .iload_n 3, 0, 0, 0, 0), (36, .invokevirtual 60, 0, 24, 2, 457), (39, .ifCond .eq 102, 0, 0, 0, 0), (42, .aload_n 0, 0, 0, 0, 0), (43, .getfield 38, 0, 2, 7, 139), (46, .istore 5, 0, 0, 0, 0), (48, .iload_n 3, 0, 0, 0, 0), (49, .aload_n 1, 0, 0, 0, 0), (50, .getfield 64, 0, 4, 1, 74), (53, .if_icmp .ge 19, 0, 0, 0, 0), (56, .aload_n 1, 0, 0, 0, 0), (57, .getfield 69, 0, 4, 0, 72), (60, .iload_n 3, 0, 0, 0, 0), (61, .invokevirtual 70, 0, 20, 1, 461), (64, .iconst 4, 0, 0, 0, 0), (65, .if_icmp .ne 7, 0, 0, 0, 0), (68, .iconst 1, 0, 0, 0, 0), (69, .goto 4, 0, 0, 0, 0), (72, .iconst 0, 0, 0, 0, 0), (73, .istore 6, 0, 0, 0, 0), (75, .iload 6, 0, 0, 0, 0), (77, .ifCond .eq 15, 0, 0, 0, 0), (80, .aload_n 0, 0, 0, 0, 0), (81, .aload_n 1, 0, 0, 0, 0), (82, .iload_n 2, 0, 0, 0, 0), (83, .iload_n 3, 0, 0, 0, 0), (84, .iconst 1, 0, 0, 0, 0), (85, .iadd, 0, 0, 0, 0), (86, .invokevirtual 74, 0, 26, 3, 462), (89, .goto 10, 0, 0, 0, 0), (92, .aload_n 0, 0, 0, 0, 0), (93, .aload_n 1, 0, 0, 0, 0), (94, .iload_n 2, 0, 0, 0, 0), (95, .iload_n 3, 0, 0, 0, 0), (96, .invokevirtual 78, 0, 25, 3, 475), (99, .istore_n 3, 0, 0, 0, 0), (100, .aload_n 0, 0, 0, 0, 0), (101, .iload 5, 0, 0, 0, 0), (103, .iload 6, 0, 0, 0, 0), (105, .invokevirtual 81, 0, 29, 2, 479), (108, .iload_n 3, 0, 0, 0, 0), (109, .aload_n 1, 0, 0, 0, 0), (110, .getfield 64, 0, 4, 1, 74), (113, .if_icmp .ge 15, 0, 0, 0, 0), (116, .aload_n 1, 0, 0, 0, 0), (117, .getfield 69, 0, 4, 0, 72), (120, .iload_n 3, 0, 0, 0, 0), (121, .invokevirtual 70, 0, 20, 1, 461), (124, .iload_n 2, 0, 0, 0, 0), (125, .if_icmp .eq 7, 0, 0, 0, 0), (128, .aload_n 0, 0, 0, 0, 0), (129, .invokevirtual 85, 0, 30, 0, 483), (132, .iinc 3 1, 0, 0, 0, 0), (135, .iinc 4 1, 0, 0, 0, 0), (138, .goto (-113), 0, 0, 0, 0), (141, .aload_n 0, 0, 0, 0, 0), (142, .invokevirtual 88, 0, 31, 0, 490), (145, .return_, 0, 0, 0, 0)]
def mC24 : List (Nat × Instr × Nat × Nat × Nat × Nat) := [(0, .aload_n 0, 0, 0, 0, 0), (1, .getfield 45, 0, 2, 9, 142), (4, .bipush 60, 0, 0, 0, 0), (6, .if_icmp .ge 22, 0, 0, 0, 0), (9, .iload_n 2, 0, 0, 0, 0), (10, .aload_n 1, 0, 0, 0, 0), (11, .getfield 64, 0, 4, 1, 74), (14, .if_icmp .lt 10, 0, 0, 0, 0), (17, .aload_n 0, 0, 0, 0, 0), (18, .getfield 48, 0, 2, 10, 145), (21, .ifCond .le 7, 0, 0, 0, 0), (24, .iconst 1, 0, 0, 0, 0), (25, .goto 4, 0, 0, 0, 0), (28, .iconst 0, 0, 0, 0, 0), (29, .ireturn, 0, 0, 0, 0)]
def mC25 : List (Nat × Instr × Nat × Nat × Nat × Nat) := [(0, .aload_n 0, 0, 0, 0, 0), (1, .aload_n 1, 0, 0, 0, 0), (2, .iload_n 2, 0, 0, 0, 0), (3, .iload_n 3, 0, 0, 0, 0), (4, .invokevirtual 91, 0, 27, 3, 471), (7, .istore 4, 0, 0, 0, 0), (9, .iload_n 3, 0, 0, 0, 0), (10, .istore 5, 0, 0, 0, 0), (12, .iload 5, 0, 0, 0, 0), (14, .iload 4, 0, 0, 0, 0), (16, .if_icmp .ge 23, 0, 0, 0, 0), (19, .aload_n 1, 0, 0, 0, 0), (20, .getfield 69, 0, 4, 0, 72), (23, .iload 5, 0, 0, 0, 0), (25, .invokevirtual 70, 0, 20, 1, 461), (28, .bipush 6, 0, 0, 0, 0), (30, .if_icmp .ne 9, 0, 0, 0, 0), (33, .iinc 5 1, 0, 0, 0, 0), (36, .goto (-24), 0, 0, 0, 0), (39, .iload 4, 0, 0, 0, 0), (41, .istore 6, 0, 0, 0, 0), (43, .iload 6, 0, 0, 0, 0), (45, .iload 5, 0, 0, 0, 0), (47, .if_icmp .le 25, 0, 0, 0, 0), (50, .aload_n 1, 0, 0, 0, 0), (51, .getfield 69, 0, 4, 0, 72), (54, .iload 6, 0, 0, 0, 0), (56, .iconst 1, 0, 0, 0, 0), (57, .isub, 0, 0, 0, 0), (58, .invokevirtual 70, 0, 20, 1, 461), (61, .bipush 6, 0, 0, 0, 0), (63, .if_icmp .ne 9, 0, 0, 0, 0), (66, .iinc 6 (-1), 0, 0, 0, 0), (69, .goto (-26), 0, 0, 0, 0), (72, .aload_n 0, 0, 0, 0, 0), (73, .aload_n 1, 0, 0, 0, 0), (74, .iload 5, 0, 0, 0, 0), (76, .iload 6, 0, 0, 0, 0), (78, .invokevirtual 94, 0, 28, 3, 466), (81, .aload_n 0, 0, 0, 0, 0), (82, .iconst 0, 0, 0, 0, 0), (83, .putfield 51, 0, 2, 11, 146), (86, .iload 4, 0, 0, 0, 0), (88, .ireturn, 0, 0, 0, 0)]
def mC26 : List (Nat × Instr × Nat × Nat × Nat × Nat) := [(0, .iload_n 3, 0, 0, 0, 0), (1, .istore 4, 0, 0, 0, 0), (3, .iconst 1, 0, 0, 0, 0), (4, .istore 5, 0, 0, 0, 0), (6, .iload 5, 0, 0, 0, 0), (8, .ifCond .eq 121, 0, 0, 0, 0), (11, .iload 4, 0, 0, 0, 0), (13, .aload_n 1, 0, 0, 0, 0), (14, .getfield 64, 0, 4, 1, 74), (17, .if_icmp .ge 112, 0, 0, 0, 0), (20, .aload_n 1, 0, 0, 0, 0), (21, .getfield 69, 0, 4, 0, 72), (24, .iload 4, 0, 0, 0, 0), (26, .invokevirtual 70, 0, 20, 1, 461), (29, .iconst 4, 0, 0, 0, 0), (30, .if_icmp .ne 7, 0, 0, 0, 0), (33, .iconst 1, 0, 0, 0, 0), (34, .goto 4, 0, 0, 0, 0), (37, .iconst 0, 0, 0, 0, 0), (38, .istore 6, 0, 0, 0, 0), (40, .iload 6, 0, 0, 0, 0), (42, .ifCond .eq 33, 0, 0, 0, 0), (45, .iload 4, 0, 0, 0, 0), (47, .iconst 1, 0, 0, 0, 0), (48, .iadd, 0, 0, 0, 0), (49, .aload_n 1, 0, 0, 0, 0), (50, .getfield 64, 0, 4, 1, 74), (53, .if_icmp .ge 22, 0, 0, 0, 0), (56, .aload_n 1, 0, 0, 0, 0), (57, .getfield 69, 0, 4, 0, 72), (60, .iload 4, 0, 0, 0, 0), (62, .iconst 1, 0, 0, 0, 0), (63, .iadd, 0, 0, 0, 0), (64, .invokevirtual 70, 0, 20, 1, 461), (67, .iconst 4, 0, 0, 0, 0), (68, .if_icmp .ne 7, 0, 0, 0, 0), (71, .iconst 1, 0, 0, 0, 0), (72, .goto 4, 0, 0, 0, 0), (75, .iconst 0, 0, 0, 0, 0), (76, .istore 7, 0, 0, 0, 0), (78, .iload 6, 0, 0, 0, 0), (80, .ifCond .eq 8, 0, 0, 0, 0), (83, .iload 7, 0, 0, 0, 0), (85, .ifCond .eq 7, 0, 0, 0, 0), (88, .iconst 1, 0, 0, 0, 0), (89, .goto 4, 0, 0, 0, 0), (92, .iconst 0, 0, 0, 0, 0), (93, .istore 5, 0, 0, 0, 0), (95, .iload 5, 0, 0, 0, 0), (97, .ifCond .eq 14, 0, 0, 0, 0), (100, .aload_n 0, 0, 0, 0, 0), (101, .aload_n 1, 0, 0, 0, 0), (102, .iload 4, 0, 0, 0, 0), (104, .iload 4, 0, 0, 0, 0), (106, .iconst 1, 0, 0, 0, 0), (107, .iadd, 0, 0, 0, 0), (108, .invokevirtual 94, 0, 28, 3, 466), (111, .iload 4, 0, 0, 0, 0), (113, .iload 7, 0, 0, 0, 0), (115, .ifCond .eq 7, 0, 0, 0, 0), (118, .iconst 2, 0, 0, 0, 0), (119, .goto 4, 0, 0, 0, 0), (122, .iconst 1, 0, 0, 0, 0), (123, .iadd, 0, 0, 0, 0), (124, .istore 4, 0, 0, 0, 0), (126, .goto (-120), 0, 0, 0, 0), (129, .aload_n 0, 0, 0, 0, 0), (130, .aload_n 1, 0, 0, 0, 0), (131, .iload_n 2, 0, 0, 0, 0), (132, .iload 4, 0, 0, 0, 0), (134, .invokevirtual 91, 0, 27, 3, 471), (137, .istore 6, 0, 0, 0, 0), (139, .aload_n 0, 0, 0, 0, 0), (140, .aload_n 1, 0, 0, 0, 0), (141, .iload 4, 0, 0, 0, 0), (143, .iload 6, 0, 0, 0, 0), (145, .invokevirtual 94, 0, 28, 3, 466), (148, .aload_n 0, 0, 0, 0, 0), (149, .iload 5, 0, 0, 0, 0), (151, .ifCond .eq 7, 0, 0, 0, 0), (154, .iconst 2, 0, 0, 0, 0), (155, .goto 15, 0, 0, 0, 0), (158, .iload 6, 0, 0, 0, 0), (160, .iload 4, 0, 0, 0, 0), (162, .if_icmp .le 7, 0, 0, 0, 0), (165, .iconst 1, 0, 0, 0, 0), (166, .goto 4, 0, 0, 0, 0), (169, .iconst 0, 0, 0, 0, 0), (170, .putfield 51, 0, 2, 11, 146), (173, .iload 6, 0, 0, 0, 0), (175, .ireturn, 0, 0, 0, 0)]
def mC27 : List (Nat × Instr × Nat × Nat × Nat × Nat) := [(0, .iload_n 3, 0, 0, 0, 0), (1, .istore 4, 0, 0, 0, 0), (3, .iload 4, 0, 0, 0, 0), (5, .aload_n 1, 0, 0, 0, 0), (6, .getfield 64, 0, 4, 1, 74), (9, .if_icmp .ge 35, 0, 0, 0, 0), (12, .aload_n 1, 0, 0, 0, 0), (13, .getfield 69, 0, 4, 0, 72), (16, .iload 4, 0, 0, 0, 0), (18, .invokevirtual 70, 0, 20, 1, 461), (21, .iload_n 2, 0, 0, 0, 0), (22, .if_icmp .eq 22, 0, 0, 0, 0), (25, .aload_n 1, 0, 0, 0, 0), (26, .getfield 69, 0, 4, 0, 72), (29, .iload 4, 0, 0, 0, 0), (31, .invokevirtual 70, 0, 20, 1, 461), (34, .iconst 5, 0, 0, 0, 0), (35, .if_icmp .eq 9, 0, 0, 0, 0), (38, .iinc 4 1, 0, 0, 0, 0), (41, .goto (-38), 0, 0, 0, 0), (44, .iload 4, 0, 0, 0, 0), (46, .ireturn, 0, 0, 0, 0)]
def mC28 : List (Nat × Instr × Nat × Nat × Nat × Nat) := [(0, .iload_n 2, 0, 0, 0, 0), (1, .istore 4, 0, 0, 0, 0), (3, .iload 4, 0, 0, 0, 0), (5, .iload_n 3, 0, 0, 0, 0), (6, .if_icmp .ge 39, 0, 0, 0, 0), (9, .aload_n 0, 0, 0, 0, 0), (10, .getfield 14, 0, 2, 0, 122), (13, .aload_n 0, 0, 0, 0, 0), (14, .getfield 38, 0, 2, 7, 139), (17, .aload_n 1, 0, 0, 0, 0), (18, .getfield 69, 0, 4, 0, 72), (21, .iload 4, 0, 0, 0, 0), (23, .invokevirtual 70, 0, 20, 1, 461), (26, .invokevirtual 98, 0, 21, 2, 470), (29, .aload_n 0, 0, 0, 0, 0), (30, .dup, 0, 0, 0, 0), (31, .getfield 38, 0, 2, 7, 139), (34, .iconst 1, 0, 0, 0, 0), (35, .iadd, 0, 0, 0, 0), (36, .putfield 38, 0, 2, 7, 139), (39, .iinc 4 1, 0, 0, 0, 0), (42, .goto (-39), 0, 0, 0, 0), (45, .return_, 0, 0, 0, 0)]
def mC29 : List (Nat × Instr × Nat × Nat × Nat × Nat) := [(0, .aload_n 0, 0, 0, 0, 0), (1, .getfield 48, 0, 2, 10, 145), (4, .bipush 20, 0, 0, 0, 0), (6, .if_icmp .ge 80, 0, 0, 0, 0), (9, .aload_n 0, 0, 0, 0, 0), (10, .getfield 20, 0, 2, 1, 125), (13, .aload_n 0, 0, 0, 0, 0), (14, .getfield 42, 0, 2, 8, 140), (17, .iload_n 1, 0, 0, 0, 0), (18, .invokevirtual 98, 0, 21, 2, 470), (21, .aload_n 0, 0, 0, 0, 0), (22, .getfield 23, 0, 2, 2, 128), (25, .aload_n 0, 0, 0, 0, 0), (26, .getfield 42, 0, 2, 8, 140), (29, .aload_n 0, 0, 0, 0, 0), (30, .getfield 38, 0, 2, 7, 139), (33, .iload_n 1, 0, 0, 0, 0), (34, .isub, 0, 0, 0, 0), (35, .invokevirtual 98, 0, 21, 2, 470), (38, .aload_n 0, 0, 0, 0, 0), (39, .getfield 26, 0, 2, 3, 131), (42, .aload_n 0, 0, 0, 0, 0), (43, .getfield 42, 0, 2, 8, 140), (46, .iload_n 2, 0, 0, 0, 0), (47, .ifCond .eq 7, 0, 0, 0, 0), (50, .iconst 1, 0, 0, 0, 0), (51, .goto 4, 0, 0, 0, 0), (54, .iconst 0, 0, 0, 0, 0), (55, .invokevirtual 98, 0, 21, 2, 470), (58, .aload_n 0, 0, 0, 0, 0), (59, .getfield 29, 0, 2, 4, 133), (62, .aload_n 0, 0, 0, 0, 0), (63, .getfield 42, 0, 2, 8, 140), (66, .aload_n 0, 0, 0, 0, 0), (67, .getfield 51, 0, 2, 11, 146), (70, .invokevirtual 98, 0, 21, 2, 470), (73, .aload_n 0, 0, 0, 0, 0), (74, .dup, 0, 0, 0, 0), (75, .getfield 42, 0, 2, 8, 140), (78, .iconst 1, 0, 0, 0, 0), (79, .iadd, 0, 0, 0, 0), (80, .putfield 42, 0, 2, 8, 140), (83, .goto 8, 0, 0, 0, 0), (86, .aload_n 0, 0, 0, 0, 0), (87, .iload_n 1, 0, 0, 0, 0), (88, .putfield 38, 0, 2, 7, 139), (91, .aload_n 0, 0, 0, 0, 0), (92, .dup, 0, 0, 0, 0), (93, .getfield 48, 0, 2, 10, 145), (96, .iconst 1, 0, 0, 0, 0), (97, .iadd, 0, 0, 0, 0), (98, .putfield 48, 0, 2, 10, 145), (101, .return_, 0, 0, 0, 0)]
def mC30 : List (Nat × Instr × Nat × Nat × Nat × Nat) := [(0, .aload_n 0, 0, 0, 0, 0), (1, .getfield 42, 0, 2, 8, 140), (4, .aload_n 0, 0, 0, 0, 0), (5, .getfield 48, 0, 2, 10, 145), (8, .bipush 20, 0, 0, 0, 0), (10, .invokestatic 102, 0, 997, 0, 487), (13, .isub, 0, 0, 0, 0), (14, .istore_n 1, 0, 0, 0, 0), (15, .aload_n 0, 0, 0, 0, 0), (16, .getfield 48, 0, 2, 10, 145), (19, .iconst 1, 0, 0, 0, 0), (20, .if_icmp .ne 29, 0, 0, 0, 0), (23, .aload_n 0, 0, 0, 0, 0), (24, .getfield 26, 0, 2, 3, 131), (27, .iload_n 1, 0, 0, 0, 0), (28, .invokevirtual 70, 0, 20, 1, 461), (31, .ifCond .ne 18, 0, 0, 0, 0), (34, .aload_n 0, 0, 0, 0, 0), (35, .getfield 23, 0, 2, 2, 128), (38, .iload_n 1, 0, 0, 0, 0), (39, .invokevirtual 70, 0, 20, 1, 461), (42, .ifCond .ne 7, 0, 0, 0, 0), (45, .iconst 1, 0, 0, 0, 0), (46, .goto 4, 0, 0, 0, 0), (49, .iconst 0, 0, 0, 0, 0), (50, .istore_n 2, 0, 0, 0, 0), (51, .iload_n 2, 0, 0, 0, 0), (52, .ifCond .eq 11, 0, 0, 0, 0), (55, .aload_n 0, 0, 0, 0, 0), (56, .iload_n 1, 0, 0, 0, 0), (57, .putfield 42, 0, 2, 8, 140), (60, .goto 40, 0, 0, 0, 0), (63, .aload_n 0, 0, 0, 0, 0), (64, .getfield 32, 0, 2, 5, 135), (67, .aload_n 0, 0, 0, 0, 0), (68, .getfield 45, 0, 2, 9, 142), (71, .iload_n 1, 0, 0, 0, 0), (72, .invokevirtual 98, 0, 21, 2, 470), (75, .aload_n 0, 0, 0, 0, 0), (76, .getfield 35, 0, 2, 6, 136), (79, .aload_n 0, 0, 0, 0, 0), (80, .getfield 45, 0, 2, 9, 142), (83, .aload_n 0, 0, 0, 0, 0), (84, .getfield 48, 0, 2, 10, 145), (87, .invokevirtual 98, 0, 21, 2, 470), (90, .aload_n 0, 0, 0, 0, 0), (91, .dup, 0, 0, 0, 0), (92, .getfield 45, 0, 2, 9, 142), (95, .iconst 1, 0, 0, 0, 0), (96, .iadd, 0, 0, 0, 0), (97, .putfield 45, 0, 2, 9, 142), (100, .aload_n 0, 0, 0, 0, 0), (101, .iconst 0, 0, 0, 0, 0), (102, .putfield 48, 0, 2, 10, 145), (105, .return_, 0, 0, 0, 0)]
def mC31 : List (Nat × Instr × Nat × Nat × Nat × Nat) := [(0, .aload_n 0, 0, 0, 0, 0), (1, .iconst 0, 0, 0, 0, 0), (2, .putfield 54, 0, 2, 12, 147), (5, .aload_n 0, 0, 0, 0, 0), (6, .iconst 0, 0, 0, 0, 0), (7, .putfield 57, 0, 2, 13, 149), (10, .iconst 0, 0, 0, 0, 0), (11, .istore_n 1, 0, 0, 0, 0), (12, .iload_n 1, 0, 0, 0, 0), (13, .aload_n 0, 0, 0, 0, 0), (14, .getfield 45, 0, 2, 9, 142), (17, .if_icmp .ge 58, 0, 0, 0, 0), (20, .aload_n 0, 0, 0, 0, 0), (21, .getfield 35, 0, 2, 6, 136), (24, .iload_n 1, 0, 0, 0, 0), (25, .invokevirtual 70, 0, 20, 1, 461), (28, .istore_n 2, 0, 0, 0, 0), (29, .aload_n 0, 0, 0, 0, 0), (30, .iload_n 2, 0, 0, 0, 0), (31, .invokevirtual 108, 0, 32, 1, 494), (34, .istore_n 3, 0, 0, 0, 0), (35, .iload_n 3, 0, 0, 0, 0), (36, .aload_n 0, 0, 0, 0, 0), (37, .getfield 57, 0, 2, 13, 149), (40, .if_icmp .gt 19, 0, 0, 0, 0), (43, .iload_n 3, 0, 0, 0, 0), (44, .aload_n 0, 0, 0, 0, 0), (45, .getfield 57, 0, 2, 13, 149), (48, .if_icmp .ne 21, 0, 0, 0, 0), (51, .iload_n 2, 0, 0, 0, 0), (52, .aload_n 0, 0, 0, 0, 0), (53, .getfield 54, 0, 2, 12, 147), (56, .if_icmp .le 13, 0, 0, 0, 0), (59, .aload_n 0, 0, 0, 0, 0), (60, .iload_n 2, 0, 0, 0, 0), (61, .putfield 54, 0, 2, 12, 147), (64, .aload_n 0, 0, 0, 0, 0), (65, .iload_n 3, 0, 0, 0, 0), (66, .putfield 57, 0, 2, 13, 149), (69, .iinc 1 1, 0, 0, 0, 0), (72, .goto (-60), 0, 0, 0, 0), (75, .return_, 0, 0, 0, 0)]
def mC32 : List (Nat × Instr × Nat × Nat × Nat × Nat) := [(0, .iconst 0, 0, 0, 0, 0), (1, .istore_n 2, 0, 0, 0, 0), (2, .iconst 0, 0, 0, 0, 0), (3, .istore_n 3, 0, 0, 0, 0), (4, .iload_n 3, 0, 0, 0, 0), (5, .aload_n 0, 0, 0, 0, 0), (6, .getfield 45, 0, 2, 9, 142), (9, .if_icmp .ge 24, 0, 0, 0, 0), (12, .aload_n 0, 0, 0, 0, 0), (13, .getfield 35, 0, 2, 6, 136), (16, .iload_n 3, 0, 0, 0, 0), (17, .invokevirtual 70, 0, 20, 1, 461), (20, .iload_n 1, 0, 0, 0, 0), (21, .if_icmp .ne 6, 0, 0, 0, 0), (24, .iinc 2 1, 0, 0, 0, 0), (27, .iinc 3 1, 0, 0, 0, 0), (30, .goto (-26), 0, 0, 0, 0), (33, .iload_n 2, 0, 0, 0, 0), (34, .ireturn, 0, 0, 0, 0)]
def mC33 : List (Nat × Instr × Nat × Nat × Nat × Nat) := [(0, .aload_n 0, 0, 0, 0, 0), (1, .getfield 54, 0, 2, 12, 147), (4, .bipush 20, 0, 0, 0, 0), (6, .invokestatic 102, 0, 997, 0, 487), (9, .ireturn, 0, 0, 0, 0)]
def mC34 : List (Nat × Instr × Nat × Nat × Nat × Nat) := [(0, .aload_n 0, 0, 0, 0, 0), (1, .invokevirtual 111, 0, 33, 0, 506), (4, .iconst 2, 0, 0, 0, 0), (5, .if_icmp .lt 11, 0, 0, 0, 0), (8, .aload_n 0, 0, 0, 0, 0), (9, .getfield 45, 0, 2, 9, 142), (12, .iconst 1, 0, 0, 0, 0), (13, .if_icmp .ge 5, 0, 0, 0, 0), (16, .iconst 0, 0, 0, 0, 0), (17, .ireturn, 0, 0, 0, 0), (18, .bipush 100, 0, 0, 0, 0), (20, .aload_n 0, 0, 0, 0, 0), (21, .getfield 57, 0, 2, 13, 149), (24, .imul, 0, 0, 0, 0), (25, .aload_n 0, 0, 0, 0, 0), (26, .getfield 45, 0, 2, 9, 142), (29, .idiv, 0, 0, 0, 0), (30, .aload_n 0, 0, 0, 0, 0), (31, .invokevirtual 111, 0, 33, 0, 506), (34, .iadd, 0, 0, 0, 0), (35, .ireturn, 0, 0, 0, 0)]
def mC35 : List (Nat × Instr × Nat × Nat × Nat × Nat) := [(0, .aload_n 0, 0, 0, 0, 0), (1, .getfield 35, 0, 2, 6, 136), (4, .iload_n 1, 0, 0, 0, 0), (5, .invokevirtual 70, 0, 20, 1, 461), (8, .bipush 20, 0, 0, 0, 0), (10, .invokestatic 102, 0, 997, 0, 487), (13, .ireturn, 0, 0, 0, 0)]
def mC36 : List (Nat × Instr × Nat × Nat × Nat × Nat) := [(0, .iload_n 1, 0, 0, 0, 0), (1, .ifCond .lt 24, 0, 0, 0, 0), (4, .iload_n 1, 0, 0, 0, 0), (5, .aload_n 0, 0, 0, 0, 0), (6, .getfield 45, 0, 2, 9, 142), (9, .if_icmp .ge 16, 0, 0, 0, 0), (12, .iload_n 2, 0, 0, 0, 0), (13, .ifCond .lt 12, 0, 0, 0, 0), (16, .iload_n 2, 0, 0, 0, 0), (17, .aload_n 0, 0, 0, 0, 0), (18, .iload_n 1, 0, 0, 0, 0), (19, .invokevirtual 115, 0, 35, 1, 588), (22, .if_icmp .lt 5, 0, 0, 0, 0), (25, .iconst (-1), 0, 0, 0, 0), (26, .ireturn, 0, 0, 0, 0), (27, .aload_n 0, 0, 0, 0, 0), (28, .getfield 32, 0, 2, 5, 135), (31, .iload_n 1, 0, 0, 0, 0), (32, .invokevirtual 70, 0, 20, 1, 461), (35, .iload_n 2, 0, 0, 0, 0), (36, .iadd, 0, 0, 0, 0), (37, .ireturn, 0, 0, 0, 0)]
def mC37 : List (Nat × Instr × Nat × Nat × Nat × Nat) := [(0, .aload_n 0, 0, 0, 0, 0), (1, .getfield 23, 0, 2, 2, 128), (4, .iload_n 1, 0, 0, 0, 0), (5, .invokevirtual 70, 0, 20, 1, 461), (8, .istore_n 3, 0, 0, 0, 0), (9, .iload_n 3, 0, 0, 0, 0), (10, .aload_n 0, 0, 0, 0, 0), (11, .getfield 23, 0, 2, 2, 128), (14, .iload_n 2, 0, 0, 0, 0), (15, .invokevirtual 70, 0, 20, 1, 461), (18, .if_icmp .eq 5, 0, 0, 0, 0), (21, .iconst 0, 0, 0, 0, 0), (22, .ireturn, 0, 0, 0, 0), (23, .aload_n 0, 0, 0, 0, 0), (24, .getfield 20, 0, 2, 1, 125), (27, .iload_n 1, 0, 0, 0, 0), (28, .invokevirtual 70, 0, 20, 1, 461), (31, .istore 4, 0, 0, 0, 0), (33, .aload_n 0, 0, 0, 0, 0), (34, .getfield 20, 0, 2, 1, 125), (37, .iload_n 2, 0, 0, 0, 0), (38, .invokevirtual 70, 0, 20, 1, 461), (41, .istore 5, 0, 0, 0, 0), (43, .iconst 0, 0, 0, 0, 0), (44, .istore 6, 0, 0, 0, 0), (46, .iload 6, 0, 0, 0, 0), (48, .iload_n 3, 0, 0, 0, 0), (49, .if_icmp .ge 38, 0, 0, 0, 0), (52, .aload_n 0, 0, 0, 0, 0), (53, .getfield 14, 0, 2, 0, 122), (56, .iload 4, 0, 0, 0, 0), (58, .iload 6, 0, 0, 0, 0), (60, .iadd, 0, 0, 0, 0), (61, .invokevirtual 70, 0, 20, 1, 461), (64, .aload_n 0, 0, 0, 0, 0), (65, .getfield 14, 0, 2, 0, 122), (68, .iload 5, 0, 0, 0, 0), (70, .iload 6, 0, 0, 0, 0), (72, .iadd, 0, 0, 0, 0), (73, .invokevirtual 70, 0, 20, 1, 461), (76, .if_icmp .eq 5, 0, 0, 0, 0), (79, .iconst 0, 0, 0, 0, 0), (80, .ireturn, 0, 0, 0, 0), (81, .iinc 6 1, 0, 0, 0, 0), (84, .goto (-38), 0, 0, 0, 0), (87, .iconst 1, 0, 0, 0, 0), (88, .ireturn, 0, 0, 0, 0)]
def mC38 : List (Nat × Instr × Nat × Nat × Nat × Nat) := [(0, .iconst 0, 0, 0, 0, 0), (1, .istore_n 1, 0, 0, 0, 0), (2, .iconst 0, 0, 0, 0, 0), (3, .istore_n 2, 0, 0, 0, 0), (4, .iload_n 2, 0, 0, 0, 0), (5, .aload_n 0, 0, 0, 0, 0), (6, .getfield 42, 0, 2, 8, 140), (9, .if_icmp .ge 20, 0, 0, 0, 0), (12, .iload_n 1, 0, 0, 0, 0), (13, .aload_n 0, 0, 0, 0, 0), (14, .getfield 26, 0, 2, 3, 131), (17, .iload_n 2, 0, 0, 0, 0), (18, .invokevirtual 70, 0, 20, 1, 461), (21, .iadd, 0, 0, 0, 0), (22, .istore_n 1, 0, 0, 0, 0), (23, .iinc 2 1, 0, 0, 0, 0), (26, .goto (-22), 0, 0, 0, 0), (29, .iload_n 1, 0, 0, 0, 0), (30, .ireturn, 0, 0, 0, 0)]
def mC39 : List (Nat × Instr × Nat × Nat × Nat × Nat) := [(0, .aload_n 0, 0, 0, 0, 0), (1, .invokespecial 3, 0, 998, 0, 113), (4, .aload_n 0, 0, 0, 0, 0), (5, .new 9, 0, 2, 0, 114), (8, .dup, 0, 0, 0, 0), (9, .invokespecial 11, 1, 22, 0, 1), (12, .putfield 12, 0, 3, 0, 204), (15, .aload_n 0, 0, 0, 0, 0), (16, .new 18, 0, 0, 0, 179), (19, .dup, 0, 0, 0, 0), (20, .invokespecial 20, 1, 0, 0, 2), (23, .putfield 21, 0, 3, 1, 206), (26, .aload_n 0, 0, 0, 0, 0), (27, .new 25, 0, 1, 0, 202), (30, .dup, 0, 0, 0, 0), (31, .bipush 60, 0, 0, 0, 0), (33, .invokespecial 27, 0, 19, 1, 203), (36, .putfield 30, 0, 3, 2, 208), (39, .aload_n 0, 0, 0, 0, 0), (40, .new 25, 0, 1, 0, 202), (43, .dup, 0, 0, 0, 0), (44, .sipush 501, 0, 0, 0, 0), (47, .invokespecial 27, 0, 19, 1, 203), (50, .putfield 34, 0, 3, 3, 210), (53, .aload_n 0, 0, 0, 0, 0), (54, .new 25, 0, 1, 0, 202), (57, .dup, 0, 0, 0, 0), (58, .sipush 501, 0, 0, 0, 0), (61, .invokespecial 27, 0, 19, 1, 203), (64, .putfield 37, 0, 3, 4, 211), (67, .aload_n 0, 0, 0, 0, 0), (68, .new 25, 0, 1, 0, 202), (71, .dup, 0, 0, 0, 0), (72, .sipush 501, 0, 0, 0, 0), (75, .invokespecial 27, 0, 19, 1, 203), (78, .putfield 40, 0, 3, 5, 212), (81, .aload_n 0, 0, 0, 0, 0), (82, .new 25, 0, 1, 0, 202), (85, .dup, 0, 0, 0, 0), (86, .bipush 20, 0, 0, 0, 0), (88, .invokespecial 27, 0, 19, 1, 203), (91, .putfield 43, 0, 3, 6, 213), (94, .aload_n 0, 0, 0, 0, 0), (95, .new 25, 0, 1, 0, 202), (98, .dup, 0, 0, 0, 0), (99, .bipush 6, 0, 0, 0, 0), (101, .invokespecial 27, 0, 19, 1, 203), (104, .putfield 46, 0, 3, 7, 214), (107, .aload_n 0, 0, 0, 0, 0), (108, .iconst 0, 0, 0, 0, 0), (109, .putfield 49, 0, 3, 9, 216), (112, .aload_n 0, 0, 0, 0, 0), (113, .iconst 0, 0, 0, 0, 0), (114, .putfield 53, 0, 3, 10, 217), (117, .aload_n 0, 0, 0, 0, 0), (118, .iconst 0, 0, 0, 0, 0), (119, .putfield 56, 0, 3, 11, 219), (122, .aload_n 0, 0, 0, 0, 0), (123, .iconst 0, 0, 0, 0, 0), (124, .putfield 59, 0, 3, 12, 221), (127, .aload_n 0, 0, 0, 0, 0), (128, .iload_n 1, 0, 0, 0, 0), (129, .putfield 63, 0, 3, 8, 215), (132, .return_, 0, 0, 0, 0)]
def mC40 : List (Nat × Instr × Nat × Nat × Nat × Nat) := [(0, .aload_n 0, 0, 0, 0, 0), (1, .getfield 59, 0, 3, 12, 221), (4, .ifCond .eq 4, 0, 0, 0, 0), (7, .return_, 0, 0, 0, 0), (8, .aload_n 0, 0, 0, 0, 0), (9, .aload_n 1, 0, 0, 0, 0), (10, .getfield 66, 0, 5, 0, 94), (13, .iconst 1, 0, 0, 0, 0), (14, .invokevirtual 71, 0, 20, 1, 518), (17, .iconst (-1), 0, 0, 0, 0), (18, .if_icmp .ne 10, 0, 0, 0, 0), (21, .aload_n 0, 0, 0, 0, 0), (22, .invokevirtual 75, 0, 41, 0, 519), (25, .goto 11, 0, 0, 0, 0), (28, .aload_n 1, 0, 0, 0, 0), (29, .getfield 66, 0, 5, 0, 94), (32, .iconst 1, 0, 0, 0, 0), (33, .invokevirtual 71, 0, 20, 1, 518), (36, .putfield 49, 0, 3, 9, 216), (39, .iconst 0, 0, 0, 0, 0), (40, .istore_n 2, 0, 0, 0, 0), (41, .iload_n 2, 0, 0, 0, 0), (42, .aload_n 0, 0, 0, 0, 0), (43, .getfield 12, 0, 3, 0, 204), (46, .getfield 79, 0, 2, 8, 141), (49, .if_icmp .ge 14, 0, 0, 0, 0), (52, .aload_n 0, 0, 0, 0, 0), (53, .iload_n 2, 0, 0, 0, 0), (54, .invokevirtual 82, 0, 42, 1, 533), (57, .iinc 2 1, 0, 0, 0, 0), (60, .goto (-19), 0, 0, 0, 0), (63, .aload_n 0, 0, 0, 0, 0), (64, .aload_n 1, 0, 0, 0, 0), (65, .getfield 66, 0, 5, 0, 94), (68, .iconst 2, 0, 0, 0, 0), (69, .invokevirtual 71, 0, 20, 1, 518), (72, .iconst (-1), 0, 0, 0, 0), (73, .if_icmp .ne 14, 0, 0, 0, 0), (76, .aload_n 0, 0, 0, 0, 0), (77, .aload_n 1, 0, 0, 0, 0), (78, .getfield 85, 0, 5, 2, 99), (81, .invokevirtual 88, 0, 43, 1, 576), (84, .goto 11, 0, 0, 0, 0), (87, .aload_n 1, 0, 0, 0, 0), (88, .getfield 66, 0, 5, 0, 94), (91, .iconst 2, 0, 0, 0, 0), (92, .invokevirtual 71, 0, 20, 1, 518), (95, .putfield 53, 0, 3, 10, 217), (98, .iconst 0, 0, 0, 0, 0), (99, .istore_n 2, 0, 0, 0, 0), (100, .iload_n 2, 0, 0, 0, 0), (101, .aload_n 0, 0, 0, 0, 0), (102, .getfield 12, 0, 3, 0, 204), (105, .invokevirtual 91, 0, 33, 0, 589), (108, .if_icmp .ge 39, 0, 0, 0, 0), (111, .aload_n 0, 0, 0, 0, 0), (112, .iload_n 2, 0, 0, 0, 0), (113, .aload_n 0, 0, 0, 0, 0), (114, .getfield 53, 0, 3, 10, 217), (117, .invokevirtual 94, 0, 44, 2, 590), (120, .aload_n 0, 0, 0, 0, 0), (121, .getfield 43, 0, 3, 6, 213), (124, .iload_n 2, 0, 0, 0, 0), (125, .aload_n 0, 0, 0, 0, 0), (126, .aload_n 1, 0, 0, 0, 0), (127, .getfield 85, 0, 5, 2, 99), (130, .invokevirtual 98, 0, 46, 1, 594), (133, .invokevirtual 101, 0, 21, 2, 575), (136, .aload_n 0, 0, 0, 0, 0), (137, .iload_n 2, 0, 0, 0, 0), (138, .invokevirtual 104, 0, 47, 1, 602), (141, .iinc 2 1, 0, 0, 0, 0), (144, .goto (-44), 0, 0, 0, 0), (147, .aload_n 0, 0, 0, 0, 0), (148, .getfield 21, 0, 3, 1, 206), (151, .iconst 0, 0, 0, 0, 0), (152, .putfield 107, 0, 0, 3, 191), (155, .aload_n 0, 0, 0, 0, 0), (156, .iconst 0, 0, 0, 0, 0), (157, .putfield 56, 0, 3, 11, 219), (160, .aload_n 0, 0, 0, 0, 0), (161, .getfield 53, 0, 3, 10, 217), (164, .istore_n 2, 0, 0, 0, 0), (165, .iload_n 2, 0, 0, 0, 0), (166, .aload_n 0, 0, 0, 0, 0), (167, .getfield 12, 0, 3, 0, 204), (170, .getfield 110, 0, 2, 9, 143), (173, .if_icmp .ge 39, 0, 0, 0, 0), (176, .aload_n 0, 0, 0, 0, 0), (177, .getfield 21, 0, 3, 1, 206), (180, .getfield 107, 0, 0, 3, 191), (183, .istore_n 3, 0, 0, 0, 0), (184, .aload_n 0, 0, 0, 0, 0), (185, .aload_n 1, 0, 0, 0, 0), (186, .iload_n 2, 0, 0, 0, 0), (187, .invokevirtual 113, 0, 49, 2, 614), (190, .aload_n 0, 0, 0, 0, 0), (191, .getfield 21, 0, 3, 1, 206), (194, .getfield 107, 0, 0, 3, 191), (197, .iload_n 3, 0, 0, 0, 0), (198, .if_icmp .ne 8, 0, 0, 0, 0), (201, .aload_n 0, 0, 0, 0, 0), (202, .iload_n 2, 0, 0, 0, 0), (203, .invokevirtual 117, 0, 52, 1, 640), (206, .iinc 2 1, 0, 0, 0, 0), (209, .goto (-44), 0, 0, 0, 0), (212, .aload_n 0, 0, 0, 0, 0), (213, .iconst 1, 0, 0, 0, 0), (214, .putfield 59, 0, 3, 12, 221), (217, .return_, 0, 0, 0, 0)]
def mC41 : List (Nat × Instr × Nat × Nat × Nat × Nat) := [(0, .iconst 0, 0, 0, 0, 0), (1, .istore_n 1, 0, 0, 0, 0), (2, .iconst 0, 0, 0, 0, 0), (3, .istore_n 2, 0, 0, 0, 0), (4, .iconst 0, 0, 0, 0, 0), (5, .istore_n 3, 0, 0, 0, 0), (6, .iload_n 3, 0, 0, 0, 0), (7, .aload_n 0, 0, 0, 0, 0), (8, .getfield 12, 0, 3, 0, 204), (11, .getfield 79, 0, 2, 8, 141), (14, .if_icmp .ge 81, 0, 0, 0, 0), (17, .aload_n 0, 0, 0, 0, 0), (18, .getfield 12, 0, 3, 0, 204), (21, .getfield 120, 0, 2, 1, 126), (24, .iload_n 3, 0, 0, 0, 0), (25, .invokevirtual 71, 0, 20, 1, 518), (28, .istore 4, 0, 0, 0, 0), (30, .iload 4, 0, 0, 0, 0), (32, .aload_n 0, 0, 0, 0, 0), (33, .getfield 12, 0, 3, 0, 204), (36, .getfield 123, 0, 2, 2, 129), (39, .iload_n 3, 0, 0, 0, 0), (40, .invokevirtual 71, 0, 20, 1, 518), (43, .iadd, 0, 0, 0, 0), (44, .istore 5, 0, 0, 0, 0), (46, .aload_n 0, 0, 0, 0, 0), (47, .getfield 12, 0, 3, 0, 204), (50, .getfield 126, 0, 2, 0, 123), (53, .iload 4, 0, 0, 0, 0), (55, .iload 5, 0, 0, 0, 0), (57, .bipush 7, 0, 0, 0, 0), (59, .invokestatic 129, 0, 5, 4, 523), (62, .ifCond .eq 6, 0, 0, 0, 0), (65, .iinc 1 1, 0, 0, 0, 0), (68, .aload_n 0, 0, 0, 0, 0), (69, .getfield 12, 0, 3, 0, 204), (72, .getfield 126, 0, 2, 0, 123), (75, .iload 4, 0, 0, 0, 0), (77, .iload 5, 0, 0, 0, 0), (79, .iconst 0, 0, 0, 0, 0), (80, .invokestatic 129, 0, 5, 4, 523), (83, .ifCond .eq 6, 0, 0, 0, 0), (86, .iinc 2 1, 0, 0, 0, 0), (89, .iinc 3 1, 0, 0, 0, 0), (92, .goto (-86), 0, 0, 0, 0), (95, .iload_n 2, 0, 0, 0, 0), (96, .iload_n 1, 0, 0, 0, 0), (97, .if_icmp .le 7, 0, 0, 0, 0), (100, .iconst 1, 0, 0, 0, 0), (101, .goto 4, 0, 0, 0, 0), (104, .iconst 0, 0, 0, 0, 0), (105, .ireturn, 0, 0, 0, 0)]
def mC42 : List (Nat × Instr × Nat × Nat × Nat × Nat) := [(0, .aload_n 0, 0, 0, 0, 0), (1, .getfield 12, 0, 3, 0, 204), (4, .getfield 126, 0, 2, 0, 123), (7, .astore_n 2, 0, 0, 0, 0), (8, .aload_n 0, 0, 0, 0, 0), (9, .getfield 12, 0, 3, 0, 204), (12, .getfield 120, 0, 2, 1, 126), (15, .iload_n 1, 0, 0, 0, 0), (16, .invokevirtual 71, 0, 20, 1, 518), (19, .istore_n 3, 0, 0, 0, 0), (20, .aload_n 0, 0, 0, 0, 0), (21, .getfield 12, 0, 3, 0, 204), (24, .getfield 123, 0, 2, 2, 129), (27, .iload_n 1, 0, 0, 0, 0), (28, .invokevirtual 71, 0, 20, 1, 518), (31, .istore 4, 0, 0, 0, 0), (33, .iload_n 3, 0, 0, 0, 0), (34, .iload 4, 0, 0, 0, 0), (36, .iadd, 0, 0, 0, 0), (37, .istore 5, 0, 0, 0, 0), (39, .aload_n 2, 0, 0, 0, 0), (40, .iload_n 3, 0, 0, 0, 0), (41, .iload 5, 0, 0, 0, 0), (43, .invokestatic 135, 0, 9, 3, 537), (46, .istore 6, 0, 0, 0, 0), (48, .iconst 5, 0, 0, 0, 0), (49, .istore 7, 0, 0, 0, 0), (51, .iload_n 3, 0, 0, 0, 0), (52, .iload 5, 0, 0, 0, 0), (54, .if_icmp .ne 9, 0, 0, 0, 0), (57, .iconst 0, 0, 0, 0, 0), (58, .istore 7, 0, 0, 0, 0), (60, .goto 112, 0, 0, 0, 0), (63, .aload_n 2, 0, 0, 0, 0), (64, .iload_n 3, 0, 0, 0, 0), (65, .iload 5, 0, 0, 0, 0), (67, .invokestatic 139, 0, 4, 3, 563), (70, .ifCond .eq 18, 0, 0, 0, 0), (73, .iconst 1, 0, 0, 0, 0), (74, .istore 7, 0, 0, 0, 0), (76, .aload_n 2, 0, 0, 0, 0), (77, .iload_n 3, 0, 0, 0, 0), (78, .iload 5, 0, 0, 0, 0), (80, .invokestatic 143, 0, 7, 3, 566), (83, .istore 4, 0, 0, 0, 0), (85, .goto 87, 0, 0, 0, 0), (88, .aload_n 2, 0, 0, 0, 0), (89, .iload_n 3, 0, 0, 0, 0), (90, .iload 5, 0, 0, 0, 0), (92, .aload_n 0, 0, 0, 0, 0), (93, .getfield 49, 0, 3, 9, 216), (96, .ifCond .ne 8, 0, 0, 0, 0), (99, .bipush 7, 0, 0, 0, 0), (101, .goto 4, 0, 0, 0, 0), (104, .iconst 0, 0, 0, 0, 0), (105, .invokestatic 129, 0, 5, 4, 523), (108, .ifCond .eq 18, 0, 0, 0, 0), (111, .iconst 2, 0, 0, 0, 0), (112, .istore 7, 0, 0, 0, 0), (114, .aload_n 2, 0, 0, 0, 0), (115, .iload_n 3, 0, 0, 0, 0), (116, .iload 5, 0, 0, 0, 0), (118, .invokestatic 146, 0, 8, 3, 569), (121, .istore 4, 0, 0, 0, 0), (123, .goto 49, 0, 0, 0, 0), (126, .iload 6, 0, 0, 0, 0), (128, .iconst (-1), 0, 0, 0, 0), (129, .if_icmp .eq 13, 0, 0, 0, 0), (132, .iconst 3, 0, 0, 0, 0), (133, .istore 7, 0, 0, 0, 0), (135, .iload 6, 0, 0, 0, 0), (137, .istore 4, 0, 0, 0, 0), (139, .goto 33, 0, 0, 0, 0), (142, .aload_n 2, 0, 0, 0, 0), (143, .iload_n 3, 0, 0, 0, 0), (144, .iload 5, 0, 0, 0, 0), (146, .invokestatic 149, 0, 6, 3, 572), (149, .ifCond .eq 23, 0, 0, 0, 0), (152, .iconst 4, 0, 0, 0, 0), (153, .istore 7, 0, 0, 0, 0), (155, .aload_n 2, 0, 0, 0, 0), (156, .iload_n 3, 0, 0, 0, 0), (157, .invokevirtual 71, 0, 20, 1, 518), (160, .bipush 44, 0, 0, 0, 0), (162, .if_icmp .ne 7, 0, 0, 0, 0), (165, .iconst 1, 0, 0, 0, 0), (166, .goto 4, 0, 0, 0, 0), (169, .iconst 0, 0, 0, 0, 0), (170, .istore 4, 0, 0, 0, 0), (172, .aload_n 0, 0, 0, 0, 0), (173, .getfield 34, 0, 3, 3, 210), (176, .iload_n 1, 0, 0, 0, 0), (177, .iload 7, 0, 0, 0, 0), (179, .invokevirtual 101, 0, 21, 2, 575), (182, .aload_n 0, 0, 0, 0, 0), (183, .getfield 37, 0, 3, 4, 211), (186, .iload_n 1, 0, 0, 0, 0), (187, .iload 4, 0, 0, 0, 0), (189, .invokevirtual 101, 0, 21, 2, 575), (192, .return_, 0, 0, 0, 0)]
def mC43 : List (Nat × Instr × Nat × Nat × Nat × Nat) := [(0, .aload_n 0, 0, 0, 0, 0), (1, .getfield 12, 0, 3, 0, 204), (4, .getfield 110, 0, 2, 9, 143), (7, .iconst 2, 0, 0, 0, 0), (8, .if_icmp .lt 24, 0, 0, 0, 0), (11, .aload_n 0, 0, 0, 0, 0), (12, .getfield 12, 0, 3, 0, 204), (15, .getfield 152, 0, 2, 6, 137), (18, .iconst 0, 0, 0, 0, 0), (19, .invokevirtual 71, 0, 20, 1, 518), (22, .aload_n 0, 0, 0, 0, 0), (23, .getfield 12, 0, 3, 0, 204), (26, .getfield 155, 0, 2, 12, 148), (29, .if_icmp .eq 5, 0, 0, 0, 0), (32, .iconst 0, 0, 0, 0, 0), (33, .ireturn, 0, 0, 0, 0), (34, .iconst 0, 0, 0, 0, 0), (35, .istore_n 2, 0, 0, 0, 0), (36, .iload_n 2, 0, 0, 0, 0), (37, .aload_n 0, 0, 0, 0, 0), (38, .getfield 12, 0, 3, 0, 204), (41, .iconst 0, 0, 0, 0, 0), (42, .invokevirtual 158, 0, 35, 1, 580), (45, .if_icmp .ge 31, 0, 0, 0, 0), (48, .aload_n 0, 0, 0, 0, 0), (49, .getfield 34, 0, 3, 3, 210), (52, .aload_n 0, 0, 0, 0, 0), (53, .getfield 12, 0, 3, 0, 204), (56, .iconst 0, 0, 0, 0, 0), (57, .iload_n 2, 0, 0, 0, 0), (58, .invokevirtual 161, 0, 36, 2, 584), (61, .invokevirtual 71, 0, 20, 1, 518), (64, .iconst 5, 0, 0, 0, 0), (65, .if_icmp .eq 5, 0, 0, 0, 0), (68, .iconst 0, 0, 0, 0, 0), (69, .ireturn, 0, 0, 0, 0), (70, .iinc 2 1, 0, 0, 0, 0), (73, .goto (-37), 0, 0, 0, 0), (76, .iconst 0, 0, 0, 0, 0), (77, .istore_n 2, 0, 0, 0, 0), (78, .iload_n 2, 0, 0, 0, 0), (79, .aload_n 0, 0, 0, 0, 0), (80, .getfield 12, 0, 3, 0, 204), (83, .invokevirtual 91, 0, 33, 0, 589), (86, .if_icmp .ge 32, 0, 0, 0, 0), (89, .aload_n 0, 0, 0, 0, 0), (90, .iload_n 2, 0, 0, 0, 0), (91, .iconst 1, 0, 0, 0, 0), (92, .invokevirtual 94, 0, 44, 2, 590), (95, .aload_n 0, 0, 0, 0, 0), (96, .iload_n 1, 0, 0, 0, 0), (97, .invokevirtual 98, 0, 46, 1, 594), (100, .istore_n 3, 0, 0, 0, 0), (101, .iload_n 3, 0, 0, 0, 0), (102, .iconst 5, 0, 0, 0, 0), (103, .if_icmp .eq 9, 0, 0, 0, 0), (106, .iload_n 3, 0, 0, 0, 0), (107, .ifCond .eq 5, 0, 0, 0, 0), (110, .iconst 1, 0, 0, 0, 0), (111, .ireturn, 0, 0, 0, 0), (112, .iinc 2 1, 0, 0, 0, 0), (115, .goto (-37), 0, 0, 0, 0), (118, .iconst 0, 0, 0, 0, 0), (119, .ireturn, 0, 0, 0, 0)]
def mC44 : List (Nat × Instr × Nat × Nat × Nat × Nat) := [(0, .iconst 0, 0, 0, 0, 0), (1, .istore_n 3, 0, 0, 0, 0), (2, .iload_n 3, 0, 0, 0, 0), (3, .bipush 6, 0, 0, 0, 0), (5, .if_icmp .ge 18, 0, 0, 0, 0), (8, .aload_n 0, 0, 0, 0, 0), (9, .getfield 46, 0, 3, 7, 214), (12, .iload_n 3, 0, 0, 0, 0), (13, .iconst 0, 0, 0, 0, 0), (14, .invokevirtual 101, 0, 21, 2, 575), (17, .iinc 3 1, 0, 0, 0, 0), (20, .goto (-18), 0, 0, 0, 0), (23, .iload_n 2, 0, 0, 0, 0), (24, .istore_n 3, 0, 0, 0, 0), (25, .iload_n 3, 0, 0, 0, 0), (26, .aload_n 0, 0, 0, 0, 0), (27, .getfield 12, 0, 3, 0, 204), (30, .getfield 110, 0, 2, 9, 143), (33, .if_icmp .ge 57, 0, 0, 0, 0), (36, .aload_n 0, 0, 0, 0, 0), (37, .getfield 12, 0, 3, 0, 204), (40, .iload_n 3, 0, 0, 0, 0), (41, .iload_n 1, 0, 0, 0, 0), (42, .invokevirtual 161, 0, 36, 2, 584), (45, .istore 4, 0, 0, 0, 0), (47, .iload 4, 0, 0, 0, 0), (49, .iconst (-1), 0, 0, 0, 0), (50, .if_icmp .eq 34, 0, 0, 0, 0), (53, .aload_n 0, 0, 0, 0, 0), (54, .getfield 34, 0, 3, 3, 210), (57, .iload 4, 0, 0, 0, 0), (59, .invokevirtual 71, 0, 20, 1, 518), (62, .istore 5, 0, 0, 0, 0), (64, .aload_n 0, 0, 0, 0, 0), (65, .getfield 46, 0, 3, 7, 214), (68, .iload 5, 0, 0, 0, 0), (70, .aload_n 0, 0, 0, 0, 0), (71, .getfield 46, 0, 3, 7, 214), (74, .iload 5, 0, 0, 0, 0), (76, .invokevirtual 71, 0, 20, 1, 518), (79, .iconst 1, 0, 0, 0, 0), (80, .iadd, 0, 0, 0, 0), (81, .invokevirtual 101, 0, 21, 2, 575), (84, .iinc 3 1, 0, 0, 0, 0), (87, .goto (-62), 0, 0, 0, 0), (90, .return_, 0, 0, 0, 0)]
def mC45 : List (Nat × Instr × Nat × Nat × Nat × Nat) := [(0, .iconst 0, 0, 0, 0, 0), (1, .istore_n 1, 0, 0, 0, 0), (2, .iconst 1, 0, 0, 0, 0), (3, .istore_n 2, 0, 0, 0, 0), (4, .iload_n 2, 0, 0, 0, 0), (5, .bipush 6, 0, 0, 0, 0), (7, .if_icmp .ge 20, 0, 0, 0, 0), (10, .iload_n 1, 0, 0, 0, 0), (11, .aload_n 0, 0, 0, 0, 0), (12, .getfield 46, 0, 3, 7, 214), (15, .iload_n 2, 0, 0, 0, 0), (16, .invokevirtual 71, 0, 20, 1, 518), (19, .iadd, 0, 0, 0, 0), (20, .istore_n 1, 0, 0, 0, 0), (21, .iinc 2 1, 0, 0, 0, 0), (24, .goto (-20), 0, 0, 0, 0), (27, .iload_n 1, 0, 0, 0, 0), (28, .ireturn, 0, 0, 0, 0)]
def mC46 : List (Nat × Instr × Nat × Nat × Nat × Nat) := [(0, .aload_n 0, 0, 0, 0, 0), (1, .invokevirtual 165, 0, 45, 0, 598), (4, .istore_n 2, 0, 0, 0, 0), (5, .iload_n 2, 0, 0, 0, 0), (6, .ifCond .ne 5, 0, 0, 0, 0), (9, .iconst 0, 0, 0, 0, 0), (10, .ireturn, 0, 0, 0, 0), (11, .iconst 1, 0, 0, 0, 0), (12, .istore_n 3, 0, 0, 0, 0), (13, .aload_n 0, 0, 0, 0, 0), (14, .getfield 46, 0, 3, 7, 214), (17, .iconst 1, 0, 0, 0, 0), (18, .invokevirtual 71, 0, 20, 1, 518), (21, .istore 4, 0, 0, 0, 0), (23, .iconst 2, 0, 0, 0, 0), (24, .istore 5, 0, 0, 0, 0), (26, .iload 5, 0, 0, 0, 0), (28, .iconst 4, 0, 0, 0, 0), (29, .if_icmp .gt 58, 0, 0, 0, 0), (32, .aload_n 0, 0, 0, 0, 0), (33, .getfield 46, 0, 3, 7, 214), (36, .iload 5, 0, 0, 0, 0), (38, .invokevirtual 71, 0, 20, 1, 518), (41, .istore 6, 0, 0, 0, 0), (43, .iload 5, 0, 0, 0, 0), (45, .iconst 2, 0, 0, 0, 0), (46, .if_icmp .ne 21, 0, 0, 0, 0), (49, .iload 6, 0, 0, 0, 0), (51, .ifCond .le 16, 0, 0, 0, 0), (54, .iload 6, 0, 0, 0, 0), (56, .aload_n 0, 0, 0, 0, 0), (57, .getfield 46, 0, 3, 7, 214), (60, .iconst 1, 0, 0, 0, 0), (61, .invokevirtual 71, 0, 20, 1, 518), (64, .iadd, 0, 0, 0, 0), (65, .istore 6, 0, 0, 0, 0), (67, .iload 6, 0, 0, 0, 0), (69, .iload 4, 0, 0, 0, 0), (71, .if_icmp .le 10, 0, 0, 0, 0), (74, .iload 5, 0, 0, 0, 0), (76, .istore_n 3, 0, 0, 0, 0), (77, .iload 6, 0, 0, 0, 0), (79, .istore 4, 0, 0, 0, 0), (81, .iinc 5 1, 0, 0, 0, 0), (84, .goto (-58), 0, 0, 0, 0), (87, .iload 4, 0, 0, 0, 0), (89, .bipush 100, 0, 0, 0, 0), (91, .imul, 0, 0, 0, 0), (92, .iload_n 1, 0, 0, 0, 0), (93, .iload_n 2, 0, 0, 0, 0), (94, .imul, 0, 0, 0, 0), (95, .if_icmp .lt 7, 0, 0, 0, 0), (98, .iload_n 3, 0, 0, 0, 0), (99, .goto 4, 0, 0, 0, 0), (102, .iconst 5, 0, 0, 0, 0), (103, .ireturn, 0, 0, 0, 0)]
def mC47 : List (Nat × Instr × Nat × Nat × Nat × Nat) := [(0, .aload_n 0, 0, 0, 0, 0), (1, .getfield 53, 0, 3, 10, 217), (4, .istore_n 2, 0, 0, 0, 0), (5, .iload_n 2, 0, 0, 0, 0), (6, .aload_n 0, 0, 0, 0, 0), (7, .getfield 12, 0, 3, 0, 204), (10, .getfield 110, 0, 2, 9, 143), (13, .if_icmp .ge 58, 0, 0, 0, 0), (16, .aload_n 0, 0, 0, 0, 0), (17, .getfield 12, 0, 3, 0, 204), (20, .iload_n 2, 0, 0, 0, 0), (21, .iload_n 1, 0, 0, 0, 0), (22, .invokevirtual 161, 0, 36, 2, 584), (25, .istore_n 3, 0, 0, 0, 0), (26, .iload_n 3, 0, 0, 0, 0), (27, .iconst (-1), 0, 0, 0, 0), (28, .if_icmp .eq 37, 0, 0, 0, 0), (31, .aload_n 0, 0, 0, 0, 0), (32, .getfield 40, 0, 3, 5, 212), (35, .iload_n 3, 0, 0, 0, 0), (36, .aload_n 0, 0, 0, 0, 0), (37, .getfield 34, 0, 3, 3, 210), (40, .iload_n 3, 0, 0, 0, 0), (41, .invokevirtual 71, 0, 20, 1, 518), (44, .ifCond .eq 17, 0, 0, 0, 0), (47, .aload_n 0, 0, 0, 0, 0), (48, .iload_n 2, 0, 0, 0, 0), (49, .iload_n 1, 0, 0, 0, 0), (50, .iload_n 3, 0, 0, 0, 0), (51, .invokevirtual 168, 0, 48, 3, 606), (54, .ifCond .eq 7, 0, 0, 0, 0), (57, .iconst 1, 0, 0, 0, 0), (58, .goto 4, 0, 0, 0, 0), (61, .iconst 0, 0, 0, 0, 0), (62, .invokevirtual 101, 0, 21, 2, 575), (65, .iinc 2 1, 0, 0, 0, 0), (68, .goto (-63), 0, 0, 0, 0), (71, .return_, 0, 0, 0, 0)]
def mC48 : List (Nat × Instr × Nat × Nat × Nat × Nat) := [(0, .aload_n 0, 0, 0, 0, 0), (1, .getfield 53, 0, 3, 10, 217), (4, .istore 4, 0, 0, 0, 0), (6, .iload 4, 0, 0, 0, 0), (8, .iload_n 1, 0, 0, 0, 0), (9, .if_icmp .ge 42, 0, 0, 0, 0), (12, .aload_n 0, 0, 0, 0, 0), (13, .getfield 12, 0, 3, 0, 204), (16, .iload 4, 0, 0, 0, 0), (18, .iload_n 2, 0, 0, 0, 0), (19, .invokevirtual 161, 0, 36, 2, 584), (22, .istore 5, 0, 0, 0, 0), (24, .iload 5, 0, 0, 0, 0), (26, .iconst (-1), 0, 0, 0, 0), (27, .if_icmp .eq 18, 0, 0, 0, 0), (30, .aload_n 0, 0, 0, 0, 0), (31, .getfield 12, 0, 3, 0, 204), (34, .iload 5, 0, 0, 0, 0), (36, .iload_n 3, 0, 0, 0, 0), (37, .invokevirtual 172, 0, 37, 2, 610), (40, .ifCond .eq 5, 0, 0, 0, 0), (43, .iconst 1, 0, 0, 0, 0), (44, .ireturn, 0, 0, 0, 0), (45, .iinc 4 1, 0, 0, 0, 0), (48, .goto (-42), 0, 0, 0, 0), (51, .iconst 0, 0, 0, 0, 0), (52, .ireturn, 0, 0, 0, 0)]
def mC49 : List (Nat × Instr × Nat × Nat × Nat × Nat) := [(0, .aload_n 0, 0, 0, 0, 0), (1, .getfield 12, 0, 3, 0, 204), (4, .getfield 152, 0, 2, 6, 137), (7, .iload_n 2, 0, 0, 0, 0), (8, .invokevirtual 71, 0, 20, 1, 518), (11, .istore_n 3, 0, 0, 0, 0), (12, .iload_n 3, 0, 0, 0, 0), (13, .aload_n 0, 0, 0, 0, 0), (14, .getfield 12, 0, 3, 0, 204), (17, .getfield 155, 0, 2, 12, 148), (20, .if_icmp .eq 28, 0, 0, 0, 0), (23, .aload_n 0, 0, 0, 0, 0), (24, .getfield 21, 0, 3, 1, 206), (27, .iload_n 2, 0, 0, 0, 0), (28, .iconst (-1), 0, 0, 0, 0), (29, .iload_n 3, 0, 0, 0, 0), (30, .aload_n 0, 0, 0, 0, 0), (31, .getfield 12, 0, 3, 0, 204), (34, .getfield 155, 0, 2, 12, 148), (37, .if_icmp .ge 7, 0, 0, 0, 0), (40, .iconst 4, 0, 0, 0, 0), (41, .goto 4, 0, 0, 0, 0), (44, .iconst 5, 0, 0, 0, 0), (45, .invokevirtual 176, 0, 1, 3, 618), (48, .iconst 0, 0, 0, 0, 0), (49, .istore 4, 0, 0, 0, 0), (51, .iload 4, 0, 0, 0, 0), (53, .aload_n 0, 0, 0, 0, 0), (54, .getfield 12, 0, 3, 0, 204), (57, .invokevirtual 91, 0, 33, 0, 589), (60, .if_icmp .ge 59, 0, 0, 0, 0), (63, .aload_n 0, 0, 0, 0, 0), (64, .getfield 12, 0, 3, 0, 204), (67, .iload_n 2, 0, 0, 0, 0), (68, .iload 4, 0, 0, 0, 0), (70, .invokevirtual 161, 0, 36, 2, 584), (73, .istore 5, 0, 0, 0, 0), (75, .iload 5, 0, 0, 0, 0), (77, .iconst (-1), 0, 0, 0, 0), (78, .if_icmp .ne 7, 0, 0, 0, 0), (81, .iconst 0, 0, 0, 0, 0), (82, .goto 12, 0, 0, 0, 0), (85, .aload_n 0, 0, 0, 0, 0), (86, .aload_n 1, 0, 0, 0, 0), (87, .iload 4, 0, 0, 0, 0), (89, .iload 5, 0, 0, 0, 0), (91, .invokevirtual 180, 0, 50, 3, 623), (94, .istore 6, 0, 0, 0, 0), (96, .iload 6, 0, 0, 0, 0), (98, .ifCond .eq 15, 0, 0, 0, 0), (101, .aload_n 0, 0, 0, 0, 0), (102, .getfield 21, 0, 3, 1, 206), (105, .iload_n 2, 0, 0, 0, 0), (106, .iload 4, 0, 0, 0, 0), (108, .iload 6, 0, 0, 0, 0), (110, .invokevirtual 176, 0, 1, 3, 618), (113, .iinc 4 1, 0, 0, 0, 0), (116, .goto (-65), 0, 0, 0, 0), (119, .return_, 0, 0, 0, 0)]
def mC50 : List (Nat × Instr × Nat × Nat × Nat × Nat) := [(0, .aload_n 0, 0, 0, 0, 0), (1, .getfield 12, 0, 3, 0, 204), (4, .getfield 184, 0, 2, 4, 134), (7, .iload_n 3, 0, 0, 0, 0), (8, .invokevirtual 71, 0, 20, 1, 518), (11, .ifCond .eq 15, 0, 0, 0, 0), (14, .aload_n 0, 0, 0, 0, 0), (15, .getfield 12, 0, 3, 0, 204), (18, .getfield 184, 0, 2, 4, 134), (21, .iload_n 3, 0, 0, 0, 0), (22, .invokevirtual 71, 0, 20, 1, 518), (25, .ireturn, 0, 0, 0, 0), (26, .aload_n 0, 0, 0, 0, 0), (27, .iload_n 3, 0, 0, 0, 0), (28, .aload_n 0, 0, 0, 0, 0), (29, .getfield 43, 0, 3, 6, 213), (32, .iload_n 2, 0, 0, 0, 0), (33, .invokevirtual 71, 0, 20, 1, 518), (36, .invokevirtual 187, 0, 51, 2, 627), (39, .ifCond .ne 5, 0, 0, 0, 0), (42, .iconst 3, 0, 0, 0, 0), (43, .ireturn, 0, 0, 0, 0), (44, .aload_n 0, 0, 0, 0, 0), (45, .getfield 34, 0, 3, 3, 210), (48, .iload_n 3, 0, 0, 0, 0), (49, .invokevirtual 71, 0, 20, 1, 518), (52, .ifCond .ne 14, 0, 0, 0, 0), (55, .aload_n 1, 0, 0, 0, 0), (56, .iload_n 2, 0, 0, 0, 0), (57, .invokevirtual 190, 0, 74, 1, 631), (60, .ifCond .eq 6, 0, 0, 0, 0), (63, .bipush 6, 0, 0, 0, 0), (65, .ireturn, 0, 0, 0, 0), (66, .aload_n 0, 0, 0, 0, 0), (67, .getfield 40, 0, 3, 5, 212), (70, .iload_n 3, 0, 0, 0, 0), (71, .invokevirtual 71, 0, 20, 1, 518), (74, .iconst 1, 0, 0, 0, 0), (75, .if_icmp .ne 16, 0, 0, 0, 0), (78, .aload_n 1, 0, 0, 0, 0), (79, .iload_n 2, 0, 0, 0, 0), (80, .invokevirtual 194, 0, 75, 1, 636), (83, .ifCond .eq 8, 0, 0, 0, 0), (86, .bipush 7, 0, 0, 0, 0), (88, .goto 4, 0, 0, 0, 0), (91, .iconst 0, 0, 0, 0, 0), (92, .ireturn, 0, 0, 0, 0)]
def mC51 : List (Nat × Instr × Nat × Nat × Nat × Nat) := [(0, .aload_n 0, 0, 0, 0, 0), (1, .getfield 34, 0, 3, 3, 210), (4, .iload_n 1, 0, 0, 0, 0), (5, .invokevirtual 71, 0, 20, 1, 518), (8, .istore_n 3, 0, 0, 0, 0), (9, .iload_n 3, 0, 0, 0, 0), (10, .iload_n 2, 0, 0, 0, 0), (11, .if_icmp .eq 22, 0, 0, 0, 0), (14, .iload_n 3, 0, 0, 0, 0), (15, .ifCond .eq 18, 0, 0, 0, 0), (18, .iload_n 2, 0, 0, 0, 0), (19, .iconst 5, 0, 0, 0, 0), (20, .if_icmp .eq 13, 0, 0, 0, 0), (23, .iload_n 3, 0, 0, 0, 0), (24, .iconst 1, 0, 0, 0, 0), (25, .if_icmp .ne 12, 0, 0, 0, 0), (28, .iload_n 2, 0, 0, 0, 0), (29, .iconst 2, 0, 0, 0, 0), (30, .if_icmp .ne 7, 0, 0, 0, 0), (33, .iconst 1, 0, 0, 0, 0), (34, .goto 4, 0, 0, 0, 0), (37, .iconst 0, 0, 0, 0, 0), (38, .ireturn, 0, 0, 0, 0)]
def mC52 : List (Nat × Instr × Nat × Nat × Nat × Nat) := [(0, .iconst 0, 0, 0, 0, 0), (1, .istore_n 2, 0, 0, 0, 0), (2, .iload_n 2, 0, 0, 0, 0), (3, .aload_n 0, 0, 0, 0, 0), (4, .getfield 56, 0, 3, 11, 219), (7, .if_icmp .ge 26, 0, 0, 0, 0), (10, .aload_n 0, 0, 0, 0, 0), (11, .aload_n 0, 0, 0, 0, 0), (12, .getfield 30, 0, 3, 2, 208), (15, .iload_n 2, 0, 0, 0, 0), (16, .invokevirtual 71, 0, 20, 1, 518), (19, .iload_n 1, 0, 0, 0, 0), (20, .invokevirtual 197, 0, 53, 2, 644), (23, .ifCond .eq 4, 0, 0, 0, 0), (26, .return_, 0, 0, 0, 0), (27, .iinc 2 1, 0, 0, 0, 0), (30, .goto (-28), 0, 0, 0, 0), (33, .aload_n 0, 0, 0, 0, 0), (34, .getfield 30, 0, 3, 2, 208), (37, .aload_n 0, 0, 0, 0, 0), (38, .getfield 56, 0, 3, 11, 219), (41, .iload_n 1, 0, 0, 0, 0), (42, .invokevirtual 101, 0, 21, 2, 575), (45, .aload_n 0, 0, 0, 0, 0), (46, .dup, 0, 0, 0, 0), (47, .getfield 56, 0, 3, 11, 219), (50, .iconst 1, 0, 0, 0, 0), (51, .iadd, 0, 0, 0, 0), (52, .putfield 56, 0, 3, 11, 219), (55, .return_, 0, 0, 0, 0)]
def mC53 : List (Nat × Instr × Nat × Nat × Nat × Nat) := [(0, .iconst 0, 0, 0, 0, 0), (1, .istore_n 3, 0, 0, 0, 0), (2, .iload_n 3, 0, 0, 0, 0), (3, .aload_n 0, 0, 0, 0, 0), (4, .getfield 12, 0, 3, 0, 204), (7, .invokevirtual 91, 0, 33, 0, 589), (10, .if_icmp .ge 39, 0, 0, 0, 0), (13, .aload_n 0, 0, 0, 0, 0), (14, .getfield 12, 0, 3, 0, 204), (17, .aload_n 0, 0, 0, 0, 0), (18, .getfield 12, 0, 3, 0, 204), (21, .iload_n 1, 0, 0, 0, 0), (22, .iload_n 3, 0, 0, 0, 0), (23, .invokevirtual 161, 0, 36, 2, 584), (26, .aload_n 0, 0, 0, 0, 0), (27, .getfield 12, 0, 3, 0, 204), (30, .iload_n 2, 0, 0, 0, 0), (31, .iload_n 3, 0, 0, 0, 0), (32, .invokevirtual 161, 0, 36, 2, 584), (35, .invokevirtual 172, 0, 37, 2, 610), (38, .ifCond .ne 5, 0, 0, 0, 0), (41, .iconst 0, 0, 0, 0, 0), (42, .ireturn, 0, 0, 0, 0), (43, .iinc 3 1, 0, 0, 0, 0), (46, .goto (-44), 0, 0, 0, 0), (49, .iconst 1, 0, 0, 0, 0), (50, .ireturn, 0, 0, 0, 0)]
def mC54 : List (Nat × Instr × Nat × Nat × Nat × Nat) := [(0, .iload_n 1, 0, 0, 0, 0), (1, .ifCond .lt 18, 0, 0, 0, 0), (4, .iload_n 1, 0, 0, 0, 0), (5, .aload_n 0, 0, 0, 0, 0), (6, .getfield 12, 0, 3, 0, 204), (9, .invokevirtual 91, 0, 33, 0, 589), (12, .if_icmp .ge 7, 0, 0, 0, 0), (15, .iconst 1, 0, 0, 0, 0), (16, .goto 4, 0, 0, 0, 0), (19, .iconst 0, 0, 0, 0, 0), (20, .ireturn, 0, 0, 0, 0)]
def mC55 : List (Nat × Instr × Nat × Nat × Nat × Nat) := [(0, .iload_n 1, 0, 0, 0, 0), (1, .ifCond .lt 15, 0, 0, 0, 0), (4, .iload_n 1, 0, 0, 0, 0), (5, .aload_n 0, 0, 0, 0, 0), (6, .getfield 56, 0, 3, 11, 219), (9, .if_icmp .ge 7, 0, 0, 0, 0), (12, .iconst 1, 0, 0, 0, 0), (13, .goto 4, 0, 0, 0, 0), (16, .iconst 0, 0, 0, 0, 0), (17, .ireturn, 0, 0, 0, 0)]
def mC56 : List (Nat × Instr × Nat × Nat × Nat × Nat) := [(0, .iload_n 1, 0, 0, 0, 0), (1, .lookupswitch 37 #[(0, 27), (1, 32)], 27, 0, 0, 0), (28, .aload_n 0, 0, 0, 0, 0), (29, .getfield 63, 0, 3, 8, 215), (32, .ireturn, 0, 0, 0, 0), (33, .aload_n 0, 0, 0, 0, 0), (34, .getfield 49, 0, 3, 9, 216), (37, .ireturn, 0, 0, 0, 0), (38, .aload_n 0, 0, 0, 0, 0), (39, .getfield 53, 0, 3, 10, 217), (42, .ireturn, 0, 0, 0, 0)]
def mC57 : List (Nat × Instr × Nat × Nat × Nat × Nat) := [(0, .iload_n 1, 0, 0, 0, 0), (1, .tableswitch 81 1 5 #[35, 43, 51, 68, 76], 35, 0, 0, 0), (36, .aload_n 0, 0, 0, 0, 0), (37, .getfield 12, 0, 3, 0, 204), (40, .getfield 110, 0, 2, 9, 143), (43, .ireturn, 0, 0, 0, 0), (44, .aload_n 0, 0, 0, 0, 0), (45, .getfield 12, 0, 3, 0, 204), (48, .invokevirtual 91, 0, 33, 0, 589), (51, .ireturn, 0, 0, 0, 0), (52, .iconst 0, 0, 0, 0, 0), (53, .aload_n 0, 0, 0, 0, 0), (54, .getfield 12, 0, 3, 0, 204), (57, .getfield 110, 0, 2, 9, 143), (60, .aload_n 0, 0, 0, 0, 0), (61, .getfield 53, 0, 3, 10, 217), (64, .isub, 0, 0, 0, 0), (65, .invokestatic 200, 0, 996, 0, 669), (68, .ireturn, 0, 0, 0, 0), (69, .aload_n 0, 0, 0, 0, 0), (70, .getfield 21, 0, 3, 1, 206), (73, .getfield 107, 0, 0, 3, 191), (76, .ireturn, 0, 0, 0, 0), (77, .aload_n 0, 0, 0, 0, 0), (78, .getfield 56, 0, 3, 11, 219), (81, .ireturn, 0, 0, 0, 0), (82, .aload_n 0, 0, 0, 0, 0), (83, .getfield 12, 0, 3, 0, 204), (86, .invokevirtual 205, 0, 38, 0, 672), (89, .ireturn, 0, 0, 0, 0)]
def mC58 : List (Nat × Instr × Nat × Nat × Nat × Nat) := [(0, .iload_n 2, 0, 0, 0, 0), (1, .tableswitch 73 0 3 #[31, 40, 49, 61], 31, 0, 0, 0), (32, .aload_n 0, 0, 0, 0, 0), (33, .getfield 34, 0, 3, 3, 210), (36, .iload_n 1, 0, 0, 0, 0), (37, .invokevirtual 71, 0, 20, 1, 518), (40, .ireturn, 0, 0, 0, 0), (41, .aload_n 0, 0, 0, 0, 0), (42, .getfield 37, 0, 3, 4, 211), (45, .iload_n 1, 0, 0, 0, 0), (46, .invokevirtual 71, 0, 20, 1, 518), (49, .ireturn, 0, 0, 0, 0), (50, .aload_n 0, 0, 0, 0, 0), (51, .getfield 12, 0, 3, 0, 204), (54, .getfield 123, 0, 2, 2, 129), (57, .iload_n 1, 0, 0, 0, 0), (58, .invokevirtual 71, 0, 20, 1, 518), (61, .ireturn, 0, 0, 0, 0), (62, .aload_n 0, 0, 0, 0, 0), (63, .getfield 12, 0, 3, 0, 204), (66, .getfield 184, 0, 2, 4, 134), (69, .iload_n 1, 0, 0, 0, 0), (70, .invokevirtual 71, 0, 20, 1, 518), (73, .ireturn, 0, 0, 0, 0), (74, .aload_n 0, 0, 0, 0, 0), (75, .getfield 12, 0, 3, 0, 204), (78, .getfield 208, 0, 2, 3, 132), (81, .iload_n 1, 0, 0, 0, 0), (82, .invokevirtual 71, 0, 20, 1, 518), (85, .ireturn, 0, 0, 0, 0)]
def mC59 : List (Nat × Instr × Nat × Nat × Nat × Nat) := [(0, .iload_n 2, 0, 0, 0, 0), (1, .tableswitch 81 0 3 #[31, 40, 54, 72], 31, 0, 0, 0), (32, .aload_n 0, 0, 0, 0, 0), (33, .getfield 43, 0, 3, 6, 213), (36, .iload_n 1, 0, 0, 0, 0), (37, .invokevirtual 71, 0, 20, 1, 518), (40, .ireturn, 0, 0, 0, 0), (41, .aload_n 0, 0, 0, 0, 0), (42, .iload_n 1, 0, 0, 0, 0), (43, .aload_n 0, 0, 0, 0, 0), (44, .getfield 53, 0, 3, 10, 217), (47, .invokevirtual 94, 0, 44, 2, 590), (50, .aload_n 0, 0, 0, 0, 0), (51, .invokevirtual 165, 0, 45, 0, 598), (54, .ireturn, 0, 0, 0, 0), (55, .aload_n 0, 0, 0, 0, 0), (56, .iload_n 1, 0, 0, 0, 0), (57, .aload_n 0, 0, 0, 0, 0), (58, .getfield 53, 0, 3, 10, 217), (61, .invokevirtual 94, 0, 44, 2, 590), (64, .aload_n 0, 0, 0, 0, 0), (65, .getfield 46, 0, 3, 7, 214), (68, .iconst 0, 0, 0, 0, 0), (69, .invokevirtual 71, 0, 20, 1, 518), (72, .ireturn, 0, 0, 0, 0), (73, .aload_n 0, 0, 0, 0, 0), (74, .getfield 21, 0, 3, 1, 206), (77, .iload_n 1, 0, 0, 0, 0), (78, .invokevirtual 211, 0, 3, 1, 710), (81, .ireturn, 0, 0, 0, 0), (82, .aload_n 0, 0, 0, 0, 0), (83, .iload_n 1, 0, 0, 0, 0), (84, .aload_n 0, 0, 0, 0, 0), (85, .getfield 53, 0, 3, 10, 217), (88, .invokevirtual 94, 0, 44, 2, 590), (91, .aload_n 0, 0, 0, 0, 0), (92, .invokevirtual 165, 0, 45, 0, 598), (95, .aload_n 0, 0, 0, 0, 0), (96, .iload_n 1, 0, 0, 0, 0), (97, .invokevirtual 214, 0, 60, 1, 715), (100, .isub, 0, 0, 0, 0), (101, .ireturn, 0, 0, 0, 0)]
def mC60 : List (Nat × Instr × Nat × Nat × Nat × Nat) := [(0, .iconst 0, 0, 0, 0, 0), (1, .istore_n 2, 0, 0, 0, 0), (2, .aload_n 0, 0, 0, 0, 0), (3, .getfield 53, 0, 3, 10, 217), (6, .istore_n 3, 0, 0, 0, 0), (7, .iload_n 3, 0, 0, 0, 0), (8, .aload_n 0, 0, 0, 0, 0), (9, .getfield 12, 0, 3, 0, 204), (12, .getfield 110, 0, 2, 9, 143), (15, .if_icmp .ge 42, 0, 0, 0, 0), (18, .aload_n 0, 0, 0, 0, 0), (19, .getfield 12, 0, 3, 0, 204), (22, .iload_n 3, 0, 0, 0, 0), (23, .iload_n 1, 0, 0, 0, 0), (24, .invokevirtual 161, 0, 36, 2, 584), (27, .istore 4, 0, 0, 0, 0), (29, .iload_n 2, 0, 0, 0, 0), (30, .iload 4, 0, 0, 0, 0), (32, .iconst (-1), 0, 0, 0, 0), (33, .if_icmp .ne 7, 0, 0, 0, 0), (36, .iconst 0, 0, 0, 0, 0), (37, .goto 12, 0, 0, 0, 0), (40, .aload_n 0, 0, 0, 0, 0), (41, .getfield 40, 0, 3, 5, 212), (44, .iload 4, 0, 0, 0, 0), (46, .invokevirtual 71, 0, 20, 1, 518), (49, .iadd, 0, 0, 0, 0), (50, .istore_n 2, 0, 0, 0, 0), (51, .iinc 3 1, 0, 0, 0, 0), (54, .goto (-47), 0, 0, 0, 0), (57, .iload_n 2, 0, 0, 0, 0), (58, .ireturn, 0, 0, 0, 0)]
def mC61 : List (Nat × Instr × Nat × Nat × Nat × Nat) := [(0, .aload_n 0, 0, 0, 0, 0), (1, .getfield 12, 0, 3, 0, 204), (4, .aload_n 0, 0, 0, 0, 0), (5, .getfield 30, 0, 3, 2, 208), (8, .iload_n 1, 0, 0, 0, 0), (9, .invokevirtual 71, 0, 20, 1, 518), (12, .iload_n 2, 0, 0, 0, 0), (13, .invokevirtual 161, 0, 36, 2, 584), (16, .ireturn, 0, 0, 0, 0)]
def mC62 : List (Nat × Instr × Nat × Nat × Nat × Nat) := [(0, .aload_n 0, 0, 0, 0, 0), (1, .iload_n 1, 0, 0, 0, 0), (2, .iload_n 2, 0, 0, 0, 0), (3, .invokevirtual 217, 0, 61, 2, 732), (6, .istore_n 3, 0, 0, 0, 0), (7, .aload_n 0, 0, 0, 0, 0), (8, .getfield 43, 0, 3, 6, 213), (11, .iload_n 2, 0, 0, 0, 0), (12, .invokevirtual 71, 0, 20, 1, 518), (15, .istore 4, 0, 0, 0, 0), (17, .iload 4, 0, 0, 0, 0), (19, .iconst 5, 0, 0, 0, 0), (20, .if_icmp .ne 15, 0, 0, 0, 0), (23, .aload_n 0, 0, 0, 0, 0), (24, .getfield 12, 0, 3, 0, 204), (27, .getfield 123, 0, 2, 2, 129), (30, .iload_n 3, 0, 0, 0, 0), (31, .invokevirtual 71, 0, 20, 1, 518), (34, .ireturn, 0, 0, 0, 0), (35, .iload 4, 0, 0, 0, 0), (37, .iconst 2, 0, 0, 0, 0), (38, .if_icmp .ne 19, 0, 0, 0, 0), (41, .aload_n 0, 0, 0, 0, 0), (42, .getfield 34, 0, 3, 3, 210), (45, .iload_n 3, 0, 0, 0, 0), (46, .invokevirtual 71, 0, 20, 1, 518), (49, .iconst 1, 0, 0, 0, 0), (50, .if_icmp .ne 7, 0, 0, 0, 0), (53, .iconst 1, 0, 0, 0, 0), (54, .goto 4, 0, 0, 0, 0), (57, .iconst 0, 0, 0, 0, 0), (58, .istore 5, 0, 0, 0, 0), (60, .iload 5, 0, 0, 0, 0), (62, .ifCond .eq 18, 0, 0, 0, 0), (65, .sipush 1000, 0, 0, 0, 0), (68, .aload_n 0, 0, 0, 0, 0), (69, .getfield 37, 0, 3, 4, 211), (72, .iload_n 3, 0, 0, 0, 0), (73, .invokevirtual 71, 0, 20, 1, 518), (76, .imul, 0, 0, 0, 0), (77, .goto 11, 0, 0, 0, 0), (80, .aload_n 0, 0, 0, 0, 0), (81, .getfield 37, 0, 3, 4, 211), (84, .iload_n 3, 0, 0, 0, 0), (85, .invokevirtual 71, 0, 20, 1, 518), (88, .ireturn, 0, 0, 0, 0)]
def mC63 : List (Nat × Instr × Nat × Nat × Nat × Nat) := [(0, .aload_n 0, 0, 0, 0, 0), (1, .getfield 34, 0, 3, 3, 210), (4, .aload_n 0, 0, 0, 0, 0), (5, .iload_n 1, 0, 0, 0, 0), (6, .iload_n 2, 0, 0, 0, 0), (7, .invokevirtual 217, 0, 61, 2, 732), (10, .invokevirtual 71, 0, 20, 1, 518), (13, .ifCond .eq 7, 0, 0, 0, 0), (16, .iconst 1, 0, 0, 0, 0), (17, .goto 4, 0, 0, 0, 0), (20, .iconst 0, 0, 0, 0, 0), (21, .ireturn, 0, 0, 0, 0)]
def mC64 : List (Nat × Instr × Nat × Nat × Nat × Nat) := [(0, .iconst 0, 0, 0, 0, 0), (1, .istore_n 3, 0, 0, 0, 0), (2, .iconst 0, 0, 0, 0, 0), (3, .istore 4, 0, 0, 0, 0), (5, .iconst 0, 0, 0, 0, 0), (6, .istore 5, 0, 0, 0, 0), (8, .iload 5, 0, 0, 0, 0), (10, .aload_n 0, 0, 0, 0, 0), (11, .getfield 56, 0, 3, 11, 219), (14, .if_icmp .ge 81, 0, 0, 0, 0), (17, .aload_n 0, 0, 0, 0, 0), (18, .iload 5, 0, 0, 0, 0), (20, .iload_n 1, 0, 0, 0, 0), (21, .invokevirtual 220, 0, 63, 2, 728), (24, .ifCond .eq 65, 0, 0, 0, 0), (27, .aload_n 0, 0, 0, 0, 0), (28, .iload 5, 0, 0, 0, 0), (30, .iload_n 1, 0, 0, 0, 0), (31, .invokevirtual 223, 0, 62, 2, 736), (34, .istore 6, 0, 0, 0, 0), (36, .iload_n 2, 0, 0, 0, 0), (37, .ifCond .eq 18, 0, 0, 0, 0), (40, .iload 6, 0, 0, 0, 0), (42, .iload 4, 0, 0, 0, 0), (44, .if_icmp .le 7, 0, 0, 0, 0), (47, .iconst 1, 0, 0, 0, 0), (48, .goto 19, 0, 0, 0, 0), (51, .iconst 0, 0, 0, 0, 0), (52, .goto 15, 0, 0, 0, 0), (55, .iload 6, 0, 0, 0, 0), (57, .iload 4, 0, 0, 0, 0), (59, .if_icmp .ge 7, 0, 0, 0, 0), (62, .iconst 1, 0, 0, 0, 0), (63, .goto 4, 0, 0, 0, 0), (66, .iconst 0, 0, 0, 0, 0), (67, .istore 7, 0, 0, 0, 0), (69, .iload_n 3, 0, 0, 0, 0), (70, .ifCond .eq 8, 0, 0, 0, 0), (73, .iload 7, 0, 0, 0, 0), (75, .ifCond .eq 8, 0, 0, 0, 0), (78, .iload 6, 0, 0, 0, 0), (80, .goto 5, 0, 0, 0, 0), (83, .iload 4, 0, 0, 0, 0), (85, .istore 4, 0, 0, 0, 0), (87, .iconst 1, 0, 0, 0, 0), (88, .istore_n 3, 0, 0, 0, 0), (89, .iinc 5 1, 0, 0, 0, 0), (92, .goto (-84), 0, 0, 0, 0), (95, .iload 4, 0, 0, 0, 0), (97, .ireturn, 0, 0, 0, 0)]
def mC65 : List (Nat × Instr × Nat × Nat × Nat × Nat) := [(0, .lconst 0, 0, 0, 0, 0), (1, .lstore_n 2, 0, 0, 0, 0), (2, .iconst 0, 0, 0, 0, 0), (3, .istore 4, 0, 0, 0, 0), (5, .iload 4, 0, 0, 0, 0), (7, .aload_n 0, 0, 0, 0, 0), (8, .getfield 56, 0, 3, 11, 219), (11, .if_icmp .ge 20, 0, 0, 0, 0), (14, .lload_n 2, 0, 0, 0, 0), (15, .aload_n 0, 0, 0, 0, 0), (16, .iload 4, 0, 0, 0, 0), (18, .iload_n 1, 0, 0, 0, 0), (19, .invokevirtual 223, 0, 62, 2, 736), (22, .i2l, 0, 0, 0, 0), (23, .ladd, 0, 0, 0, 0), (24, .lstore_n 2, 0, 0, 0, 0), (25, .iinc 4 1, 0, 0, 0, 0), (28, .goto (-23), 0, 0, 0, 0), (31, .lload_n 2, 0, 0, 0, 0), (32, .lreturn, 0, 0, 0, 0)]
def mC66 : List (Nat × Instr × Nat × Nat × Nat × Nat) := [(0, .iconst 0, 0, 0, 0, 0), (1, .istore_n 2, 0, 0, 0, 0), (2, .iconst 0, 0, 0, 0, 0), (3, .istore_n 3, 0, 0, 0, 0), (4, .iload_n 3, 0, 0, 0, 0), (5, .aload_n 0, 0, 0, 0, 0), (6, .getfield 56, 0, 3, 11, 219), (9, .if_icmp .ge 26, 0, 0, 0, 0), (12, .iload_n 2, 0, 0, 0, 0), (13, .aload_n 0, 0, 0, 0, 0), (14, .iload_n 3, 0, 0, 0, 0), (15, .iload_n 1, 0, 0, 0, 0), (16, .invokevirtual 220, 0, 63, 2, 728), (19, .ifCond .eq 7, 0, 0, 0, 0), (22, .iconst 1, 0, 0, 0, 0), (23, .goto 4, 0, 0, 0, 0), (26, .iconst 0, 0, 0, 0, 0), (27, .iadd, 0, 0, 0, 0), (28, .istore_n 2, 0, 0, 0, 0), (29, .iinc 3 1, 0, 0, 0, 0), (32, .goto (-28), 0, 0, 0, 0), (35, .iload_n 2, 0, 0, 0, 0), (36, .ireturn, 0, 0, 0, 0)]
def mC67 : List (Nat × Instr × Nat × Nat × Nat × Nat) := [(0, .iconst 0, 0, 0, 0, 0), (1, .istore_n 3, 0, 0, 0, 0), (2, .iload_n 3, 0, 0, 0, 0), (3, .aload_n 0, 0, 0, 0, 0), (4, .getfield 56, 0, 3, 11, 219), (7, .if_icmp .ge 30, 0, 0, 0, 0), (10, .aload_n 0, 0, 0, 0, 0), (11, .iload_n 3, 0, 0, 0, 0), (12, .iload_n 1, 0, 0, 0, 0), (13, .invokevirtual 220, 0, 63, 2, 728), (16, .ifCond .eq 15, 0, 0, 0, 0), (19, .aload_n 0, 0, 0, 0, 0), (20, .iload_n 3, 0, 0, 0, 0), (21, .iload_n 1, 0, 0, 0, 0), (22, .invokevirtual 223, 0, 62, 2, 736), (25, .iload_n 2, 0, 0, 0, 0), (26, .if_icmp .ne 5, 0, 0, 0, 0), (29, .iload_n 3, 0, 0, 0, 0), (30, .ireturn, 0, 0, 0, 0), (31, .iinc 3 1, 0, 0, 0, 0), (34, .goto (-32), 0, 0, 0, 0), (37, .iconst (-1), 0, 0, 0, 0), (38, .ireturn, 0, 0, 0, 0)]
def mC68 : List (Nat × Instr × Nat × Nat × Nat × Nat) := [(0, .aload_n 0, 0, 0, 0, 0), (1, .invokespecial 3, 0, 998, 0, 59), (4, .aload_n 0, 0, 0, 0, 0), (5, .new 9, 0, 1, 0, 60), (8, .dup, 0, 0, 0, 0), (9, .sipush 500, 0, 0, 0, 0), (12, .invokespecial 11, 0, 19, 1, 62), (15, .putfield 14, 0, 4, 0, 71), (18, .aload_n 0, 0, 0, 0, 0), (19, .iconst 0, 0, 0, 0, 0), (20, .putfield 20, 0, 4, 1, 73), (23, .return_, 0, 0, 0, 0)]
def mC69 : List (Nat × Instr × Nat × Nat × Nat × Nat) := [(0, .aload_n 0, 0, 0, 0, 0), (1, .getfield 20, 0, 4, 1, 73), (4, .iload_n 1, 0, 0, 0, 0), (5, .iadd, 0, 0, 0, 0), (6, .sipush 500, 0, 0, 0, 0), (9, .if_icmp .gt 7, 0, 0, 0, 0), (12, .iconst 1, 0, 0, 0, 0), (13, .goto 4, 0, 0, 0, 0), (16, .iconst 0, 0, 0, 0, 0), (17, .ireturn, 0, 0, 0, 0)]
def mC70 : List (Nat × Instr × Nat × Nat × Nat × Nat) := [(0, .aload_n 0, 0, 0, 0, 0), (1, .iconst 1, 0, 0, 0, 0), (2, .invokevirtual 24, 0, 69, 1, 371), (5, .ifCond .eq 25, 0, 0, 0, 0), (8, .aload_n 0, 0, 0, 0, 0), (9, .getfield 14, 0, 4, 0, 71), (12, .aload_n 0, 0, 0, 0, 0), (13, .getfield 20, 0, 4, 1, 73), (16, .iload_n 1, 0, 0, 0, 0), (17, .invokevirtual 28, 0, 21, 2, 372), (20, .aload_n 0, 0, 0, 0, 0), (21, .dup, 0, 0, 0, 0), (22, .getfield 20, 0, 4, 1, 73), (25, .iconst 1, 0, 0, 0, 0), (26, .iadd, 0, 0, 0, 0), (27, .putfield 20, 0, 4, 1, 73), (30, .return_, 0, 0, 0, 0)]
def mC71 : List (Nat × Instr × Nat × Nat × Nat × Nat) := [(0, .iload_n 1, 0, 0, 0, 0), (1, .invokestatic 32, 0, 72, 1, 385), (4, .istore_n 2, 0, 0, 0, 0), (5, .aload_n 0, 0, 0, 0, 0), (6, .iload_n 2, 0, 0, 0, 0), (7, .invokevirtual 24, 0, 69, 1, 371), (10, .ifCond .eq 61, 0, 0, 0, 0), (13, .iload_n 1, 0, 0, 0, 0), (14, .istore_n 3, 0, 0, 0, 0), (15, .aload_n 0, 0, 0, 0, 0), (16, .getfield 20, 0, 4, 1, 73), (19, .iload_n 2, 0, 0, 0, 0), (20, .iadd, 0, 0, 0, 0), (21, .iconst 1, 0, 0, 0, 0), (22, .isub, 0, 0, 0, 0), (23, .istore 4, 0, 0, 0, 0), (25, .iload 4, 0, 0, 0, 0), (27, .aload_n 0, 0, 0, 0, 0), (28, .getfield 20, 0, 4, 1, 73), (31, .if_icmp .lt 30, 0, 0, 0, 0), (34, .aload_n 0, 0, 0, 0, 0), (35, .getfield 14, 0, 4, 0, 71), (38, .iload 4, 0, 0, 0, 0), (40, .bipush 10, 0, 0, 0, 0), (42, .iload_n 3, 0, 0, 0, 0), (43, .bipush 10, 0, 0, 0, 0), (45, .irem, 0, 0, 0, 0), (46, .iadd, 0, 0, 0, 0), (47, .invokevirtual 28, 0, 21, 2, 372), (50, .iload_n 3, 0, 0, 0, 0), (51, .bipush 10, 0, 0, 0, 0), (53, .idiv, 0, 0, 0, 0), (54, .istore_n 3, 0, 0, 0, 0), (55, .iinc 4 (-1), 0, 0, 0, 0), (58, .goto (-33), 0, 0, 0, 0), (61, .aload_n 0, 0, 0, 0, 0), (62, .aload_n 0, 0, 0, 0, 0), (63, .getfield 20, 0, 4, 1, 73), (66, .iload_n 2, 0, 0, 0, 0), (67, .iadd, 0, 0, 0, 0), (68, .putfield 20, 0, 4, 1, 73), (71, .return_, 0, 0, 0, 0)]
def mC72 : List (Nat × Instr × Nat × Nat × Nat × Nat) := [(0, .iconst 1, 0, 0, 0, 0), (1, .istore_n 1, 0, 0, 0, 0), (2, .iload_n 0, 0, 0, 0, 0), (3, .bipush 10, 0, 0, 0, 0), (5, .idiv, 0, 0, 0, 0), (6, .istore_n 2, 0, 0, 0, 0), (7, .iload_n 2, 0, 0, 0, 0), (8, .ifCond .le 20, 0, 0, 0, 0), (11, .iload_n 1, 0, 0, 0, 0), (12, .bipush 10, 0, 0, 0, 0), (14, .if_icmp .ge 14, 0, 0, 0, 0), (17, .iinc 1 1, 0, 0, 0, 0), (20, .iload_n 2, 0, 0, 0, 0), (21, .bipush 10, 0, 0, 0, 0), (23, .idiv, 0, 0, 0, 0), (24, .istore_n 2, 0, 0, 0, 0), (25, .goto (-18), 0, 0, 0, 0), (28, .iload_n 1, 0, 0, 0, 0), (29, .ireturn, 0, 0, 0, 0)]
def mC73 : List (Nat × Instr × Nat × Nat × Nat × Nat) := [(0, .aload_n 0, 0, 0, 0, 0), (1, .invokespecial 3, 0, 998, 0, 86), (4, .aload_n 0, 0, 0, 0, 0), (5, .new 9, 0, 1, 0, 87), (8, .dup, 0, 0, 0, 0), (9, .iconst 3, 0, 0, 0, 0), (10, .invokespecial 11, 0, 19, 1, 88), (13, .putfield 14, 0, 5, 0, 93), (16, .aload_n 0, 0, 0, 0, 0), (17, .new 9, 0, 1, 0, 87), (20, .dup, 0, 0, 0, 0), (21, .bipush 20, 0, 0, 0, 0), (23, .invokespecial 11, 0, 19, 1, 88), (26, .putfield 20, 0, 5, 1, 96), (29, .aload_n 0, 0, 0, 0, 0), (30, .bipush 80, 0, 0, 0, 0), (32, .putfield 23, 0, 5, 2, 98), (35, .aload_n 0, 0, 0, 0, 0), (36, .getfield 14, 0, 5, 0, 93), (39, .iconst 0, 0, 0, 0, 0), (40, .iconst (-1), 0, 0, 0, 0), (41, .invokevirtual 27, 0, 21, 2, 89), (44, .aload_n 0, 0, 0, 0, 0), (45, .getfield 14, 0, 5, 0, 93), (48, .iconst 1, 0, 0, 0, 0), (49, .iconst (-1), 0, 0, 0, 0), (50, .invokevirtual 27, 0, 21, 2, 89), (53, .aload_n 0, 0, 0, 0, 0), (54, .getfield 14, 0, 5, 0, 93), (57, .iconst 2, 0, 0, 0, 0), (58, .iconst (-1), 0, 0, 0, 0), (59, .invokevirtual 27, 0, 21, 2, 89), (62, .return_, 0, 0, 0, 0)]
def mC74 : List (Nat × Instr × Nat × Nat × Nat × Nat) := [(0, .aload_n 0, 0, 0, 0, 0), (1, .getfield 20, 0, 5, 1, 96), (4, .iload_n 1, 0, 0, 0, 0), (5, .invokevirtual 31, 0, 20, 1, 635), (8, .istore_n 2, 0, 0, 0, 0), (9, .iload_n 2, 0, 0, 0, 0), (10, .iconst 1, 0, 0, 0, 0), (11, .if_icmp .eq 8, 0, 0, 0, 0), (14, .iload_n 2, 0, 0, 0, 0), (15, .iconst 3, 0, 0, 0, 0), (16, .if_icmp .ne 7, 0, 0, 0, 0), (19, .iconst 1, 0, 0, 0, 0), (20, .goto 4, 0, 0, 0, 0), (23, .iconst 0, 0, 0, 0, 0), (24, .ireturn, 0, 0, 0, 0)]
def mC75 : List (Nat × Instr × Nat × Nat × Nat × Nat) := [(0, .aload_n 0, 0, 0, 0, 0), (1, .getfield 20, 0, 5, 1, 96), (4, .iload_n 1, 0, 0, 0, 0), (5, .invokevirtual 31, 0, 20, 1, 635), (8, .istore_n 2, 0, 0, 0, 0), (9, .iload_n 2, 0, 0, 0, 0), (10, .iconst 2, 0, 0, 0, 0), (11, .if_icmp .eq 8, 0, 0, 0, 0), (14, .iload_n 2, 0, 0, 0, 0), (15, .iconst 3, 0, 0, 0, 0), (16, .if_icmp .ne 7, 0, 0, 0, 0), (19, .iconst 1, 0, 0, 0, 0), (20, .goto 4, 0, 0, 0, 0), (23, .iconst 0, 0, 0, 0, 0), (24, .ireturn, 0, 0, 0, 0)]
def mC76 : List (Nat × Instr × Nat × Nat × Nat × Nat) := [(0, .aload_n 0, 0, 0, 0, 0), (1, .invokespecial 3, 0, 998, 0, 51), (4, .aload_n 0, 0, 0, 0, 0), (5, .new 9, 0, 4, 0, 54), (8, .dup, 0, 0, 0, 0), (9, .invokespecial 11, 1, 68, 0, 0), (12, .putfield 12, 0, 6, 0, 250), (15, .aload_n 0, 0, 0, 0, 0), (16, .new 16, 0, 5, 0, 81), (19, .dup, 0, 0, 0, 0), (20, .invokespecial 18, 0, 73, 0, 83), (23, .putfield 19, 0, 6, 1, 251), (26, .aload_n 0, 0, 0, 0, 0), (27, .new 23, 0, 3, 0, 108), (30, .dup, 0, 0, 0, 0), (31, .iconst 0, 0, 0, 0, 0), (32, .invokespecial 25, 0, 39, 1, 110), (35, .putfield 28, 0, 6, 2, 252), (38, .aload_n 0, 0, 0, 0, 0), (39, .new 23, 0, 3, 0, 108), (42, .dup, 0, 0, 0, 0), (43, .iconst 1, 0, 0, 0, 0), (44, .invokespecial 25, 0, 39, 1, 110), (47, .putfield 32, 0, 6, 3, 253), (50, .aload_n 0, 0, 0, 0, 0), (51, .new 23, 0, 3, 0, 108), (54, .dup, 0, 0, 0, 0), (55, .iconst 2, 0, 0, 0, 0), (56, .invokespecial 25, 0, 39, 1, 110), (59, .putfield 35, 0, 6, 4, 254), (62, .aload_n 0, 0, 0, 0, 0), (63, .new 23, 0, 3, 0, 108), (66, .dup, 0, 0, 0, 0), (67, .iconst 3, 0, 0, 0, 0), (68, .invokespecial 25, 0, 39, 1, 110), (71, .putfield 38, 0, 6, 5, 255), (74, .aload_n 0, 0, 0, 0, 0), (75, .iconst 0, 0, 0, 0, 0), (76, .putfield 41, 0, 6, 6, 256), (79, .return_, 0, 0, 0, 0)]
def mC77 : List (Nat × Instr × Nat × Nat × Nat × Nat) := [(0, .iload_n 1, 0, 0, 0, 0), (1, .invokestatic 45, 0, 105, 1, 276), (4, .ifCond .ne 13, 0, 0, 0, 0), (7, .new 49, 0, 995, 0, 0), (10, .dup, 0, 0, 0, 0), (11, .ldc 51, 999, 0, 0, 0), (13, .invokespecial 53, 0, 999, 0, 0), (16, .athrow, 0, 0, 0, 0), (17, .aload_n 0, 0, 0, 0, 0), (18, .getfield 12, 0, 6, 0, 250), (21, .iconst 1, 0, 0, 0, 0), (22, .invokevirtual 56, 0, 69, 1, 347), (25, .ifCond .ne 13, 0, 0, 0, 0), (28, .new 59, 0, 995, 1, 0), (31, .dup, 0, 0, 0, 0), (32, .ldc 61, 999, 0, 0, 0), (34, .invokespecial 63, 0, 999, 0, 0), (37, .athrow, 0, 0, 0, 0), (38, .aload_n 0, 0, 0, 0, 0), (39, .getfield 12, 0, 6, 0, 250), (42, .iload_n 1, 0, 0, 0, 0), (43, .invokevirtual 64, 0, 70, 1, 367), (46, .aload_n 0, 0, 0, 0, 0), (47, .iconst 0, 0, 0, 0, 0), (48, .putfield 41, 0, 6, 6, 256), (51, .aload_n 0, 0, 0, 0, 0), (52, .getfield 12, 0, 6, 0, 250), (55, .getfield 67, 0, 4, 1, 75), (58, .ireturn, 0, 0, 0, 0)]
def mC78 : List (Nat × Instr × Nat × Nat × Nat × Nat) := [(0, .iload_n 1, 0, 0, 0, 0), (1, .ifCond .ge 13, 0, 0, 0, 0), (4, .new 49, 0, 995, 2, 0), (7, .dup, 0, 0, 0, 0), (8, .ldc 71, 999, 0, 0, 0), (10, .invokespecial 53, 0, 999, 0, 0), (13, .athrow, 0, 0, 0, 0), (14, .aload_n 0, 0, 0, 0, 0), (15, .getfield 12, 0, 6, 0, 250), (18, .iload_n 1, 0, 0, 0, 0), (19, .invokestatic 73, 0, 72, 1, 378), (22, .invokevirtual 56, 0, 69, 1, 347), (25, .ifCond .ne 13, 0, 0, 0, 0), (28, .new 59, 0, 995, 1, 0), (31, .dup, 0, 0, 0, 0), (32, .ldc 61, 999, 0, 0, 0), (34, .invokespecial 63, 0, 999, 0, 0), (37, .athrow, 0, 0, 0, 0), (38, .aload_n 0, 0, 0, 0, 0), (39, .getfield 12, 0, 6, 0, 250), (42, .iload_n 1, 0, 0, 0, 0), (43, .invokevirtual 77, 0, 71, 1, 381), (46, .aload_n 0, 0, 0, 0, 0), (47, .iconst 0, 0, 0, 0, 0), (48, .putfield 41, 0, 6, 6, 256), (51, .aload_n 0, 0, 0, 0, 0), (52, .getfield 12, 0, 6, 0, 250), (55, .getfield 67, 0, 4, 1, 75), (58, .ireturn, 0, 0, 0, 0)]
def mC79 : List (Nat × Instr × Nat × Nat × Nat × Nat) := [(0, .iload_n 1, 0, 0, 0, 0), (1, .ifCond .lt 20, 0, 0, 0, 0), (4, .iload_n 1, 0, 0, 0, 0), (5, .bipush 26, 0, 0, 0, 0), (7, .if_icmp .ge 14, 0, 0, 0, 0), (10, .iload_n 2, 0, 0, 0, 0), (11, .iconst 1, 0, 0, 0, 0), (12, .if_icmp .lt 9, 0, 0, 0, 0), (15, .iload_n 2, 0, 0, 0, 0), (16, .bipush 12, 0, 0, 0, 0), (18, .if_icmp .le 13, 0, 0, 0, 0), (21, .new 49, 0, 995, 3, 0), (24, .dup, 0, 0, 0, 0), (25, .ldc 80, 999, 0, 0, 0), (27, .invokespecial 53, 0, 999, 0, 0), (30, .athrow, 0, 0, 0, 0), (31, .aload_n 0, 0, 0, 0, 0), (32, .getfield 12, 0, 6, 0, 250), (35, .iload_n 2, 0, 0, 0, 0), (36, .invokevirtual 56, 0, 69, 1, 347), (39, .ifCond .ne 13, 0, 0, 0, 0), (42, .new 59, 0, 995, 1, 0), (45, .dup, 0, 0, 0, 0), (46, .ldc 61, 999, 0, 0, 0), (48, .invokespecial 63, 0, 999, 0, 0), (51, .athrow, 0, 0, 0, 0), (52, .iconst 0, 0, 0, 0, 0), (53, .istore_n 3, 0, 0, 0, 0), (54, .iload_n 3, 0, 0, 0, 0), (55, .iload_n 2, 0, 0, 0, 0), (56, .if_icmp .ge 25, 0, 0, 0, 0), (59, .aload_n 0, 0, 0, 0, 0), (60, .getfield 12, 0, 6, 0, 250), (63, .bipush 20, 0, 0, 0, 0), (65, .iload_n 1, 0, 0, 0, 0), (66, .iload_n 3, 0, 0, 0, 0), (67, .iadd, 0, 0, 0, 0), (68, .bipush 26, 0, 0, 0, 0), (70, .irem, 0, 0, 0, 0), (71, .iadd, 0, 0, 0, 0), (72, .invokevirtual 64, 0, 70, 1, 367), (75, .iinc 3 1, 0, 0, 0, 0), (78, .goto (-24), 0, 0, 0, 0), (81, .aload_n 0, 0, 0, 0, 0), (82, .iconst 0, 0, 0, 0, 0), (83, .putfield 41, 0, 6, 6, 256), (86, .aload_n 0, 0, 0, 0, 0), (87, .getfield 12, 0, 6, 0, 250), (90, .getfield 67, 0, 4, 1, 75), (93, .ireturn, 0, 0, 0, 0)]
def mC80 : List (Nat × Instr × Nat × Nat × Nat × Nat) := [(0, .iload_n 1, 0, 0, 0, 0), (1, .ifCond .lt 19, 0, 0, 0, 0), (4, .iload_n 2, 0, 0, 0, 0), (5, .ifCond .lt 15, 0, 0, 0, 0), (8, .iload_n 3, 0, 0, 0, 0), (9, .ifCond .lt 11, 0, 0, 0, 0), (12, .iload 4, 0, 0, 0, 0), (14, .invokestatic 45, 0, 105, 1, 276), (17, .ifCond .ne 13, 0, 0, 0, 0), (20, .new 49, 0, 995, 4, 0), (23, .dup, 0, 0, 0, 0), (24, .ldc 82, 999, 0, 0, 0), (26, .invokespecial 53, 0, 999, 0, 0), (29, .athrow, 0, 0, 0, 0), (30, .aload_n 0, 0, 0, 0, 0), (31, .getfield 12, 0, 6, 0, 250), (34, .iload_n 1, 0, 0, 0, 0), (35, .invokestatic 73, 0, 72, 1, 378), (38, .iload_n 2, 0, 0, 0, 0), (39, .invokestatic 73, 0, 72, 1, 378), (42, .iadd, 0, 0, 0, 0), (43, .iload_n 3, 0, 0, 0, 0), (44, .invokestatic 73, 0, 72, 1, 378), (47, .iadd, 0, 0, 0, 0), (48, .iconst 2, 0, 0, 0, 0), (49, .iadd, 0, 0, 0, 0), (50, .invokevirtual 56, 0, 69, 1, 347), (53, .ifCond .ne 13, 0, 0, 0, 0), (56, .new 59, 0, 995, 1, 0), (59, .dup, 0, 0, 0, 0), (60, .ldc 61, 999, 0, 0, 0), (62, .invokespecial 63, 0, 999, 0, 0), (65, .athrow, 0, 0, 0, 0), (66, .aload_n 0, 0, 0, 0, 0), (67, .getfield 12, 0, 6, 0, 250), (70, .iload_n 1, 0, 0, 0, 0), (71, .invokevirtual 77, 0, 71, 1, 381), (74, .aload_n 0, 0, 0, 0, 0), (75, .getfield 12, 0, 6, 0, 250), (78, .iload 4, 0, 0, 0, 0), (80, .invokevirtual 64, 0, 70, 1, 367), (83, .aload_n 0, 0, 0, 0, 0), (84, .getfield 12, 0, 6, 0, 250), (87, .iload_n 2, 0, 0, 0, 0), (88, .invokevirtual 77, 0, 71, 1, 381), (91, .aload_n 0, 0, 0, 0, 0), (92, .getfield 12, 0, 6, 0, 250), (95, .iload 4, 0, 0, 0, 0), (97, .invokevirtual 64, 0, 70, 1, 367), (100, .aload_n 0, 0, 0, 0, 0), (101, .getfield 12, 0, 6, 0, 250), (104, .iload_n 3, 0, 0, 0, 0), (105, .invokevirtual 77, 0, 71, 1, 381), (108, .aload_n 0, 0, 0, 0, 0), (109, .iconst 0, 0, 0, 0, 0), (110, .putfield 41, 0, 6, 6, 256), (113, .aload_n 0, 0, 0, 0, 0), (114, .getfield 12, 0, 6, 0, 250), (117, .getfield 67, 0, 4, 1, 75), (120, .ireturn, 0, 0, 0, 0)]
def mC81 : List (Nat × Instr × Nat × Nat × Nat × Nat) := [(0, .iload_n 1, 0, 0, 0, 0), (1, .ifCond .lt 8, 0, 0, 0, 0), (4, .iload_n 1, 0, 0, 0, 0), (5, .iconst 2, 0, 0, 0, 0), (6, .if_icmp .le 13, 0, 0, 0, 0), (9, .new 49, 0, 995, 5, 0), (12, .dup, 0, 0, 0, 0), (13, .ldc 84, 999, 0, 0, 0), (15, .invokespecial 53, 0, 999, 0, 0), (18, .athrow, 0, 0, 0, 0), (19, .iload_n 2, 0, 0, 0, 0), (20, .iconst (-1), 0, 0, 0, 0), (21, .if_icmp .lt 16, 0, 0, 0, 0), (24, .iload_n 2, 0, 0, 0, 0), (25, .iload_n 1, 0, 0, 0, 0), (26, .ifCond .ne 7, 0, 0, 0, 0), (29, .iconst 3, 0, 0, 0, 0), (30, .goto 4, 0, 0, 0, 0), (33, .iconst 1, 0, 0, 0, 0), (34, .if_icmp .le 13, 0, 0, 0, 0), (37, .new 49, 0, 995, 6, 0), (40, .dup, 0, 0, 0, 0), (41, .ldc 86, 999, 0, 0, 0), (43, .invokespecial 53, 0, 999, 0, 0), (46, .athrow, 0, 0, 0, 0), (47, .aload_n 0, 0, 0, 0, 0), (48, .getfield 19, 0, 6, 1, 251), (51, .getfield 88, 0, 5, 0, 95), (54, .iload_n 1, 0, 0, 0, 0), (55, .invokevirtual 92, 0, 20, 1, 402), (58, .istore_n 3, 0, 0, 0, 0), (59, .aload_n 0, 0, 0, 0, 0), (60, .getfield 19, 0, 6, 1, 251), (63, .getfield 88, 0, 5, 0, 95), (66, .iload_n 1, 0, 0, 0, 0), (67, .iload_n 2, 0, 0, 0, 0), (68, .invokevirtual 97, 0, 21, 2, 406), (71, .aload_n 0, 0, 0, 0, 0), (72, .invokevirtual 101, 0, 112, 0, 407), (75, .iload_n 3, 0, 0, 0, 0), (76, .ireturn, 0, 0, 0, 0)]
def mC82 : List (Nat × Instr × Nat × Nat × Nat × Nat) := [(0, .iload_n 1, 0, 0, 0, 0), (1, .invokestatic 104, 0, 107, 1, 415), (4, .ifCond .ne 13, 0, 0, 0, 0), (7, .new 49, 0, 995, 7, 0), (10, .dup, 0, 0, 0, 0), (11, .ldc 107, 999, 0, 0, 0), (13, .invokespecial 53, 0, 999, 0, 0), (16, .athrow, 0, 0, 0, 0), (17, .aload_n 0, 0, 0, 0, 0), (18, .getfield 19, 0, 6, 1, 251), (21, .getfield 109, 0, 5, 2, 100), (24, .istore_n 2, 0, 0, 0, 0), (25, .aload_n 0, 0, 0, 0, 0), (26, .getfield 19, 0, 6, 1, 251), (29, .iload_n 1, 0, 0, 0, 0), (30, .putfield 109, 0, 5, 2, 100), (33, .aload_n 0, 0, 0, 0, 0), (34, .invokevirtual 101, 0, 112, 0, 407), (37, .iload_n 2, 0, 0, 0, 0), (38, .ireturn, 0, 0, 0, 0)]
def mC83 : List (Nat × Instr × Nat × Nat × Nat × Nat) := [(0, .iload_n 1, 0, 0, 0, 0), (1, .ifCond .lt 9, 0, 0, 0, 0), (4, .iload_n 1, 0, 0, 0, 0), (5, .bipush 20, 0, 0, 0, 0), (7, .if_icmp .lt 13, 0, 0, 0, 0), (10, .new 112, 0, 995, 8, 0), (13, .dup, 0, 0, 0, 0), (14, .ldc 114, 999, 0, 0, 0), (16, .invokespecial 116, 0, 999, 0, 0), (19, .athrow, 0, 0, 0, 0), (20, .iload_n 2, 0, 0, 0, 0), (21, .ifCond .lt 8, 0, 0, 0, 0), (24, .iload_n 2, 0, 0, 0, 0), (25, .iconst 3, 0, 0, 0, 0), (26, .if_icmp .le 13, 0, 0, 0, 0), (29, .new 49, 0, 995, 9, 0), (32, .dup, 0, 0, 0, 0), (33, .ldc 117, 999, 0, 0, 0), (35, .invokespecial 53, 0, 999, 0, 0), (38, .athrow, 0, 0, 0, 0), (39, .aload_n 0, 0, 0, 0, 0), (40, .getfield 19, 0, 6, 1, 251), (43, .getfield 119, 0, 5, 1, 97), (46, .iload_n 1, 0, 0, 0, 0), (47, .invokevirtual 92, 0, 20, 1, 402), (50, .istore_n 3, 0, 0, 0, 0), (51, .aload_n 0, 0, 0, 0, 0), (52, .getfield 19, 0, 6, 1, 251), (55, .getfield 119, 0, 5, 1, 97), (58, .iload_n 1, 0, 0, 0, 0), (59, .iload_n 2, 0, 0, 0, 0), (60, .invokevirtual 97, 0, 21, 2, 406), (63, .aload_n 0, 0, 0, 0, 0), (64, .invokevirtual 101, 0, 112, 0, 407), (67, .iload_n 3, 0, 0, 0, 0), (68, .ireturn, 0, 0, 0, 0)]
def mC84 : List (Nat × Instr × Nat × Nat × Nat × Nat) := [(0, .iload_n 1, 0, 0, 0, 0), (1, .ifCond .lt 8, 0, 0, 0, 0), (4, .iload_n 1, 0, 0, 0, 0), (5, .iconst 2, 0, 0, 0, 0), (6, .if_icmp .le 13, 0, 0, 0, 0), (9, .new 49, 0, 995, 10, 0), (12, .dup, 0, 0, 0, 0), (13, .ldc 122, 999, 0, 0, 0), (15, .invokespecial 53, 0, 999, 0, 0), (18, .athrow, 0, 0, 0, 0), (19, .aload_n 0, 0, 0, 0, 0), (20, .invokevirtual 124, 0, 108, 0, 445), (23, .iload_n 1, 0, 0, 0, 0), (24, .invokevirtual 128, 0, 56, 1, 648), (27, .ireturn, 0, 0, 0, 0)]
def mC85 : List (Nat × Instr × Nat × Nat × Nat × Nat) := [(0, .iload_n 1, 0, 0, 0, 0), (1, .invokestatic 131, 0, 106, 1, 656), (4, .ifCond .ne 13, 0, 0, 0, 0), (7, .new 49, 0, 995, 11, 0), (10, .dup, 0, 0, 0, 0), (11, .ldc 134, 999, 0, 0, 0), (13, .invokespecial 53, 0, 999, 0, 0), (16, .athrow, 0, 0, 0, 0), (17, .aload_n 0, 0, 0, 0, 0), (18, .invokevirtual 136, 0, 111, 0, 449), (21, .aload_n 0, 0, 0, 0, 0), (22, .iload_n 1, 0, 0, 0, 0), (23, .invokevirtual 139, 0, 110, 1, 510), (26, .getfield 143, 0, 3, 0, 205), (29, .invokevirtual 147, 0, 34, 0, 502), (32, .ireturn, 0, 0, 0, 0)]
def mC86 : List (Nat × Instr × Nat × Nat × Nat × Nat) := [(0, .iload_n 1, 0, 0, 0, 0), (1, .ifCond .lt 9, 0, 0, 0, 0), (4, .iload_n 1, 0, 0, 0, 0), (5, .bipush 6, 0, 0, 0, 0), (7, .if_icmp .le 13, 0, 0, 0, 0), (10, .new 49, 0, 995, 12, 0), (13, .dup, 0, 0, 0, 0), (14, .ldc 153, 999, 0, 0, 0), (16, .invokespecial 53, 0, 999, 0, 0), (19, .athrow, 0, 0, 0, 0), (20, .iload_n 1, 0, 0, 0, 0), (21, .ifCond .ne 13, 0, 0, 0, 0), (24, .aload_n 0, 0, 0, 0, 0), (25, .getfield 12, 0, 6, 0, 250), (28, .getfield 67, 0, 4, 1, 75), (31, .goto 11, 0, 0, 0, 0), (34, .aload_n 0, 0, 0, 0, 0), (35, .invokevirtual 124, 0, 108, 0, 445), (38, .iload_n 1, 0, 0, 0, 0), (39, .invokevirtual 155, 0, 57, 1, 665), (42, .ireturn, 0, 0, 0, 0)]
def mC87 : List (Nat × Instr × Nat × Nat × Nat × Nat) := [(0, .aload_n 0, 0, 0, 0, 0), (1, .invokevirtual 124, 0, 108, 0, 445), (4, .getfield 143, 0, 3, 0, 205), (7, .astore_n 2, 0, 0, 0, 0), (8, .iload_n 1, 0, 0, 0, 0), (9, .ifCond .lt 11, 0, 0, 0, 0), (12, .iload_n 1, 0, 0, 0, 0), (13, .aload_n 2, 0, 0, 0, 0), (14, .getfield 158, 0, 2, 9, 144), (17, .if_icmp .lt 13, 0, 0, 0, 0), (20, .new 112, 0, 995, 13, 0), (23, .dup, 0, 0, 0, 0), (24, .ldc 161, 999, 0, 0, 0), (26, .invokespecial 116, 0, 999, 0, 0), (29, .athrow, 0, 0, 0, 0), (30, .aload_n 2, 0, 0, 0, 0), (31, .getfield 163, 0, 2, 6, 138), (34, .iload_n 1, 0, 0, 0, 0), (35, .invokevirtual 92, 0, 20, 1, 402), (38, .ireturn, 0, 0, 0, 0)]
def mC88 : List (Nat × Instr × Nat × Nat × Nat × Nat) := [(0, .aload_n 0, 0, 0, 0, 0), (1, .invokevirtual 124, 0, 108, 0, 445), (4, .astore 4, 0, 0, 0, 0), (6, .aload 4, 0, 0, 0, 0), (8, .getfield 143, 0, 3, 0, 205), (11, .iload_n 1, 0, 0, 0, 0), (12, .iload_n 2, 0, 0, 0, 0), (13, .invokevirtual 166, 0, 36, 2, 685), (16, .istore 5, 0, 0, 0, 0), (18, .iload 5, 0, 0, 0, 0), (20, .iconst (-1), 0, 0, 0, 0), (21, .if_icmp .ne 13, 0, 0, 0, 0), (24, .new 112, 0, 995, 14, 0), (27, .dup, 0, 0, 0, 0), (28, .ldc 170, 999, 0, 0, 0), (30, .invokespecial 116, 0, 999, 0, 0), (33, .athrow, 0, 0, 0, 0), (34, .iload_n 3, 0, 0, 0, 0), (35, .ifCond .lt 8, 0, 0, 0, 0), (38, .iload_n 3, 0, 0, 0, 0), (39, .iconst 4, 0, 0, 0, 0), (40, .if_icmp .le 13, 0, 0, 0, 0), (43, .new 49, 0, 995, 15, 0), (46, .dup, 0, 0, 0, 0), (47, .ldc 172, 999, 0, 0, 0), (49, .invokespecial 53, 0, 999, 0, 0), (52, .athrow, 0, 0, 0, 0), (53, .aload 4, 0, 0, 0, 0), (55, .iload 5, 0, 0, 0, 0), (57, .iload_n 3, 0, 0, 0, 0), (58, .invokevirtual 174, 0, 58, 2, 688), (61, .ireturn, 0, 0, 0, 0)]
def mC89 : List (Nat × Instr × Nat × Nat × Nat × Nat) := [(0, .aload_n 0, 0, 0, 0, 0), (1, .invokevirtual 124, 0, 108, 0, 445), (4, .getfield 143, 0, 3, 0, 205), (7, .astore 4, 0, 0, 0, 0), (9, .aload 4, 0, 0, 0, 0), (11, .iload_n 1, 0, 0, 0, 0), (12, .iload_n 2, 0, 0, 0, 0), (13, .invokevirtual 166, 0, 36, 2, 685), (16, .istore 5, 0, 0, 0, 0), (18, .iload 5, 0, 0, 0, 0), (20, .iconst (-1), 0, 0, 0, 0), (21, .if_icmp .ne 13, 0, 0, 0, 0), (24, .new 112, 0, 995, 14, 0), (27, .dup, 0, 0, 0, 0), (28, .ldc 170, 999, 0, 0, 0), (30, .invokespecial 116, 0, 999, 0, 0), (33, .athrow, 0, 0, 0, 0), (34, .iload_n 3, 0, 0, 0, 0), (35, .ifCond .lt 17, 0, 0, 0, 0), (38, .iload_n 3, 0, 0, 0, 0), (39, .aload 4, 0, 0, 0, 0), (41, .getfield 177, 0, 2, 2, 130), (44, .iload 5, 0, 0, 0, 0), (46, .invokevirtual 92, 0, 20, 1, 402), (49, .if_icmp .lt 5, 0, 0, 0, 0), (52, .iconst (-1), 0, 0, 0, 0), (53, .ireturn, 0, 0, 0, 0), (54, .aload 4, 0, 0, 0, 0), (56, .getfield 180, 0, 2, 0, 124), (59, .aload 4, 0, 0, 0, 0), (61, .getfield 183, 0, 2, 1, 127), (64, .iload 5, 0, 0, 0, 0), (66, .invokevirtual 92, 0, 20, 1, 402), (69, .iload_n 3, 0, 0, 0, 0), (70, .iadd, 0, 0, 0, 0), (71, .invokevirtual 92, 0, 20, 1, 402), (74, .ireturn, 0, 0, 0, 0)]
def mC90 : List (Nat × Instr × Nat × Nat × Nat × Nat) := [(0, .aload_n 0, 0, 0, 0, 0), (1, .invokevirtual 124, 0, 108, 0, 445), (4, .astore_n 3, 0, 0, 0, 0), (5, .aload_n 3, 0, 0, 0, 0), (6, .iload_n 1, 0, 0, 0, 0), (7, .invokevirtual 186, 0, 54, 1, 700), (10, .ifCond .ne 13, 0, 0, 0, 0), (13, .new 112, 0, 995, 16, 0), (16, .dup, 0, 0, 0, 0), (17, .ldc 189, 999, 0, 0, 0), (19, .invokespecial 116, 0, 999, 0, 0), (22, .athrow, 0, 0, 0, 0), (23, .iload_n 2, 0, 0, 0, 0), (24, .ifCond .lt 8, 0, 0, 0, 0), (27, .iload_n 2, 0, 0, 0, 0), (28, .iconst 4, 0, 0, 0, 0), (29, .if_icmp .le 13, 0, 0, 0, 0), (32, .new 49, 0, 995, 17, 0), (35, .dup, 0, 0, 0, 0), (36, .ldc 191, 999, 0, 0, 0), (38, .invokespecial 53, 0, 999, 0, 0), (41, .athrow, 0, 0, 0, 0), (42, .aload_n 3, 0, 0, 0, 0), (43, .iload_n 1, 0, 0, 0, 0), (44, .iload_n 2, 0, 0, 0, 0), (45, .invokevirtual 193, 0, 59, 2, 706), (48, .ireturn, 0, 0, 0, 0)]
def mC91 : List (Nat × Instr × Nat × Nat × Nat × Nat) := [(0, .aload_n 0, 0, 0, 0, 0), (1, .invokevirtual 124, 0, 108, 0, 445), (4, .astore_n 3, 0, 0, 0, 0), (5, .aload_n 3, 0, 0, 0, 0), (6, .iload_n 1, 0, 0, 0, 0), (7, .invokevirtual 186, 0, 54, 1, 700), (10, .ifCond .ne 13, 0, 0, 0, 0), (13, .new 112, 0, 995, 16, 0), (16, .dup, 0, 0, 0, 0), (17, .ldc 189, 999, 0, 0, 0), (19, .invokespecial 116, 0, 999, 0, 0), (22, .athrow, 0, 0, 0, 0), (23, .iload_n 2, 0, 0, 0, 0), (24, .ifCond .eq 18, 0, 0, 0, 0), (27, .iload_n 2, 0, 0, 0, 0), (28, .iconst 1, 0, 0, 0, 0), (29, .if_icmp .eq 13, 0, 0, 0, 0), (32, .new 49, 0, 995, 18, 0), (35, .dup, 0, 0, 0, 0), (36, .ldc 196, 999, 0, 0, 0), (38, .invokespecial 53, 0, 999, 0, 0), (41, .athrow, 0, 0, 0, 0), (42, .aload_n 3, 0, 0, 0, 0), (43, .iload_n 1, 0, 0, 0, 0), (44, .iload_n 2, 0, 0, 0, 0), (45, .iconst 1, 0, 0, 0, 0), (46, .if_icmp .ne 7, 0, 0, 0, 0), (49, .iconst 1, 0, 0, 0, 0), (50, .goto 4, 0, 0, 0, 0), (53, .iconst 0, 0, 0, 0, 0), (54, .invokevirtual 198, 0, 64, 2, 724), (57, .ireturn, 0, 0, 0, 0)]
def mC92 : List (Nat × Instr × Nat × Nat × Nat × Nat) := [(0, .aload_n 0, 0, 0, 0, 0), (1, .invokevirtual 124, 0, 108, 0, 445), (4, .astore_n 2, 0, 0, 0, 0), (5, .aload_n 2, 0, 0, 0, 0), (6, .iload_n 1, 0, 0, 0, 0), (7, .invokevirtual 186, 0, 54, 1, 700), (10, .ifCond .ne 13, 0, 0, 0, 0), (13, .new 112, 0, 995, 16, 0), (16, .dup, 0, 0, 0, 0), (17, .ldc 189, 999, 0, 0, 0), (19, .invokespecial 116, 0, 999, 0, 0), (22, .athrow, 0, 0, 0, 0), (23, .aload_n 2, 0, 0, 0, 0), (24, .iload_n 1, 0, 0, 0, 0), (25, .invokevirtual 202, 0, 65, 1, 744), (28, .lreturn, 0, 0, 0, 0)]
def mC93 : List (Nat × Instr × Nat × Nat × Nat × Nat) := [(0, .aload_n 0, 0, 0, 0, 0), (1, .invokevirtual 124, 0, 108, 0, 445), (4, .astore_n 2, 0, 0, 0, 0), (5, .aload_n 2, 0, 0, 0, 0), (6, .iload_n 1, 0, 0, 0, 0), (7, .invokevirtual 186, 0, 54, 1, 700), (10, .ifCond .ne 13, 0, 0, 0, 0), (13, .new 112, 0, 995, 16, 0), (16, .dup, 0, 0, 0, 0), (17, .ldc 189, 999, 0, 0, 0), (19, .invokespecial 116, 0, 999, 0, 0), (22, .athrow, 0, 0, 0, 0), (23, .aload_n 2, 0, 0, 0, 0), (24, .iload_n 1, 0, 0, 0, 0), (25, .invokevirtual 206, 0, 66, 1, 752), (28, .istore_n 3, 0, 0, 0, 0), (29, .iload_n 3, 0, 0, 0, 0), (30, .ifCond .ne 7, 0, 0, 0, 0), (33, .dconst 0, 0, 0, 0, 0), (34, .goto 12, 0, 0, 0, 0), (37, .aload_n 2, 0, 0, 0, 0), (38, .iload_n 1, 0, 0, 0, 0), (39, .invokevirtual 202, 0, 65, 1, 744), (42, .l2d, 0, 0, 0, 0), (43, .iload_n 3, 0, 0, 0, 0), (44, .i2d, 0, 0, 0, 0), (45, .ddiv, 0, 0, 0, 0), (46, .dreturn, 0, 0, 0, 0)]
def mC94 : List (Nat × Instr × Nat × Nat × Nat × Nat) := [(0, .aload_n 0, 0, 0, 0, 0), (1, .invokevirtual 124, 0, 108, 0, 445), (4, .getfield 209, 0, 3, 1, 207), (7, .astore_n 3, 0, 0, 0, 0), (8, .iload_n 1, 0, 0, 0, 0), (9, .ifCond .lt 11, 0, 0, 0, 0), (12, .iload_n 1, 0, 0, 0, 0), (13, .aload_n 3, 0, 0, 0, 0), (14, .getfield 213, 0, 0, 3, 192), (17, .if_icmp .lt 13, 0, 0, 0, 0), (20, .new 112, 0, 995, 19, 0), (23, .dup, 0, 0, 0, 0), (24, .ldc 216, 999, 0, 0, 0), (26, .invokespecial 116, 0, 999, 0, 0), (29, .athrow, 0, 0, 0, 0), (30, .iload_n 2, 0, 0, 0, 0), (31, .ifCond .lt 8, 0, 0, 0, 0), (34, .iload_n 2, 0, 0, 0, 0), (35, .iconst 2, 0, 0, 0, 0), (36, .if_icmp .le 13, 0, 0, 0, 0), (39, .new 49, 0, 995, 20, 0), (42, .dup, 0, 0, 0, 0), (43, .ldc 218, 999, 0, 0, 0), (45, .invokespecial 53, 0, 999, 0, 0), (48, .athrow, 0, 0, 0, 0), (49, .aload_n 3, 0, 0, 0, 0), (50, .iload_n 1, 0, 0, 0, 0), (51, .iload_n 2, 0, 0, 0, 0), (52, .invokevirtual 220, 0, 2, 2, 762), (55, .ireturn, 0, 0, 0, 0)]
def mC95 : List (Nat × Instr × Nat × Nat × Nat × Nat) := [(0, .aload_n 0, 0, 0, 0, 0), (1, .invokevirtual 124, 0, 108, 0, 445), (4, .astore_n 2, 0, 0, 0, 0), (5, .aload_n 2, 0, 0, 0, 0), (6, .iload_n 1, 0, 0, 0, 0), (7, .invokevirtual 223, 0, 55, 1, 770), (10, .ifCond .ne 13, 0, 0, 0, 0), (13, .new 112, 0, 995, 21, 0), (16, .dup, 0, 0, 0, 0), (17, .ldc 226, 999, 0, 0, 0), (19, .invokespecial 116, 0, 999, 0, 0), (22, .athrow, 0, 0, 0, 0), (23, .aload_n 2, 0, 0, 0, 0), (24, .getfield 228, 0, 3, 2, 209), (27, .iload_n 1, 0, 0, 0, 0), (28, .invokevirtual 92, 0, 20, 1, 402), (31, .ireturn, 0, 0, 0, 0)]
def mC96 : List (Nat × Instr × Nat × Nat × Nat × Nat) := [(0, .aload_n 0, 0, 0, 0, 0), (1, .invokevirtual 124, 0, 108, 0, 445), (4, .astore_n 3, 0, 0, 0, 0), (5, .aload_n 3, 0, 0, 0, 0), (6, .iload_n 1, 0, 0, 0, 0), (7, .invokevirtual 223, 0, 55, 1, 770), (10, .ifCond .eq 11, 0, 0, 0, 0), (13, .aload_n 3, 0, 0, 0, 0), (14, .iload_n 2, 0, 0, 0, 0), (15, .invokevirtual 186, 0, 54, 1, 700), (18, .ifCond .ne 13, 0, 0, 0, 0), (21, .new 112, 0, 995, 22, 0), (24, .dup, 0, 0, 0, 0), (25, .ldc 231, 999, 0, 0, 0), (27, .invokespecial 116, 0, 999, 0, 0), (30, .athrow, 0, 0, 0, 0), (31, .aload_n 3, 0, 0, 0, 0), (32, .iload_n 1, 0, 0, 0, 0), (33, .iload_n 2, 0, 0, 0, 0), (34, .invokevirtual 233, 0, 62, 2, 780), (37, .ireturn, 0, 0, 0, 0)]
def mC97 : List (Nat × Instr × Nat × Nat × Nat × Nat) := [(0, .aload_n 0, 0, 0, 0, 0), (1, .invokevirtual 124, 0, 108, 0, 445), (4, .astore_n 3, 0, 0, 0, 0), (5, .aload_n 3, 0, 0, 0, 0), (6, .iload_n 1, 0, 0, 0, 0), (7, .invokevirtual 186, 0, 54, 1, 700), (10, .ifCond .ne 13, 0, 0, 0, 0), (13, .new 112, 0, 995, 16, 0), (16, .dup, 0, 0, 0, 0), (17, .ldc 189, 999, 0, 0, 0), (19, .invokespecial 116, 0, 999, 0, 0), (22, .athrow, 0, 0, 0, 0), (23, .aload_n 3, 0, 0, 0, 0), (24, .iload_n 1, 0, 0, 0, 0), (25, .iload_n 2, 0, 0, 0, 0), (26, .invokevirtual 236, 0, 67, 2, 785), (29, .ireturn, 0, 0, 0, 0)]
def mC98 : List (Nat × Instr × Nat × Nat × Nat × Nat) := [(0, .iload_n 1, 0, 0, 0, 0), (1, .invokestatic 131, 0, 106, 1, 656), (4, .ifCond .ne 13, 0, 0, 0, 0), (7, .new 49, 0, 995, 11, 0), (10, .dup, 0, 0, 0, 0), (11, .ldc 134, 999, 0, 0, 0), (13, .invokespecial 53, 0, 999, 0, 0), (16, .athrow, 0, 0, 0, 0), (17, .aload_n 0, 0, 0, 0, 0), (18, .iload_n 1, 0, 0, 0, 0), (19, .invokevirtual 239, 0, 109, 1, 793), (22, .getfield 242, 0, 3, 11, 220), (25, .ireturn, 0, 0, 0, 0)]
def mC99 : List (Nat × Instr × Nat × Nat × Nat × Nat) := [(0, .aload_n 0, 0, 0, 0, 0), (1, .invokevirtual 124, 0, 108, 0, 445), (4, .astore_n 3, 0, 0, 0, 0), (5, .aload_n 3, 0, 0, 0, 0), (6, .iload_n 1, 0, 0, 0, 0), (7, .invokevirtual 186, 0, 54, 1, 700), (10, .ifCond .ne 13, 0, 0, 0, 0), (13, .new 112, 0, 995, 16, 0), (16, .dup, 0, 0, 0, 0), (17, .ldc 189, 999, 0, 0, 0), (19, .invokespecial 116, 0, 999, 0, 0), (22, .athrow, 0, 0, 0, 0), (23, .iload_n 2, 0, 0, 0, 0), (24, .invokestatic 104, 0, 107, 1, 415), (27, .ifCond .ne 13, 0, 0, 0, 0), (30, .new 49, 0, 995, 7, 0), (33, .dup, 0, 0, 0, 0), (34, .ldc 107, 999, 0, 0, 0), (36, .invokespecial 53, 0, 999, 0, 0), (39, .athrow, 0, 0, 0, 0), (40, .aload_n 3, 0, 0, 0, 0), (41, .iload_n 1, 0, 0, 0, 0), (42, .aload_n 3, 0, 0, 0, 0), (43, .getfield 245, 0, 3, 10, 218), (46, .invokevirtual 248, 0, 44, 2, 801), (49, .aload_n 3, 0, 0, 0, 0), (50, .iload_n 2, 0, 0, 0, 0), (51, .invokevirtual 251, 0, 46, 1, 802), (54, .ireturn, 0, 0, 0, 0)]
def mC100 : List (Nat × Instr × Nat × Nat × Nat × Nat) := [(0, .aload_n 0, 0, 0, 0, 0), (1, .invokevirtual 124, 0, 108, 0, 445), (4, .astore_n 1, 0, 0, 0, 0), (5, .ldc2_w 254, 0, 58075, 0, 807), (8, .lstore_n 2, 0, 0, 0, 0), (9, .iconst 0, 0, 0, 0, 0), (10, .istore 4, 0, 0, 0, 0), (12, .iload 4, 0, 0, 0, 0), (14, .iconst 2, 0, 0, 0, 0), (15, .if_icmp .gt 21, 0, 0, 0, 0), (18, .lload_n 2, 0, 0, 0, 0), (19, .aload_n 1, 0, 0, 0, 0), (20, .iload 4, 0, 0, 0, 0), (22, .invokevirtual 128, 0, 56, 1, 648), (25, .i2l, 0, 0, 0, 0), (26, .invokestatic 256, 0, 104, 2, 808), (29, .lstore_n 2, 0, 0, 0, 0), (30, .iinc 4 1, 0, 0, 0, 0), (33, .goto (-21), 0, 0, 0, 0), (36, .iconst 0, 0, 0, 0, 0), (37, .istore 4, 0, 0, 0, 0), (39, .iload 4, 0, 0, 0, 0), (41, .iconst 3, 0, 0, 0, 0), (42, .if_icmp .gt 27, 0, 0, 0, 0), (45, .lload_n 2, 0, 0, 0, 0), (46, .aload_n 0, 0, 0, 0, 0), (47, .iload 4, 0, 0, 0, 0), (49, .invokevirtual 139, 0, 110, 1, 510), (52, .getfield 143, 0, 3, 0, 205), (55, .invokevirtual 147, 0, 34, 0, 502), (58, .i2l, 0, 0, 0, 0), (59, .invokestatic 256, 0, 104, 2, 808), (62, .lstore_n 2, 0, 0, 0, 0), (63, .iinc 4 1, 0, 0, 0, 0), (66, .goto (-27), 0, 0, 0, 0), (69, .lload_n 2, 0, 0, 0, 0), (70, .aload_n 0, 0, 0, 0, 0), (71, .getfield 12, 0, 6, 0, 250), (74, .getfield 67, 0, 4, 1, 75), (77, .i2l, 0, 0, 0, 0), (78, .invokestatic 256, 0, 104, 2, 808), (81, .lstore_n 2, 0, 0, 0, 0), (82, .iconst 1, 0, 0, 0, 0), (83, .istore 4, 0, 0, 0, 0), (85, .iload 4, 0, 0, 0, 0), (87, .bipush 6, 0, 0, 0, 0), (89, .if_icmp .gt 21, 0, 0, 0, 0), (92, .lload_n 2, 0, 0, 0, 0), (93, .aload_n 1, 0, 0, 0, 0), (94, .iload 4, 0, 0, 0, 0), (96, .invokevirtual 155, 0, 57, 1, 665), (99, .i2l, 0, 0, 0, 0), (100, .invokestatic 256, 0, 104, 2, 808), (103, .lstore_n 2, 0, 0, 0, 0), (104, .iinc 4 1, 0, 0, 0, 0), (107, .goto (-22), 0, 0, 0, 0), (110, .lload_n 2, 0, 0, 0, 0), (111, .aload_n 1, 0, 0, 0, 0), (112, .invokestatic 260, 0, 101, 2, 812), (115, .lstore_n 2, 0, 0, 0, 0), (116, .lload_n 2, 0, 0, 0, 0), (117, .aload_n 1, 0, 0, 0, 0), (118, .invokestatic 264, 0, 102, 2, 816), (121, .lstore_n 2, 0, 0, 0, 0), (122, .lload_n 2, 0, 0, 0, 0), (123, .aload_n 1, 0, 0, 0, 0), (124, .invokestatic 267, 0, 103, 2, 820), (127, .lstore_n 2, 0, 0, 0, 0), (128, .iconst 0, 0, 0, 0, 0), (129, .istore 4, 0, 0, 0, 0), (131, .iload 4, 0, 0, 0, 0), (133, .iconst 3, 0, 0, 0, 0), (134, .if_icmp .gt 24, 0, 0, 0, 0), (137, .lload_n 2, 0, 0, 0, 0), (138, .aload_n 0, 0, 0, 0, 0), (139, .iload 4, 0, 0, 0, 0), (141, .invokevirtual 239, 0, 109, 1, 793), (144, .getfield 242, 0, 3, 11, 220), (147, .i2l, 0, 0, 0, 0), (148, .invokestatic 256, 0, 104, 2, 808), (151, .lstore_n 2, 0, 0, 0, 0), (152, .iinc 4 1, 0, 0, 0, 0), (155, .goto (-24), 0, 0, 0, 0), (158, .lload_n 2, 0, 0, 0, 0), (159, .lreturn, 0, 0, 0, 0)]
def mC101 : List (Nat × Instr × Nat × Nat × Nat × Nat) := [(0, .lload_n 0, 0, 0, 0, 0), (1, .lstore_n 3, 0, 0, 0, 0), (2, .iconst 0, 0, 0, 0, 0), (3, .istore 5, 0, 0, 0, 0), (5, .iload 5, 0, 0, 0, 0), (7, .aload_n 2, 0, 0, 0, 0), (8, .getfield 143, 0, 3, 0, 205), (11, .getfield 158, 0, 2, 9, 144), (14, .if_icmp .ge 92, 0, 0, 0, 0), (17, .lload_n 3, 0, 0, 0, 0), (18, .aload_n 2, 0, 0, 0, 0), (19, .getfield 143, 0, 3, 0, 205), (22, .getfield 163, 0, 2, 6, 138), (25, .iload 5, 0, 0, 0, 0), (27, .invokevirtual 92, 0, 20, 1, 402), (30, .i2l, 0, 0, 0, 0), (31, .invokestatic 256, 0, 104, 2, 808), (34, .lstore_n 3, 0, 0, 0, 0), (35, .iconst 0, 0, 0, 0, 0), (36, .istore 6, 0, 0, 0, 0), (38, .iload 6, 0, 0, 0, 0), (40, .aload_n 2, 0, 0, 0, 0), (41, .getfield 143, 0, 3, 0, 205), (44, .iload 5, 0, 0, 0, 0), (46, .invokevirtual 270, 0, 35, 1, 815), (49, .if_icmp .ge 51, 0, 0, 0, 0), (52, .aload_n 2, 0, 0, 0, 0), (53, .getfield 143, 0, 3, 0, 205), (56, .iload 5, 0, 0, 0, 0), (58, .iload 6, 0, 0, 0, 0), (60, .invokevirtual 166, 0, 36, 2, 685), (63, .istore 7, 0, 0, 0, 0), (65, .iconst 0, 0, 0, 0, 0), (66, .istore 8, 0, 0, 0, 0), (68, .iload 8, 0, 0, 0, 0), (70, .iconst 4, 0, 0, 0, 0), (71, .if_icmp .gt 23, 0, 0, 0, 0), (74, .lload_n 3, 0, 0, 0, 0), (75, .aload_n 2, 0, 0, 0, 0), (76, .iload 7, 0, 0, 0, 0), (78, .iload 8, 0, 0, 0, 0), (80, .invokevirtual 174, 0, 58, 2, 688), (83, .i2l, 0, 0, 0, 0), (84, .invokestatic 256, 0, 104, 2, 808), (87, .lstore_n 3, 0, 0, 0, 0), (88, .iinc 8 1, 0, 0, 0, 0), (91, .goto (-23), 0, 0, 0, 0), (94, .iinc 6 1, 0, 0, 0, 0), (97, .goto (-59), 0, 0, 0, 0), (100, .iinc 5 1, 0, 0, 0, 0), (103, .goto (-98), 0, 0, 0, 0), (106, .lload_n 3, 0, 0, 0, 0), (107, .lreturn, 0, 0, 0, 0)]
def mC102 : List (Nat × Instr × Nat × Nat × Nat × Nat) := [(0, .lload_n 0, 0, 0, 0, 0), (1, .lstore_n 3, 0, 0, 0, 0), (2, .iconst 0, 0, 0, 0, 0), (3, .istore 5, 0, 0, 0, 0), (5, .iload 5, 0, 0, 0, 0), (7, .aload_n 2, 0, 0, 0, 0), (8, .getfield 143, 0, 3, 0, 205), (11, .invokevirtual 273, 0, 33, 0, 819), (14, .if_icmp .ge 75, 0, 0, 0, 0), (17, .iconst 0, 0, 0, 0, 0), (18, .istore 6, 0, 0, 0, 0), (20, .iload 6, 0, 0, 0, 0), (22, .iconst 4, 0, 0, 0, 0), (23, .if_icmp .gt 23, 0, 0, 0, 0), (26, .lload_n 3, 0, 0, 0, 0), (27, .aload_n 2, 0, 0, 0, 0), (28, .iload 5, 0, 0, 0, 0), (30, .iload 6, 0, 0, 0, 0), (32, .invokevirtual 193, 0, 59, 2, 706), (35, .i2l, 0, 0, 0, 0), (36, .invokestatic 256, 0, 104, 2, 808), (39, .lstore_n 3, 0, 0, 0, 0), (40, .iinc 6 1, 0, 0, 0, 0), (43, .goto (-23), 0, 0, 0, 0), (46, .lload_n 3, 0, 0, 0, 0), (47, .aload_n 2, 0, 0, 0, 0), (48, .iload 5, 0, 0, 0, 0), (50, .iconst 0, 0, 0, 0, 0), (51, .invokevirtual 198, 0, 64, 2, 724), (54, .i2l, 0, 0, 0, 0), (55, .invokestatic 256, 0, 104, 2, 808), (58, .lstore_n 3, 0, 0, 0, 0), (59, .lload_n 3, 0, 0, 0, 0), (60, .aload_n 2, 0, 0, 0, 0), (61, .iload 5, 0, 0, 0, 0), (63, .iconst 1, 0, 0, 0, 0), (64, .invokevirtual 198, 0, 64, 2, 724), (67, .i2l, 0, 0, 0, 0), (68, .invokestatic 256, 0, 104, 2, 808), (71, .lstore_n 3, 0, 0, 0, 0), (72, .lload_n 3, 0, 0, 0, 0), (73, .aload_n 2, 0, 0, 0, 0), (74, .iload 5, 0, 0, 0, 0), (76, .invokevirtual 202, 0, 65, 1, 744), (79, .invokestatic 256, 0, 104, 2, 808), (82, .lstore_n 3, 0, 0, 0, 0), (83, .iinc 5 1, 0, 0, 0, 0), (86, .goto (-81), 0, 0, 0, 0), (89, .lload_n 3, 0, 0, 0, 0), (90, .lreturn, 0, 0, 0, 0)]
def mC103 : List (Nat × Instr × Nat × Nat × Nat × Nat) := [(0, .lload_n 0, 0, 0, 0, 0), (1, .lstore_n 3, 0, 0, 0, 0), (2, .iconst 0, 0, 0, 0, 0), (3, .istore 5, 0, 0, 0, 0), (5, .iload 5, 0, 0, 0, 0), (7, .aload_n 2, 0, 0, 0, 0), (8, .getfield 209, 0, 3, 1, 207), (11, .getfield 213, 0, 0, 3, 192), (14, .if_icmp .ge 41, 0, 0, 0, 0), (17, .iconst 0, 0, 0, 0, 0), (18, .istore 6, 0, 0, 0, 0), (20, .iload 6, 0, 0, 0, 0), (22, .iconst 2, 0, 0, 0, 0), (23, .if_icmp .gt 26, 0, 0, 0, 0), (26, .lload_n 3, 0, 0, 0, 0), (27, .aload_n 2, 0, 0, 0, 0), (28, .getfield 209, 0, 3, 1, 207), (31, .iload 5, 0, 0, 0, 0), (33, .iload 6, 0, 0, 0, 0), (35, .invokevirtual 220, 0, 2, 2, 762), (38, .i2l, 0, 0, 0, 0), (39, .invokestatic 256, 0, 104, 2, 808), (42, .lstore_n 3, 0, 0, 0, 0), (43, .iinc 6 1, 0, 0, 0, 0), (46, .goto (-26), 0, 0, 0, 0), (49, .iinc 5 1, 0, 0, 0, 0), (52, .goto (-47), 0, 0, 0, 0), (55, .iconst 0, 0, 0, 0, 0), (56, .istore 5, 0, 0, 0, 0), (58, .iload 5, 0, 0, 0, 0), (60, .aload_n 2, 0, 0, 0, 0), (61, .getfield 242, 0, 3, 11, 220), (64, .if_icmp .ge 24, 0, 0, 0, 0), (67, .lload_n 3, 0, 0, 0, 0), (68, .aload_n 2, 0, 0, 0, 0), (69, .getfield 228, 0, 3, 2, 209), (72, .iload 5, 0, 0, 0, 0), (74, .invokevirtual 92, 0, 20, 1, 402), (77, .i2l, 0, 0, 0, 0), (78, .invokestatic 256, 0, 104, 2, 808), (81, .lstore_n 3, 0, 0, 0, 0), (82, .iinc 5 1, 0, 0, 0, 0), (85, .goto (-27), 0, 0, 0, 0), (88, .lload_n 3, 0, 0, 0, 0), (89, .lreturn, 0, 0, 0, 0)]
def mC104 : List (Nat × Instr × Nat × Nat × Nat × Nat) := [(0, .lload_n 0, 0, 0, 0, 0), (1, .ldc2_w 276, 0, 31, 0, 811), (4, .lmul, 0, 0, 0, 0), (5, .lload_n 2, 0, 0, 0, 0), (6, .ladd, 0, 0, 0, 0), (7, .lreturn, 0, 0, 0, 0)]
def mC105 : List (Nat × Instr × Nat × Nat × Nat × Nat) := [(0, .iload_n 0, 0, 0, 0, 0), (1, .ifCond .lt 13, 0, 0, 0, 0), (4, .iload_n 0, 0, 0, 0, 0), (5, .bipush 45, 0, 0, 0, 0), (7, .if_icmp .gt 7, 0, 0, 0, 0), (10, .iconst 1, 0, 0, 0, 0), (11, .goto 4, 0, 0, 0, 0), (14, .iconst 0, 0, 0, 0, 0), (15, .ireturn, 0, 0, 0, 0)]
def mC106 : List (Nat × Instr × Nat × Nat × Nat × Nat) := [(0, .iload_n 0, 0, 0, 0, 0), (1, .ifCond .lt 12, 0, 0, 0, 0), (4, .iload_n 0, 0, 0, 0, 0), (5, .iconst 3, 0, 0, 0, 0), (6, .if_icmp .gt 7, 0, 0, 0, 0), (9, .iconst 1, 0, 0, 0, 0), (10, .goto 4, 0, 0, 0, 0), (13, .iconst 0, 0, 0, 0, 0), (14, .ireturn, 0, 0, 0, 0)]
def mC107 : List (Nat × Instr × Nat × Nat × Nat × Nat) := [(0, .iload_n 0, 0, 0, 0, 0), (1, .iconst 1, 0, 0, 0, 0), (2, .if_icmp .lt 13, 0, 0, 0, 0), (5, .iload_n 0, 0, 0, 0, 0), (6, .bipush 100, 0, 0, 0, 0), (8, .if_icmp .gt 7, 0, 0, 0, 0), (11, .iconst 1, 0, 0, 0, 0), (12, .goto 4, 0, 0, 0, 0), (15, .iconst 0, 0, 0, 0, 0), (16, .ireturn, 0, 0, 0, 0)]
def mC108 : List (Nat × Instr × Nat × Nat × Nat × Nat) := [(0, .aload_n 0, 0, 0, 0, 0), (1, .invokevirtual 136, 0, 111, 0, 449), (4, .aload_n 0, 0, 0, 0, 0), (5, .getfield 19, 0, 6, 1, 251), (8, .getfield 88, 0, 5, 0, 95), (11, .iconst 0, 0, 0, 0, 0), (12, .invokevirtual 92, 0, 20, 1, 402), (15, .istore_n 1, 0, 0, 0, 0), (16, .aload_n 0, 0, 0, 0, 0), (17, .iload_n 1, 0, 0, 0, 0), (18, .iconst (-1), 0, 0, 0, 0), (19, .if_icmp .ne 10, 0, 0, 0, 0), (22, .aload_n 0, 0, 0, 0, 0), (23, .invokevirtual 278, 0, 113, 0, 498), (26, .goto 4, 0, 0, 0, 0), (29, .iload_n 1, 0, 0, 0, 0), (30, .invokevirtual 139, 0, 110, 1, 510), (33, .astore_n 2, 0, 0, 0, 0), (34, .aload_n 2, 0, 0, 0, 0), (35, .aload_n 0, 0, 0, 0, 0), (36, .getfield 19, 0, 6, 1, 251), (39, .invokevirtual 281, 0, 40, 1, 514), (42, .aload_n 2, 0, 0, 0, 0), (43, .areturn, 0, 0, 0, 0)]
def mC109 : List (Nat × Instr × Nat × Nat × Nat × Nat) := [(0, .aload_n 0, 0, 0, 0, 0), (1, .invokevirtual 136, 0, 111, 0, 449), (4, .aload_n 0, 0, 0, 0, 0), (5, .iload_n 1, 0, 0, 0, 0), (6, .invokevirtual 139, 0, 110, 1, 510), (9, .astore_n 2, 0, 0, 0, 0), (10, .aload_n 2, 0, 0, 0, 0), (11, .aload_n 0, 0, 0, 0, 0), (12, .getfield 19, 0, 6, 1, 251), (15, .invokevirtual 281, 0, 40, 1, 514), (18, .aload_n 2, 0, 0, 0, 0), (19, .areturn, 0, 0, 0, 0)]
def mC110 : List (Nat × Instr × Nat × Nat × Nat × Nat) := [(0, .iload_n 1, 0, 0, 0, 0), (1, .tableswitch 42 0 2 #[27, 32, 37], 27, 0, 0, 0), (28, .aload_n 0, 0, 0, 0, 0), (29, .getfield 28, 0, 6, 2, 252), (32, .areturn, 0, 0, 0, 0), (33, .aload_n 0, 0, 0, 0, 0), (34, .getfield 32, 0, 6, 3, 253), (37, .areturn, 0, 0, 0, 0), (38, .aload_n 0, 0, 0, 0, 0), (39, .getfield 35, 0, 6, 4, 254), (42, .areturn, 0, 0, 0, 0), (43, .aload_n 0, 0, 0, 0, 0), (44, .getfield 38, 0, 6, 5, 255), (47, .areturn, 0, 0, 0, 0)]
def mC111 : List (Nat × Instr × Nat × Nat × Nat × Nat) := [(0, .aload_n 0, 0, 0, 0, 0), (1, .getfield 41, 0, 6, 6, 256), (4, .ifCond .eq 4, 0, 0, 0, 0), (7, .return_, 0, 0, 0, 0), (8, .aload_n 0, 0, 0, 0, 0), (9, .getfield 28, 0, 6, 2, 252), (12, .getfield 143, 0, 3, 0, 205), (15, .aload_n 0, 0, 0, 0, 0), (16, .getfield 12, 0, 6, 0, 250), (19, .iconst 0, 0, 0, 0, 0), (20, .invokevirtual 285, 0, 23, 2, 453), (23, .aload_n 0, 0, 0, 0, 0), (24, .getfield 32, 0, 6, 3, 253), (27, .getfield 143, 0, 3, 0, 205), (30, .aload_n 0, 0, 0, 0, 0), (31, .getfield 12, 0, 6, 0, 250), (34, .iconst 1, 0, 0, 0, 0), (35, .invokevirtual 285, 0, 23, 2, 453), (38, .aload_n 0, 0, 0, 0, 0), (39, .getfield 35, 0, 6, 4, 254), (42, .getfield 143, 0, 3, 0, 205), (45, .aload_n 0, 0, 0, 0, 0), (46, .getfield 12, 0, 6, 0, 250), (49, .iconst 2, 0, 0, 0, 0), (50, .invokevirtual 285, 0, 23, 2, 453), (53, .aload_n 0, 0, 0, 0, 0), (54, .getfield 38, 0, 6, 5, 255), (57, .getfield 143, 0, 3, 0, 205), (60, .aload_n 0, 0, 0, 0, 0), (61, .getfield 12, 0, 6, 0, 250), (64, .iconst 3, 0, 0, 0, 0), (65, .invokevirtual 285, 0, 23, 2, 453), (68, .aload_n 0, 0, 0, 0, 0), (69, .iconst 1, 0, 0, 0, 0), (70, .putfield 41, 0, 6, 6, 256), (73, .aload_n 0, 0, 0, 0, 0), (74, .invokevirtual 101, 0, 112, 0, 407), (77, .return_, 0, 0, 0, 0)]
def mC112 : List (Nat × Instr × Nat × Nat × Nat × Nat) := [(0, .aload_n 0, 0, 0, 0, 0), (1, .getfield 28, 0, 6, 2, 252), (4, .iconst 0, 0, 0, 0, 0), (5, .putfield 289, 0, 3, 12, 222), (8, .aload_n 0, 0, 0, 0, 0), (9, .getfield 32, 0, 6, 3, 253), (12, .iconst 0, 0, 0, 0, 0), (13, .putfield 289, 0, 3, 12, 222), (16, .aload_n 0, 0, 0, 0, 0), (17, .getfield 35, 0, 6, 4, 254), (20, .iconst 0, 0, 0, 0, 0), (21, .putfield 289, 0, 3, 12, 222), (24, .aload_n 0, 0, 0, 0, 0), (25, .getfield 38, 0, 6, 5, 255), (28, .iconst 0, 0, 0, 0, 0), (29, .putfield 289, 0, 3, 12, 222), (32, .return_, 0, 0, 0, 0)]
def mC113 : List (Nat × Instr × Nat × Nat × Nat × Nat) := [(0, .iconst 0, 0, 0, 0, 0), (1, .istore_n 1, 0, 0, 0, 0), (2, .aload_n 0, 0, 0, 0, 0), (3, .getfield 28, 0, 6, 2, 252), (6, .getfield 143, 0, 3, 0, 205), (9, .invokevirtual 147, 0, 34, 0, 502), (12, .istore_n 2, 0, 0, 0, 0), (13, .iconst 1, 0, 0, 0, 0), (14, .istore_n 3, 0, 0, 0, 0), (15, .iload_n 3, 0, 0, 0, 0), (16, .iconst 3, 0, 0, 0, 0), (17, .if_icmp .gt 33, 0, 0, 0, 0), (20, .aload_n 0, 0, 0, 0, 0), (21, .iload_n 3, 0, 0, 0, 0), (22, .invokevirtual 139, 0, 110, 1, 510), (25, .getfield 143, 0, 3, 0, 205), (28, .invokevirtual 147, 0, 34, 0, 502), (31, .istore 4, 0, 0, 0, 0), (33, .iload 4, 0, 0, 0, 0), (35, .iload_n 2, 0, 0, 0, 0), (36, .if_icmp .le 8, 0, 0, 0, 0), (39, .iload_n 3, 0, 0, 0, 0), (40, .istore_n 1, 0, 0, 0, 0), (41, .iload 4, 0, 0, 0, 0), (43, .istore_n 2, 0, 0, 0, 0), (44, .iinc 3 1, 0, 0, 0, 0), (47, .goto (-32), 0, 0, 0, 0), (50, .iload_n 1, 0, 0, 0, 0), (51, .ireturn, 0, 0, 0, 0)]
def mC114 : List (Nat × Instr × Nat × Nat × Nat × Nat) := [(0, .iload_n 0, 0, 0, 0, 0), (1, .ldc 7, 0, 2147483647, 0, 826), (3, .iand, 0, 0, 0, 0), (4, .iload_n 1, 0, 0, 0, 0), (5, .irem, 0, 0, 0, 0), (6, .ireturn, 0, 0, 0, 0)]
def mC115 : List (Nat × Instr × Nat × Nat × Nat × Nat) := [(0, .iload_n 1, 0, 0, 0, 0), (1, .aload_n 0, 0, 0, 0, 0), (2, .arraylength, 0, 0, 0, 0), (3, .if_icmp .ge 9, 0, 0, 0, 0), (6, .aload_n 0, 0, 0, 0, 0), (7, .iload_n 1, 0, 0, 0, 0), (8, .iaload, 0, 0, 0, 0), (9, .goto 9, 0, 0, 0, 0), (12, .ldc 8, 0, 790386105, 0, 830), (14, .iload_n 1, 0, 0, 0, 0), (15, .iconst 3, 0, 0, 0, 0), (16, .iadd, 0, 0, 0, 0), (17, .imul, 0, 0, 0, 0), (18, .ireturn, 0, 0, 0, 0)]
def mC116 : List (Nat × Instr × Nat × Nat × Nat × Nat) := [(0, .new 9, 0, 6, 0, 46), (3, .dup, 0, 0, 0, 0), (4, .invokespecial 11, 0, 76, 0, 48), (7, .astore_n 1, 0, 0, 0, 0), (8, .aload_n 0, 0, 0, 0, 0), (9, .iconst 0, 0, 0, 0, 0), (10, .invokestatic 12, 0, 115, 2, 827), (13, .iconst 4, 0, 0, 0, 0), (14, .invokestatic 18, 0, 114, 2, 823), (17, .istore_n 2, 0, 0, 0, 0), (18, .iconst 1, 0, 0, 0, 0), (19, .aload_n 0, 0, 0, 0, 0), (20, .iconst 1, 0, 0, 0, 0), (21, .invokestatic 12, 0, 115, 2, 827), (24, .iconst 4, 0, 0, 0, 0), (25, .invokestatic 18, 0, 114, 2, 823), (28, .iadd, 0, 0, 0, 0), (29, .istore_n 3, 0, 0, 0, 0), (30, .iconst 0, 0, 0, 0, 0), (31, .istore 4, 0, 0, 0, 0), (33, .iload 4, 0, 0, 0, 0), (35, .iconst 3, 0, 0, 0, 0), (36, .aload_n 0, 0, 0, 0, 0), (37, .iconst 2, 0, 0, 0, 0), (38, .invokestatic 12, 0, 115, 2, 827), (41, .iconst 5, 0, 0, 0, 0), (42, .invokestatic 18, 0, 114, 2, 823), (45, .iadd, 0, 0, 0, 0), (46, .if_icmp .ge 246, 0, 0, 0, 0), (49, .iconst 0, 0, 0, 0, 0), (50, .istore 5, 0, 0, 0, 0), (52, .iload 5, 0, 0, 0, 0), (54, .iload_n 3, 0, 0, 0, 0), (55, .if_icmp .ge 225, 0, 0, 0, 0), (58, .aload_n 0, 0, 0, 0, 0), (59, .iconst 3, 0, 0, 0, 0), (60, .iload 4, 0, 0, 0, 0), (62, .iadd, 0, 0, 0, 0), (63, .iconst 3, 0, 0, 0, 0), (64, .iload 5, 0, 0, 0, 0), (66, .imul, 0, 0, 0, 0), (67, .iadd, 0, 0, 0, 0), (68, .bipush 16, 0, 0, 0, 0), (70, .irem, 0, 0, 0, 0), (71, .invokestatic 12, 0, 115, 2, 827), (74, .iconst 5, 0, 0, 0, 0), (75, .iload 4, 0, 0, 0, 0), (77, .imul, 0, 0, 0, 0), (78, .iadd, 0, 0, 0, 0), (79, .istore 6, 0, 0, 0, 0), (81, .iload 5, 0, 0, 0, 0), (83, .ifCond .le 9, 0, 0, 0, 0), (86, .aload_n 1, 0, 0, 0, 0), (87, .iload_n 2, 0, 0, 0, 0), (88, .invokevirtual 22, 0, 77, 1, 272), (91, .pop, 0, 0, 0, 0), (92, .iload 6, 0, 0, 0, 0), (94, .iconst 2, 0, 0, 0, 0), (95, .ishr, 0, 0, 0, 0), (96, .bipush 7, 0, 0, 0, 0), (98, .invokestatic 18, 0, 114, 2, 823), (101, .tableswitch 159 0 4 #[35, 38, 63, 106, 144], 35, 0, 0, 0), (136, .goto 138, 0, 0, 0, 0), (139, .aload_n 1, 0, 0, 0, 0), (140, .iload 6, 0, 0, 0, 0), (142, .bipush 26, 0, 0, 0, 0), (144, .invokestatic 18, 0, 114, 2, 823), (147, .iconst 1, 0, 0, 0, 0), (148, .iload 6, 0, 0, 0, 0), (150, .iconst 4, 0, 0, 0, 0), (151, .ishr, 0, 0, 0, 0), (152, .iconst 3, 0, 0, 0, 0), (153, .invokestatic 18, 0, 114, 2, 823), (156, .iadd, 0, 0, 0, 0), (157, .invokevirtual 26, 0, 79, 2, 386), (160, .pop, 0, 0, 0, 0), (161, .goto 113, 0, 0, 0, 0), (164, .aload_n 1, 0, 0, 0, 0), (165, .iconst 1, 0, 0, 0, 0), (166, .iload 6, 0, 0, 0, 0), (168, .bipush 30, 0, 0, 0, 0), (170, .invokestatic 18, 0, 114, 2, 823), (173, .iadd, 0, 0, 0, 0), (174, .iconst 1, 0, 0, 0, 0), (175, .iload 6, 0, 0, 0, 0), (177, .iconst 4, 0, 0, 0, 0), (178, .ishr, 0, 0, 0, 0), (179, .bipush 12, 0, 0, 0, 0), (181, .invokestatic 18, 0, 114, 2, 823), (184, .iadd, 0, 0, 0, 0), (185, .sipush 1990, 0, 0, 0, 0), (188, .iload 6, 0, 0, 0, 0), (190, .iconst 1, 0, 0, 0, 0), (191, .ishr, 0, 0, 0, 0), (192, .bipush 30, 0, 0, 0, 0), (194, .invokestatic 18, 0, 114, 2, 823), (197, .iadd, 0, 0, 0, 0), (198, .bipush 9, 0, 0, 0, 0), (200, .invokevirtual 29, 0, 80, 4, 391), (203, .pop, 0, 0, 0, 0), (204, .goto 70, 0, 0, 0, 0), (207, .aload_n 1, 0, 0, 0, 0), (208, .iload 6, 0, 0, 0, 0), (210, .iconst 4, 0, 0, 0, 0), (211, .ishr, 0, 0, 0, 0), (212, .bipush 90, 0, 0, 0, 0), (214, .invokestatic 18, 0, 114, 2, 823), (217, .invokevirtual 33, 0, 78, 1, 373), (220, .pop, 0, 0, 0, 0), (221, .aload_n 1, 0, 0, 0, 0), (222, .bipush 7, 0, 0, 0, 0), (224, .invokevirtual 22, 0, 77, 1, 272), (227, .pop, 0, 0, 0, 0), (228, .aload_n 1, 0, 0, 0, 0), (229, .iload 6, 0, 0, 0, 0), (231, .iconst 3, 0, 0, 0, 0), (232, .ishr, 0, 0, 0, 0), (233, .bipush 99, 0, 0, 0, 0), (235, .invokestatic 18, 0, 114, 2, 823), (238, .invokevirtual 33, 0, 78, 1, 373), (241, .pop, 0, 0, 0, 0), (242, .goto 32, 0, 0, 0, 0), (245, .aload_n 1, 0, 0, 0, 0), (246, .iload 6, 0, 0, 0, 0), (248, .bipush 46, 0, 0, 0, 0), (250, .invokestatic 18, 0, 114, 2, 823), (253, .invokevirtual 22, 0, 77, 1, 272), (256, .pop, 0, 0, 0, 0), (257, .goto 17, 0, 0, 0, 0), (260, .aload_n 1, 0, 0, 0, 0), (261, .iload 6, 0, 0, 0, 0), (263, .iconst 3, 0, 0, 0, 0), (264, .ishr, 0, 0, 0, 0), (265, .bipush 20, 0, 0, 0, 0), (267, .invokestatic 18, 0, 114, 2, 823), (270, .invokevirtual 33, 0, 78, 1, 373), (273, .pop, 0, 0, 0, 0), (274, .iinc 5 1, 0, 0, 0, 0), (277, .goto (-225), 0, 0, 0, 0), (280, .aload_n 1, 0, 0, 0, 0), (281, .iconst 5, 0, 0, 0, 0), (282, .invokevirtual 22, 0, 77, 1, 272), (285, .pop, 0, 0, 0, 0), (286, .iinc 4 1, 0, 0, 0, 0), (289, .goto (-256), 0, 0, 0, 0), (292, .iconst 0, 0, 0, 0, 0), (293, .istore 4, 0, 0, 0, 0), (295, .iload 4, 0, 0, 0, 0), (297, .iconst 3, 0, 0, 0, 0), (298, .if_icmp .ge 51, 0, 0, 0, 0), (301, .aload_n 1, 0, 0, 0, 0), (302, .iload 4, 0, 0, 0, 0), (304, .aload_n 0, 0, 0, 0, 0), (305, .bipush 9, 0, 0, 0, 0), (307, .iload 4, 0, 0, 0, 0), (309, .iadd, 0, 0, 0, 0), (310, .invokestatic 12, 0, 115, 2, 827), (313, .iconst 3, 0, 0, 0, 0), (314, .invokestatic 18, 0, 114, 2, 823), (317, .ifCond .le 7, 0, 0, 0, 0), (320, .iconst (-1), 0, 0, 0, 0), (321, .goto 18, 0, 0, 0, 0), (324, .aload_n 0, 0, 0, 0, 0), (325, .bipush 9, 0, 0, 0, 0), (327, .iload 4, 0, 0, 0, 0), (329, .iadd, 0, 0, 0, 0), (330, .invokestatic 12, 0, 115, 2, 827), (333, .iconst 2, 0, 0, 0, 0), (334, .ishr, 0, 0, 0, 0), (335, .iconst 2, 0, 0, 0, 0), (336, .invokestatic 18, 0, 114, 2, 823), (339, .invokevirtual 36, 0, 81, 2, 396), (342, .pop, 0, 0, 0, 0), (343, .iinc 4 1, 0, 0, 0, 0), (346, .goto (-51), 0, 0, 0, 0), (349, .iconst 0, 0, 0, 0, 0), (350, .istore 4, 0, 0, 0, 0), (352, .iload 4, 0, 0, 0, 0), (354, .iconst 4, 0, 0, 0, 0), (355, .if_icmp .ge 29, 0, 0, 0, 0), (358, .aload_n 1, 0, 0, 0, 0), (359, .iload 4, 0, 0, 0, 0), (361, .aload_n 0, 0, 0, 0, 0), (362, .bipush 12, 0, 0, 0, 0), (364, .iload 4, 0, 0, 0, 0), (366, .iadd, 0, 0, 0, 0), (367, .invokestatic 12, 0, 115, 2, 827), (370, .iconst 4, 0, 0, 0, 0), (371, .invokestatic 18, 0, 114, 2, 823), (374, .invokevirtual 39, 0, 83, 2, 419), (377, .pop, 0, 0, 0, 0), (378, .iinc 4 1, 0, 0, 0, 0), (381, .goto (-29), 0, 0, 0, 0), (384, .aload_n 1, 0, 0, 0, 0), (385, .bipush 20, 0, 0, 0, 0), (387, .aload_n 0, 0, 0, 0, 0), (388, .bipush 8, 0, 0, 0, 0), (390, .invokestatic 12, 0, 115, 2, 827), (393, .bipush 81, 0, 0, 0, 0), (395, .invokestatic 18, 0, 114, 2, 823), (398, .iadd, 0, 0, 0, 0), (399, .invokevirtual 42, 0, 82, 1, 411), (402, .pop, 0, 0, 0, 0), (403, .aload_n 1, 0, 0, 0, 0), (404, .invokevirtual 45, 0, 100, 0, 803), (407, .lstore 4, 0, 0, 0, 0), (409, .aload_n 1, 0, 0, 0, 0), (410, .iconst 1, 0, 0, 0, 0), (411, .invokevirtual 49, 0, 86, 1, 660), (414, .istore 6, 0, 0, 0, 0), (416, .aload_n 1, 0, 0, 0, 0), (417, .iconst 2, 0, 0, 0, 0), (418, .invokevirtual 49, 0, 86, 1, 660), (421, .istore 7, 0, 0, 0, 0), (423, .aload_n 1, 0, 0, 0, 0), (424, .iconst 3, 0, 0, 0, 0), (425, .invokevirtual 49, 0, 86, 1, 660), (428, .istore 8, 0, 0, 0, 0), (430, .aload_n 1, 0, 0, 0, 0), (431, .iconst 5, 0, 0, 0, 0), (432, .invokevirtual 49, 0, 86, 1, 660), (435, .istore 9, 0, 0, 0, 0), (437, .iload 8, 0, 0, 0, 0), (439, .iload 6, 0, 0, 0, 0), (441, .if_icmp .gt 58, 0, 0, 0, 0), (444, .iload 8, 0, 0, 0, 0), (446, .iload 6, 0, 0, 0, 0), (448, .iconst 1, 0, 0, 0, 0), (449, .isub, 0, 0, 0, 0), (450, .if_icmp .lt 49, 0, 0, 0, 0), (453, .iload 9, 0, 0, 0, 0), (455, .iload 8, 0, 0, 0, 0), (457, .if_icmp .gt 42, 0, 0, 0, 0), (460, .iload 7, 0, 0, 0, 0), (462, .bipush 20, 0, 0, 0, 0), (464, .if_icmp .gt 35, 0, 0, 0, 0), (467, .aload_n 1, 0, 0, 0, 0), (468, .aload_n 1, 0, 0, 0, 0), (469, .iconst 0, 0, 0, 0, 0), (470, .invokevirtual 52, 0, 84, 1, 440), (473, .invokevirtual 55, 0, 98, 1, 789), (476, .iload 9, 0, 0, 0, 0), (478, .if_icmp .ne 21, 0, 0, 0, 0), (481, .iload 6, 0, 0, 0, 0), (483, .ifCond .le 18, 0, 0, 0, 0), (486, .aload_n 1, 0, 0, 0, 0), (487, .iconst 2, 0, 0, 0, 0), (488, .invokevirtual 52, 0, 84, 1, 440), (491, .iload 6, 0, 0, 0, 0), (493, .iload 8, 0, 0, 0, 0), (495, .isub, 0, 0, 0, 0), (496, .if_icmp .eq 5, 0, 0, 0, 0), (499, .iconst 0, 0, 0, 0, 0), (500, .ireturn, 0, 0, 0, 0), (501, .iconst 0, 0, 0, 0, 0), (502, .istore 10, 0, 0, 0, 0), (504, .iconst 0, 0, 0, 0, 0), (505, .istore 11, 0, 0, 0, 0), (507, .iconst 0, 0, 0, 0, 0), (508, .istore 12, 0, 0, 0, 0), (510, .iload 12, 0, 0, 0, 0), (512, .iload 6, 0, 0, 0, 0), (514, .if_icmp .ge 198, 0, 0, 0, 0), (517, .aload_n 1, 0, 0, 0, 0), (518, .iload 12, 0, 0, 0, 0), (520, .invokevirtual 58, 0, 87, 1, 676), (523, .iconst 1, 0, 0, 0, 0), (524, .if_icmp .ge 5, 0, 0, 0, 0), (527, .iconst 0, 0, 0, 0, 0), (528, .ireturn, 0, 0, 0, 0), (529, .iload 11, 0, 0, 0, 0), (531, .aload_n 1, 0, 0, 0, 0), (532, .iload 12, 0, 0, 0, 0), (534, .invokevirtual 58, 0, 87, 1, 676), (537, .invokestatic 61, 0, 996, 0, 831), (540, .istore 11, 0, 0, 0, 0), (542, .iconst 0, 0, 0, 0, 0), (543, .istore 13, 0, 0, 0, 0), (545, .iload 13, 0, 0, 0, 0), (547, .bipush 20, 0, 0, 0, 0), (549, .aload_n 1, 0, 0, 0, 0), (550, .iload 12, 0, 0, 0, 0), (552, .invokevirtual 58, 0, 87, 1, 676), (555, .invokestatic 66, 0, 997, 0, 832), (558, .if_icmp .ge 148, 0, 0, 0, 0), (561, .aload_n 1, 0, 0, 0, 0), (562, .iload 12, 0, 0, 0, 0), (564, .iload 13, 0, 0, 0, 0), (566, .iconst 2, 0, 0, 0, 0), (567, .invokevirtual 69, 0, 88, 3, 681), (570, .istore 14, 0, 0, 0, 0), (572, .aload_n 1, 0, 0, 0, 0), (573, .iload 12, 0, 0, 0, 0), (575, .iload 13, 0, 0, 0, 0), (577, .iconst 0, 0, 0, 0, 0), (578, .invokevirtual 69, 0, 88, 3, 681), (581, .istore 15, 0, 0, 0, 0), (583, .iload 15, 0, 0, 0, 0), (585, .ifCond .ne 7, 0, 0, 0, 0), (588, .iconst 1, 0, 0, 0, 0), (589, .goto 4, 0, 0, 0, 0), (592, .iconst 0, 0, 0, 0, 0), (593, .iload 14, 0, 0, 0, 0), (595, .ifCond .ne 7, 0, 0, 0, 0), (598, .iconst 1, 0, 0, 0, 0), (599, .goto 4, 0, 0, 0, 0), (602, .iconst 0, 0, 0, 0, 0), (603, .if_icmp .ne 68, 0, 0, 0, 0), (606, .iload 15, 0, 0, 0, 0), (608, .ifCond .lt 63, 0, 0, 0, 0), (611, .iload 15, 0, 0, 0, 0), (613, .iconst 5, 0, 0, 0, 0), (614, .if_icmp .gt 57, 0, 0, 0, 0), (617, .iload 15, 0, 0, 0, 0), (619, .iconst 5, 0, 0, 0, 0), (620, .if_icmp .ne 17, 0, 0, 0, 0), (623, .aload_n 1, 0, 0, 0, 0), (624, .iload 12, 0, 0, 0, 0), (626, .iload 13, 0, 0, 0, 0), (628, .iconst 1, 0, 0, 0, 0), (629, .invokevirtual 69, 0, 88, 3, 681), (632, .iload 14, 0, 0, 0, 0), (634, .if_icmp .ne 37, 0, 0, 0, 0), (637, .aload_n 1, 0, 0, 0, 0), (638, .iload 12, 0, 0, 0, 0), (640, .iload 13, 0, 0, 0, 0), (642, .iload 14, 0, 0, 0, 0), (644, .invokevirtual 72, 0, 89, 3, 692), (647, .iconst (-1), 0, 0, 0, 0), (648, .if_icmp .ne 23, 0, 0, 0, 0), (651, .iload 14, 0, 0, 0, 0), (653, .ifCond .le 20, 0, 0, 0, 0), (656, .aload_n 1, 0, 0, 0, 0), (657, .iload 12, 0, 0, 0, 0), (659, .iload 13, 0, 0, 0, 0), (661, .iload 14, 0, 0, 0, 0), (663, .iconst 1, 0, 0, 0, 0), (664, .isub, 0, 0, 0, 0), (665, .invokevirtual 72, 0, 89, 3, 692), (668, .ifCond .ge 5, 0, 0, 0, 0), (671, .iconst 0, 0, 0, 0, 0), (672, .ireturn, 0, 0, 0, 0), (673, .iload 10, 0, 0, 0, 0), (675, .iload 12, 0, 0, 0, 0), (677, .iload 6, 0, 0, 0, 0), (679, .iload 8, 0, 0, 0, 0), (681, .isub, 0, 0, 0, 0), (682, .if_icmp .lt 14, 0, 0, 0, 0), (685, .iload 13, 0, 0, 0, 0), (687, .iload 7, 0, 0, 0, 0), (689, .if_icmp .ge 7, 0, 0, 0, 0), (692, .iconst 1, 0, 0, 0, 0), (693, .goto 4, 0, 0, 0, 0), (696, .iconst 0, 0, 0, 0, 0), (697, .iadd, 0, 0, 0, 0), (698, .istore 10, 0, 0, 0, 0), (700, .iinc 13 1, 0, 0, 0, 0), (703, .goto (-158), 0, 0, 0, 0), (706, .iinc 12 1, 0, 0, 0, 0), (709, .goto (-199), 0, 0, 0, 0), (712, .iconst 0, 0, 0, 0, 0), (713, .istore 12, 0, 0, 0, 0), (715, .iconst 0, 0, 0, 0, 0), (716, .istore 13, 0, 0, 0, 0), (718, .iconst 0, 0, 0, 0, 0), (719, .istore 14, 0, 0, 0, 0), (721, .iload 14, 0, 0, 0, 0), (723, .iload 7, 0, 0, 0, 0), (725, .if_icmp .ge 114, 0, 0, 0, 0), (728, .iload 12, 0, 0, 0, 0), (730, .aload_n 1, 0, 0, 0, 0), (731, .iload 14, 0, 0, 0, 0), (733, .iconst 1, 0, 0, 0, 0), (734, .invokevirtual 75, 0, 90, 2, 696), (737, .aload_n 1, 0, 0, 0, 0), (738, .iload 14, 0, 0, 0, 0), (740, .iconst 2, 0, 0, 0, 0), (741, .invokevirtual 75, 0, 90, 2, 696), (744, .iadd, 0, 0, 0, 0), (745, .iadd, 0, 0, 0, 0), (746, .istore 12, 0, 0, 0, 0), (748, .iload 13, 0, 0, 0, 0), (750, .aload_n 1, 0, 0, 0, 0), (751, .iload 14, 0, 0, 0, 0), (753, .iconst 3, 0, 0, 0, 0), (754, .invokevirtual 75, 0, 90, 2, 696), (757, .iadd, 0, 0, 0, 0), (758, .istore 13, 0, 0, 0, 0), (760, .aload_n 1, 0, 0, 0, 0), (761, .iload 14, 0, 0, 0, 0), (763, .iconst 4, 0, 0, 0, 0), (764, .invokevirtual 75, 0, 90, 2, 696), (767, .aload_n 1, 0, 0, 0, 0), (768, .iload 14, 0, 0, 0, 0), (770, .iconst 1, 0, 0, 0, 0), (771, .invokevirtual 75, 0, 90, 2, 696), (774, .if_icmp .gt 57, 0, 0, 0, 0), (777, .aload_n 1, 0, 0, 0, 0), (778, .iload 14, 0, 0, 0, 0), (780, .iconst 1, 0, 0, 0, 0), (781, .invokevirtual 75, 0, 90, 2, 696), (784, .ifCond .le 14, 0, 0, 0, 0), (787, .aload_n 1, 0, 0, 0, 0), (788, .iload 14, 0, 0, 0, 0), (790, .iconst 4, 0, 0, 0, 0), (791, .invokevirtual 75, 0, 90, 2, 696), (794, .iconst 1, 0, 0, 0, 0), (795, .if_icmp .lt 36, 0, 0, 0, 0), (798, .aload_n 1, 0, 0, 0, 0), (799, .iload 14, 0, 0, 0, 0), (801, .iconst 1, 0, 0, 0, 0), (802, .invokevirtual 78, 0, 99, 2, 797), (805, .ifCond .ne 7, 0, 0, 0, 0), (808, .iconst 1, 0, 0, 0, 0), (809, .goto 4, 0, 0, 0, 0), (812, .iconst 0, 0, 0, 0, 0), (813, .aload_n 1, 0, 0, 0, 0), (814, .iload 14, 0, 0, 0, 0), (816, .iconst 1, 0, 0, 0, 0), (817, .invokevirtual 75, 0, 90, 2, 696), (820, .ifCond .ne 7, 0, 0, 0, 0), (823, .iconst 1, 0, 0, 0, 0), (824, .goto 4, 0, 0, 0, 0), (827, .iconst 0, 0, 0, 0, 0), (828, .if_icmp .eq 5, 0, 0, 0, 0), (831, .iconst 0, 0, 0, 0, 0), (832, .ireturn, 0, 0, 0, 0), (833, .iinc 14 1, 0, 0, 0, 0), (836, .goto (-115), 0, 0, 0, 0), (839, .iload 12, 0, 0, 0, 0), (841, .iload 10, 0, 0, 0, 0), (843, .if_icmp .ne 20, 0, 0, 0, 0), (846, .iload 7, 0, 0, 0, 0), (848, .iload 11, 0, 0, 0, 0), (850, .if_icmp .gt 13, 0, 0, 0, 0), (853, .iload 13, 0, 0, 0, 0), (855, .aload_n 1, 0, 0, 0, 0), (856, .iconst 4, 0, 0, 0, 0), (857, .invokevirtual 49, 0, 86, 1, 660), (860, .if_icmp .le 5, 0, 0, 0, 0), (863, .iconst 0, 0, 0, 0, 0), (864, .ireturn, 0, 0, 0, 0), (865, .iconst 0, 0, 0, 0, 0), (866, .istore 14, 0, 0, 0, 0), (868, .iconst (-1), 0, 0, 0, 0), (869, .istore 15, 0, 0, 0, 0), (871, .iconst 0, 0, 0, 0, 0), (872, .istore 16, 0, 0, 0, 0), (874, .iload 16, 0, 0, 0, 0), (876, .aload_n 1, 0, 0, 0, 0), (877, .iconst 4, 0, 0, 0, 0), (878, .invokevirtual 49, 0, 86, 1, 660), (881, .if_icmp .ge 125, 0, 0, 0, 0), (884, .aload_n 1, 0, 0, 0, 0), (885, .iload 16, 0, 0, 0, 0), (887, .iconst 0, 0, 0, 0, 0), (888, .invokevirtual 81, 0, 94, 2, 756), (891, .istore 17, 0, 0, 0, 0), (893, .aload_n 1, 0, 0, 0, 0), (894, .iload 16, 0, 0, 0, 0), (896, .iconst 2, 0, 0, 0, 0), (897, .invokevirtual 81, 0, 94, 2, 756), (900, .istore 18, 0, 0, 0, 0), (902, .iload 14, 0, 0, 0, 0), (904, .aload_n 1, 0, 0, 0, 0), (905, .iload 16, 0, 0, 0, 0), (907, .iconst 1, 0, 0, 0, 0), (908, .invokevirtual 81, 0, 94, 2, 756), (911, .ifCond .ge 7, 0, 0, 0, 0), (914, .iconst 1, 0, 0, 0, 0), (915, .goto 4, 0, 0, 0, 0), (918, .iconst 0, 0, 0, 0, 0), (919, .iadd, 0, 0, 0, 0), (920, .istore 14, 0, 0, 0, 0), (922, .iload 17, 0, 0, 0, 0), (924, .iload 15, 0, 0, 0, 0), (926, .if_icmp .lt 68, 0, 0, 0, 0), (929, .iload 17, 0, 0, 0, 0), (931, .iload 6, 0, 0, 0, 0), (933, .iload 8, 0, 0, 0, 0), (935, .isub, 0, 0, 0, 0), (936, .if_icmp .lt 58, 0, 0, 0, 0), (939, .iload 17, 0, 0, 0, 0), (941, .iload 6, 0, 0, 0, 0), (943, .if_icmp .ge 51, 0, 0, 0, 0), (946, .iload 18, 0, 0, 0, 0), (948, .iconst 1, 0, 0, 0, 0), (949, .if_icmp .lt 45, 0, 0, 0, 0), (952, .iload 18, 0, 0, 0, 0), (954, .bipush 7, 0, 0, 0, 0), (956, .if_icmp .gt 38, 0, 0, 0, 0), (959, .aload_n 1, 0, 0, 0, 0), (960, .iload 16, 0, 0, 0, 0), (962, .iconst 1, 0, 0, 0, 0), (963, .invokevirtual 81, 0, 94, 2, 756), (966, .ifCond .ge 7, 0, 0, 0, 0), (969, .iconst 1, 0, 0, 0, 0), (970, .goto 4, 0, 0, 0, 0), (973, .iconst 0, 0, 0, 0, 0), (974, .iload 18, 0, 0, 0, 0), (976, .iconst 4, 0, 0, 0, 0), (977, .if_icmp .eq 9, 0, 0, 0, 0), (980, .iload 18, 0, 0, 0, 0), (982, .iconst 5, 0, 0, 0, 0), (983, .if_icmp .ne 7, 0, 0, 0, 0), (986, .iconst 1, 0, 0, 0, 0), (987, .goto 4, 0, 0, 0, 0), (990, .iconst 0, 0, 0, 0, 0), (991, .if_icmp .eq 5, 0, 0, 0, 0), (994, .iconst 0, 0, 0, 0, 0), (995, .ireturn, 0, 0, 0, 0), (996, .iload 17, 0, 0, 0, 0), (998, .istore 15, 0, 0, 0, 0), (1000, .iinc 16 1, 0, 0, 0, 0), (1003, .goto (-129), 0, 0, 0, 0), (1006, .iload 14, 0, 0, 0, 0), (1008, .iload 13, 0, 0, 0, 0), (1010, .iadd, 0, 0, 0, 0), (1011, .aload_n 1, 0, 0, 0, 0), (1012, .iconst 4, 0, 0, 0, 0), (1013, .invokevirtual 49, 0, 86, 1, 660), (1016, .if_icmp .eq 5, 0, 0, 0, 0), (1019, .iconst 0, 0, 0, 0, 0), (1020, .ireturn, 0, 0, 0, 0), (1021, .iconst 0, 0, 0, 0, 0), (1022, .istore 16, 0, 0, 0, 0), (1024, .iload 16, 0, 0, 0, 0), (1026, .iload 9, 0, 0, 0, 0), (1028, .if_icmp .ge 204, 0, 0, 0, 0), (1031, .aload_n 1, 0, 0, 0, 0), (1032, .iload 16, 0, 0, 0, 0), (1034, .invokevirtual 84, 0, 95, 1, 766), (1037, .istore 17, 0, 0, 0, 0), (1039, .iload 16, 0, 0, 0, 0), (1041, .ifCond .le 16, 0, 0, 0, 0), (1044, .iload 17, 0, 0, 0, 0), (1046, .aload_n 1, 0, 0, 0, 0), (1047, .iload 16, 0, 0, 0, 0), (1049, .iconst 1, 0, 0, 0, 0), (1050, .isub, 0, 0, 0, 0), (1051, .invokevirtual 84, 0, 95, 1, 766), (1054, .if_icmp .le 29, 0, 0, 0, 0), (1057, .iload 17, 0, 0, 0, 0), (1059, .iload 6, 0, 0, 0, 0), (1061, .iload 8, 0, 0, 0, 0), (1063, .isub, 0, 0, 0, 0), (1064, .if_icmp .lt 19, 0, 0, 0, 0), (1067, .bipush 20, 0, 0, 0, 0), (1069, .aload_n 1, 0, 0, 0, 0), (1070, .iload 17, 0, 0, 0, 0), (1072, .invokevirtual 58, 0, 87, 1, 676), (1075, .invokestatic 66, 0, 997, 0, 832), (1078, .iload 7, 0, 0, 0, 0), (1080, .if_icmp .eq 5, 0, 0, 0, 0), (1083, .iconst 0, 0, 0, 0, 0), (1084, .ireturn, 0, 0, 0, 0), (1085, .iconst 0, 0, 0, 0, 0), (1086, .istore 18, 0, 0, 0, 0), (1088, .iload 18, 0, 0, 0, 0), (1090, .aload_n 1, 0, 0, 0, 0), (1091, .iconst 4, 0, 0, 0, 0), (1092, .invokevirtual 49, 0, 86, 1, 660), (1095, .if_icmp .ge 23, 0, 0, 0, 0), (1098, .aload_n 1, 0, 0, 0, 0), (1099, .iload 18, 0, 0, 0, 0), (1101, .iconst 0, 0, 0, 0, 0), (1102, .invokevirtual 81, 0, 94, 2, 756), (1105, .iload 17, 0, 0, 0, 0), (1107, .if_icmp .ne 5, 0, 0, 0, 0), (1110, .iconst 0, 0, 0, 0, 0), (1111, .ireturn, 0, 0, 0, 0), (1112, .iinc 18 1, 0, 0, 0, 0), (1115, .goto (-27), 0, 0, 0, 0), (1118, .iconst 0, 0, 0, 0, 0), (1119, .istore 18, 0, 0, 0, 0), (1121, .iload 18, 0, 0, 0, 0), (1123, .iload 7, 0, 0, 0, 0), (1125, .if_icmp .ge 101, 0, 0, 0, 0), (1128, .aload_n 1, 0, 0, 0, 0), (1129, .iload 16, 0, 0, 0, 0), (1131, .iload 18, 0, 0, 0, 0), (1133, .invokevirtual 87, 0, 96, 2, 775), (1136, .istore 19, 0, 0, 0, 0), (1138, .aload_n 1, 0, 0, 0, 0), (1139, .iload 17, 0, 0, 0, 0), (1141, .iload 18, 0, 0, 0, 0), (1143, .iconst 2, 0, 0, 0, 0), (1144, .invokevirtual 69, 0, 88, 3, 681), (1147, .ifCond .ne 7, 0, 0, 0, 0), (1150, .iconst 1, 0, 0, 0, 0), (1151, .goto 4, 0, 0, 0, 0), (1154, .iconst 0, 0, 0, 0, 0), (1155, .istore 20, 0, 0, 0, 0), (1157, .iload 20, 0, 0, 0, 0), (1159, .ifCond .eq 11, 0, 0, 0, 0), (1162, .iload 19, 0, 0, 0, 0), (1164, .ifCond .eq 56, 0, 0, 0, 0), (1167, .goto 51, 0, 0, 0, 0), (1170, .iload 19, 0, 0, 0, 0), (1172, .aload_n 1, 0, 0, 0, 0), (1173, .iload 18, 0, 0, 0, 0), (1175, .iconst 0, 0, 0, 0, 0), (1176, .invokevirtual 90, 0, 91, 2, 719), (1179, .if_icmp .lt 39, 0, 0, 0, 0), (1182, .iload 19, 0, 0, 0, 0), (1184, .aload_n 1, 0, 0, 0, 0), (1185, .iload 18, 0, 0, 0, 0), (1187, .iconst 1, 0, 0, 0, 0), (1188, .invokevirtual 90, 0, 91, 2, 719), (1191, .if_icmp .gt 27, 0, 0, 0, 0), (1194, .aload_n 1, 0, 0, 0, 0), (1195, .iload 18, 0, 0, 0, 0), (1197, .iload 19, 0, 0, 0, 0), (1199, .invokevirtual 93, 0, 97, 2, 781), (1202, .ifCond .lt 16, 0, 0, 0, 0), (1205, .aload_n 1, 0, 0, 0, 0), (1206, .iload 18, 0, 0, 0, 0), (1208, .iload 19, 0, 0, 0, 0), (1210, .invokevirtual 93, 0, 97, 2, 781), (1213, .iload 16, 0, 0, 0, 0), (1215, .if_icmp .le 5, 0, 0, 0, 0), (1218, .iconst 0, 0, 0, 0, 0), (1219, .ireturn, 0, 0, 0, 0), (1220, .iinc 18 1, 0, 0, 0, 0), (1223, .goto (-102), 0, 0, 0, 0), (1226, .iinc 16 1, 0, 0, 0, 0), (1229, .goto (-205), 0, 0, 0, 0), (1232, .iconst 0, 0, 0, 0, 0), (1233, .istore 16, 0, 0, 0, 0), (1235, .iload 16, 0, 0, 0, 0), (1237, .iload 7, 0, 0, 0, 0), (1239, .if_icmp .ge 63, 0, 0, 0, 0), (1242, .aload_n 1, 0, 0, 0, 0), (1243, .iload 16, 0, 0, 0, 0), (1245, .invokevirtual 96, 0, 93, 1, 748), (1248, .aload_n 1, 0, 0, 0, 0), (1249, .iload 16, 0, 0, 0, 0), (1251, .iconst 0, 0, 0, 0, 0), (1252, .invokevirtual 90, 0, 91, 2, 719), (1255, .i2d, 0, 0, 0, 0), (1256, .dcmp .g, 0, 0, 0, 0), (1257, .ifCond .lt 37, 0, 0, 0, 0), (1260, .aload_n 1, 0, 0, 0, 0), (1261, .iload 16, 0, 0, 0, 0), (1263, .invokevirtual 96, 0, 93, 1, 748), (1266, .aload_n 1, 0, 0, 0, 0), (1267, .iload 16, 0, 0, 0, 0), (1269, .iconst 1, 0, 0, 0, 0), (1270, .invokevirtual 90, 0, 91, 2, 719), (1273, .i2d, 0, 0, 0, 0), (1274, .dcmp .l, 0, 0, 0, 0), (1275, .ifCond .gt 19, 0, 0, 0, 0), (1278, .iload 9, 0, 0, 0, 0), (1280, .ifCond .ne 16, 0, 0, 0, 0), (1283, .aload_n 1, 0, 0, 0, 0), (1284, .iload 16, 0, 0, 0, 0), (1286, .invokevirtual 100, 0, 92, 1, 740), (1289, .lconst 0, 0, 0, 0, 0), (1290, .lcmp, 0, 0, 0, 0), (1291, .ifCond .eq 5, 0, 0, 0, 0), (1294, .iconst 0, 0, 0, 0, 0), (1295, .ireturn, 0, 0, 0, 0), (1296, .iinc 16 1, 0, 0, 0, 0), (1299, .goto (-64), 0, 0, 0, 0), (1302, .aload_n 1, 0, 0, 0, 0), (1303, .invokevirtual 45, 0, 100, 0, 803), (1306, .lload 4, 0, 0, 0, 0), (1308, .lcmp, 0, 0, 0, 0), (1309, .ifCond .eq 5, 0, 0, 0, 0), (1312, .iconst 0, 0, 0, 0, 0), (1313, .ireturn, 0, 0, 0, 0), (1314, .aload_n 1, 0, 0, 0, 0), (1315, .iconst 0, 0, 0, 0, 0), (1316, .invokevirtual 52, 0, 84, 1, 440), (1319, .istore 16, 0, 0, 0, 0), (1321, .aload_n 1, 0, 0, 0, 0), (1322, .iload 16, 0, 0, 0, 0), (1324, .invokevirtual 104, 0, 85, 1, 652), (1327, .istore 17, 0, 0, 0, 0), (1329, .iconst 0, 0, 0, 0, 0), (1330, .istore 18, 0, 0, 0, 0), (1332, .iload 18, 0, 0, 0, 0), (1334, .iconst 4, 0, 0, 0, 0), (1335, .if_icmp .ge 39, 0, 0, 0, 0), (1338, .aload_n 1, 0, 0, 0, 0), (1339, .iconst 0, 0, 0, 0, 0), (1340, .iconst (-1), 0, 0, 0, 0), (1341, .invokevirtual 36, 0, 81, 2, 396), (1344, .iconst (-1), 0, 0, 0, 0), (1345, .if_icmp .lt 21, 0, 0, 0, 0), (1348, .aload_n 1, 0, 0, 0, 0), (1349, .aload_n 1, 0, 0, 0, 0), (1350, .iconst 0, 0, 0, 0, 0), (1351, .invokevirtual 52, 0, 84, 1, 440), (1354, .invokevirtual 104, 0, 85, 1, 652), (1357, .aload_n 1, 0, 0, 0, 0), (1358, .iload 18, 0, 0, 0, 0), (1360, .invokevirtual 104, 0, 85, 1, 652), (1363, .if_icmp .ge 5, 0, 0, 0, 0), (1366, .iconst 0, 0, 0, 0, 0), (1367, .ireturn, 0, 0, 0, 0), (1368, .iinc 18 1, 0, 0, 0, 0), (1371, .goto (-39), 0, 0, 0, 0), (1374, .iload 17, 0, 0, 0, 0), (1376, .bipush 120, 0, 0, 0, 0), (1378, .if_icmp .gt 38, 0, 0, 0, 0), (1381, .aload_n 1, 0, 0, 0, 0), (1382, .iconst 0, 0, 0, 0, 0), (1383, .iload 16, 0, 0, 0, 0), (1385, .invokevirtual 36, 0, 81, 2, 396), (1388, .iconst (-1), 0, 0, 0, 0), (1389, .if_icmp .ne 27, 0, 0, 0, 0), (1392, .aload_n 1, 0, 0, 0, 0), (1393, .iconst 0, 0, 0, 0, 0), (1394, .invokevirtual 52, 0, 84, 1, 440), (1397, .iload 16, 0, 0, 0, 0), (1399, .if_icmp .ne 17, 0, 0, 0, 0), (1402, .aload_n 1, 0, 0, 0, 0), (1403, .iconst 5, 0, 0, 0, 0), (1404, .invokevirtual 49, 0, 86, 1, 660), (1407, .iload 9, 0, 0, 0, 0), (1409, .if_icmp .ne 7, 0, 0, 0, 0), (1412, .iconst 1, 0, 0, 0, 0), (1413, .goto 4, 0, 0, 0, 0), (1416, .iconst 0, 0, 0, 0, 0), (1417, .ireturn, 0, 0, 0, 0)]
def mCodes : List (List (Nat × Instr × Nat × Nat × Nat × Nat)) := [mC0, mC1, mC2, mC3, mC4, mC5, mC6, mC7, mC8, mC9, mC10, mC11, mC12, mC13, mC14, mC15, mC16, mC17, mC18, mC19, mC20, mC21, mC22, mC23, mC24, mC25, mC26, mC27, mC28, mC29, mC30, mC31, mC32, mC33, mC34, mC35, mC36, mC37, mC38, mC39, mC40, mC41, mC42, mC43, mC44, mC45, mC46, mC47, mC48, mC49, mC50, mC51, mC52, mC53, mC54, mC55, mC56, mC57, mC58, mC59, mC60, mC61, mC62, mC63, mC64, mC65, mC66, mC67, mC68, mC69, mC70, mC71, mC72, mC73, mC74, mC75, mC76, mC77, mC78, mC79, mC80, mC81, mC82, mC83, mC84, mC85, mC86, mC87, mC88, mC89, mC90, mC91, mC92, mC93, mC94, mC95, mC96, mC97, mC98, mC99, mC100, mC101, mC102, mC103, mC104, mC105, mC106, mC107, mC108, mC109, mC110, mC111, mC112, mC113, mC114, mC115, mC116]
/-- name, code, locals, what it returns, its class, the frames and the words that it nests -/
def mMeths : List (MethodName × ByteArray × Nat × Option FieldType × String × Nat × Nat) := [(yX0_init, cX0_init, 1, (none), RX0, 2, 41),
  (yX0_add, cX0_add, 4, (none), RX0, 1, 22),
  (yX0_fact, cX0_fact, 3, (some .int), RX0, 1, 21),
  (yX0_inColumn, cX0_inColumn, 4, (some .int), RX0, 1, 21),
  (yX1_isWhole, cX1_isWhole, 5, (some .boolean), RX1, 2, 44),
  (yX1_isDecimal, cX1_isDecimal, 8, (some .boolean), RX1, 2, 44),
  (yX1_isFlag, cX1_isFlag, 3, (some .boolean), RX1, 1, 21),
  (yX1_wholeNumber, cX1_wholeNumber, 4, (some .int), RX1, 2, 45),
  (yX1_thousandths, cX1_thousandths, 8, (some .int), RX1, 2, 45),
  (yX1_dayNumber, cX1_dayNumber, 10, (some .int), RX1, 2, 45),
  (yX1_isOneOrTwo, cX1_isOneOrTwo, 1, (some .boolean), RX1, 0, 0),
  (yX1_behindMinus, cX1_behindMinus, 3, (some .int), RX1, 1, 21),
  (yX1_digitsFrom, cX1_digitsFrom, 4, (some .int), RX1, 1, 21),
  (yX1_number, cX1_number, 5, (some .int), RX1, 1, 21),
  (yX1_daysIn, cX1_daysIn, 3, (some .int), RX1, 1, 20),
  (yX1_daysAheadOfMonth, cX1_daysAheadOfMonth, 3, (some .int), RX1, 1, 20),
  (yX1_daysAheadOfYear, cX1_daysAheadOfYear, 1, (some .int), RX1, 1, 20),
  (yX1_leapYearsTo, cX1_leapYearsTo, 1, (some .int), RX1, 0, 0),
  (yX1_isLeap, cX1_isLeap, 1, (some .boolean), RX1, 0, 0),
  (yX2_init, cX2_init, 2, (none), RX2, 1, 20),
  (yX2_at, cX2_at, 2, (some .int), RX2, 0, 0),
  (yX2_put, cX2_put, 3, (none), RX2, 0, 0),
  (yX3_init, cX3_init, 1, (none), RX3, 2, 41),
  (yX3_read, cX3_read, 7, (none), RX3, 3, 73),
  (yX3_isMoreToRead, cX3_isMoreToRead, 3, (some .boolean), RX3, 0, 0),
  (yX3_readPlain, cX3_readPlain, 7, (some .int), RX3, 2, 46),
  (yX3_readQuoted, cX3_readQuoted, 8, (some .int), RX3, 2, 46),
  (yX3_endOfCell, cX3_endOfCell, 5, (some .int), RX3, 1, 21),
  (yX3_takeSigns, cX3_takeSigns, 5, (none), RX3, 1, 22),
  (yX3_closeCell, cX3_closeCell, 3, (none), RX3, 1, 22),
  (yX3_closeRow, cX3_closeRow, 3, (none), RX3, 1, 22),
  (yX3_findUsualWidth, cX3_findUsualWidth, 4, (none), RX3, 2, 44),
  (yX3_rowsOfWidth, cX3_rowsOfWidth, 4, (some .int), RX3, 1, 21),
  (yX3_columnCount, cX3_columnCount, 1, (some .int), RX3, 1, 21),
  (yX3_points, cX3_points, 1, (some .int), RX3, 2, 41),
  (yX3_cellsIn, cX3_cellsIn, 2, (some .int), RX3, 1, 21),
  (yX3_cellAt, cX3_cellAt, 3, (some .int), RX3, 2, 42),
  (yX3_haveSameSigns, cX3_haveSameSigns, 7, (some .boolean), RX3, 1, 21),
  (yX3_quotedCells, cX3_quotedCells, 3, (some .int), RX3, 1, 21),
  (yX4_init, cX4_init, 2, (none), RX4, 3, 61),
  (yX4_settle, cX4_settle, 4, (none), RX4, 5, 112),
  (yX4_guessedMark, cX4_guessedMark, 6, (some .int), RX4, 3, 71),
  (yX4_nameCell, cX4_nameCell, 8, (none), RX4, 3, 74),
  (yX4_guessedHeading, cX4_guessedHeading, 4, (some .int), RX4, 4, 89),
  (yX4_tallyKinds, cX4_tallyKinds, 6, (none), RX4, 3, 64),
  (yX4_talliedFilled, cX4_talliedFilled, 3, (some .int), RX4, 1, 21),
  (yX4_talliedKind, cX4_talliedKind, 7, (some .int), RX4, 2, 43),
  (yX4_markRepeats, cX4_markRepeats, 4, (none), RX4, 4, 89),
  (yX4_isAhead, cX4_isAhead, 6, (some .boolean), RX4, 3, 64),
  (yX4_findFaults, cX4_findFaults, 7, (none), RX4, 3, 67),
  (yX4_faultOfCell, cX4_faultOfCell, 4, (some .int), RX4, 2, 44),
  (yX4_isOfKind, cX4_isOfKind, 4, (some .boolean), RX4, 1, 21),
  (yX4_keepOnce, cX4_keepOnce, 3, (none), RX4, 4, 87),
  (yX4_isSameRow, cX4_isSameRow, 4, (some .boolean), RX4, 3, 64),
  (yX4_hasColumn, cX4_hasColumn, 2, (some .boolean), RX4, 2, 41),
  (yX4_hasKept, cX4_hasKept, 2, (some .boolean), RX4, 0, 0),
  (yX4_choice, cX4_choice, 2, (some .int), RX4, 0, 0),
  (yX4_howMany, cX4_howMany, 2, (some .int), RX4, 2, 43),
  (yX4_factOfCell, cX4_factOfCell, 3, (some .int), RX4, 1, 21),
  (yX4_factOfColumn, cX4_factOfColumn, 3, (some .int), RX4, 4, 89),
  (yX4_repeatsIn, cX4_repeatsIn, 5, (some .int), RX4, 3, 64),
  (yX4_cellOfKept, cX4_cellOfKept, 3, (some .int), RX4, 3, 64),
  (yX4_valueIn, cX4_valueIn, 6, (some .int), RX4, 4, 86),
  (yX4_isFilledIn, cX4_isFilledIn, 3, (some .boolean), RX4, 4, 86),
  (yX4_extremeOf, cX4_extremeOf, 8, (some .int), RX4, 5, 111),
  (yX4_total, cX4_total, 5, (some .long), RX4, 5, 111),
  (yX4_filledInKept, cX4_filledInKept, 4, (some .int), RX4, 5, 108),
  (yX4_placeOf, cX4_placeOf, 4, (some .int), RX4, 5, 111),
  (yX5_init, cX5_init, 1, (none), RX5, 2, 41),
  (yX5_hasRoomFor, cX5_hasRoomFor, 2, (some .boolean), RX5, 0, 0),
  (yX5_write, cX5_write, 2, (none), RX5, 1, 22),
  (yX5_writeNumber, cX5_writeNumber, 5, (none), RX5, 1, 22),
  (yX5_digitsOf, cX5_digitsOf, 3, (some .int), RX5, 0, 0),
  (yX6_init, cX6_init, 1, (none), RX6, 2, 41),
  (yX6_mustBeFilled, cX6_mustBeFilled, 3, (some .boolean), RX6, 1, 21),
  (yX6_mustDiffer, cX6_mustDiffer, 3, (some .boolean), RX6, 1, 21),
  (yX7_init, cX7_init, 1, (none), RX7, 4, 82),
  (yX7_sign, cX7_sign, 2, (some .int), RX7, 6, 90),
  (yX7_digits, cX7_digits, 2, (some .int), RX7, 6, 90),
  (yX7_letters, cX7_letters, 4, (some .int), RX7, 6, 90),
  (yX7_three, cX7_three, 5, (some .int), RX7, 6, 90),
  (yX7_tell, cX7_tell, 4, (some .int), RX7, 6, 90),
  (yX7_setShare, cX7_setShare, 3, (some .int), RX7, 6, 90),
  (yX7_setRule, cX7_setRule, 4, (some .int), RX7, 6, 90),
  (yX7_used, cX7_used, 2, (some .int), RX7, 7, 157),
  (yX7_score, cX7_score, 2, (some .int), RX7, 6, 119),
  (yX7_many, cX7_many, 2, (some .int), RX7, 7, 157),
  (yX7_width, cX7_width, 3, (some .int), RX7, 7, 157),
  (yX7_cell, cX7_cell, 6, (some .int), RX7, 7, 157),
  (yX7_signAt, cX7_signAt, 6, (some .int), RX7, 7, 157),
  (yX7_column, cX7_column, 4, (some .int), RX7, 7, 157),
  (yX7_extreme, cX7_extreme, 4, (some .int), RX7, 7, 157),
  (yX7_sum, cX7_sum, 3, (some .long), RX7, 7, 157),
  (yX7_mean, cX7_mean, 4, (some .double), RX7, 7, 157),
  (yX7_fault, cX7_fault, 4, (some .int), RX7, 7, 157),
  (yX7_kept, cX7_kept, 3, (some .int), RX7, 7, 157),
  (yX7_value, cX7_value, 4, (some .int), RX7, 7, 157),
  (yX7_find, cX7_find, 4, (some .int), RX7, 7, 157),
  (yX7_keptWith, cX7_keptWith, 2, (some .int), RX7, 7, 157),
  (yX7_kindWith, cX7_kindWith, 4, (some .int), RX7, 7, 157),
  (yX7_digest, cX7_digest, 5, (some .long), RX7, 7, 164),
  (yX7_withRows, cX7_withRows, 9, (some .long), RX7, 3, 64),
  (yX7_withColumns, cX7_withColumns, 7, (some .long), RX7, 6, 138),
  (yX7_withFaultsAndKept, cX7_withFaultsAndKept, 7, (some .long), RX7, 2, 43),
  (yX7_mixed, cX7_mixed, 4, (some .long), RX7, 0, 0),
  (yX7_isSign, cX7_isSign, 1, (some .boolean), RX7, 0, 0),
  (yX7_isParter, cX7_isParter, 1, (some .boolean), RX7, 0, 0),
  (yX7_isShare, cX7_isShare, 1, (some .boolean), RX7, 0, 0),
  (yX7_tableNow, cX7_tableNow, 3, (some (.object "Tallow$Table")), RX7, 6, 135),
  (yX7_settledWith, cX7_settledWith, 3, (some (.object "Tallow$Table")), RX7, 6, 135),
  (yX7_tableWith, cX7_tableWith, 2, (some (.object "Tallow$Table")), RX7, 0, 0),
  (yX7_readText, cX7_readText, 1, (none), RX7, 4, 99),
  (yX7_unsettleAll, cX7_unsettleAll, 1, (none), RX7, 0, 0),
  (yX7_guessedParter, cX7_guessedParter, 5, (some .int), RX7, 3, 61),
  (yL_below, cL_below, 2, (some .int), RL, 0, 0),
  (yL_cell, cL_cell, 2, (some .int), RL, 0, 0),
  (yL_law, cL_law, 21, (some .boolean), RL, 8, 188)]
/-- where in lw_tbl: its code, that it is static or not, what it selects, that its class is initialised; whether it is static, how many it takes -/
def mPos : List (Nat × Nat × Nat × Nat × Bool × Nat) := [(183, 182, 99999, 37, false, 0), (621, 619, 620, 37, false, 3), (765, 763, 764, 37, false, 2), (713, 711, 712, 37, false, 1), (565, 564, 99999, 45, true, 3), (525, 524, 99999, 45, true, 4), (574, 573, 99999, 45, true, 3), (568, 567, 99999, 45, true, 3), (571, 570, 99999, 45, true, 3), (539, 538, 99999, 45, true, 3), (542, 541, 99999, 45, true, 1), (528, 527, 99999, 45, true, 3), (532, 531, 99999, 45, true, 3), (545, 544, 99999, 45, true, 3), (548, 547, 99999, 45, true, 2), (562, 561, 99999, 45, true, 2), (556, 555, 99999, 45, true, 1), (559, 558, 99999, 45, true, 1), (553, 552, 99999, 45, true, 1), (64, 63, 99999, 33, false, 1), (405, 403, 404, 33, false, 1), (92, 90, 91, 33, false, 2), (118, 117, 99999, 36, false, 0), (456, 454, 455, 36, false, 2), (460, 459, 4, 36, false, 2), (478, 477, 8, 36, false, 3), (465, 464, 5, 36, false, 3), (474, 473, 7, 36, false, 3), (469, 468, 6, 36, false, 3), (482, 481, 9, 36, false, 2), (486, 485, 10, 36, false, 0), (493, 492, 11, 36, false, 0), (497, 496, 12, 36, false, 1), (509, 507, 508, 36, false, 0), (505, 503, 504, 36, false, 0), (583, 581, 582, 36, false, 1), (587, 585, 586, 36, false, 2), (613, 611, 612, 36, false, 2), (675, 673, 674, 36, false, 0), (112, 111, 99999, 35, false, 1), (517, 515, 516, 35, false, 1), (522, 521, 15, 35, false, 0), (536, 535, 16, 35, false, 1), (579, 578, 17, 35, false, 1), (593, 591, 592, 35, false, 2), (601, 600, 18, 35, false, 0), (597, 595, 596, 35, false, 1), (605, 604, 19, 35, false, 1), (609, 608, 20, 35, false, 3), (617, 616, 21, 35, false, 2), (626, 625, 22, 35, false, 3), (630, 629, 23, 35, false, 2), (643, 642, 24, 35, false, 1), (647, 646, 25, 35, false, 2), (703, 701, 702, 35, false, 1), (773, 771, 772, 35, false, 1), (651, 649, 650, 35, false, 1), (668, 666, 667, 35, false, 1), (691, 689, 690, 35, false, 2), (709, 707, 708, 35, false, 2), (718, 717, 26, 35, false, 1), (735, 734, 28, 35, false, 2), (739, 737, 738, 35, false, 2), (731, 730, 27, 35, false, 2), (727, 725, 726, 35, false, 2), (747, 745, 746, 35, false, 1), (755, 753, 754, 35, false, 1), (788, 786, 787, 35, false, 2), (58, 57, 99999, 32, false, 0), (350, 348, 349, 32, false, 1), (370, 368, 369, 32, false, 1), (384, 382, 383, 32, false, 1), (380, 379, 99999, 32, true, 1), (85, 84, 99999, 34, false, 0), (634, 632, 633, 34, false, 1), (639, 637, 638, 34, false, 1), (50, 49, 99999, 31, false, 0), (275, 273, 274, 31, false, 1), (376, 374, 375, 31, false, 1), (389, 387, 388, 31, false, 2), (394, 392, 393, 31, false, 4), (399, 397, 398, 31, false, 2), (414, 412, 413, 31, false, 1), (422, 420, 421, 31, false, 2), (443, 441, 442, 31, false, 1), (655, 653, 654, 31, false, 1), (663, 661, 662, 31, false, 1), (679, 677, 678, 31, false, 1), (684, 682, 683, 31, false, 3), (695, 693, 694, 31, false, 3), (699, 697, 698, 31, false, 2), (722, 720, 721, 31, false, 2), (743, 741, 742, 31, false, 1), (751, 749, 750, 31, false, 1), (759, 757, 758, 31, false, 2), (769, 767, 768, 31, false, 1), (778, 776, 777, 31, false, 2), (784, 782, 783, 31, false, 2), (792, 790, 791, 31, false, 1), (800, 798, 799, 31, false, 2), (806, 804, 805, 31, false, 0), (814, 813, 99999, 31, true, 2), (818, 817, 99999, 31, true, 2), (822, 821, 99999, 31, true, 2), (810, 809, 99999, 31, true, 2), (278, 277, 99999, 31, true, 1), (658, 657, 99999, 31, true, 1), (417, 416, 99999, 31, true, 1), (448, 447, 2, 31, false, 0), (796, 795, 29, 31, false, 1), (513, 512, 14, 31, false, 1), (452, 451, 3, 31, false, 0), (410, 409, 1, 31, false, 0), (501, 500, 13, 31, false, 0), (825, 824, 99999, 30, true, 2), (829, 828, 99999, 30, true, 2), (99999, 99999, 99999, 30, false, 1)]
/-- where in lw_tbl: that a class can be made, is initialised -/
def mClPos : List (Nat × Nat) := [(180, 37), (61, 33), (115, 36), (109, 35), (55, 32), (82, 34), (47, 31)]
def mObjPos : Nat × Nat := (52, 53)
/-- where: Math.max, that it is static, its code; Math.min; that the class is initialised -/
def mMathPos : Nat × Nat × Nat × Nat × Nat := (670, 671, 488, 489, 44)
def mTys : List FieldType := [.int]
def mTyPos : List Nat := [70]
/-- words that a call moves by rows of their own -/
def mXw : List Cond := [(Jvm.Cond.methodLinkNest "Tallow" (11 : Nat) ({ cls := "Tallow$Text", name := "<init>", desc := "()V" } : Jvm.MethodName) "Tallow"), (Jvm.Cond.methodLinkNest "Tallow$Table" (11 : Nat) ({ cls := "Tallow$Reading", name := "<init>", desc := "()V" } : Jvm.MethodName) "Tallow"), (Jvm.Cond.methodLinkNest "Tallow$Table" (20 : Nat) ({ cls := "Tallow$Faults", name := "<init>", desc := "()V" } : Jvm.MethodName) "Tallow")]
/-- static fields that nobody writes, what they hold: class, name, descriptor, value -/
def mStat : List (String × String × String × Value) := [("Tallow$Kinds", "DAYS_AHEAD", "[I", .ref 1)]
/-- class objects: of which class, which outer thing -/
def mMir : List (String × Nat) := []
/-- where: getClass selected by a row of references, an instance method, native; arraycopy native, static, System initialised -/
def mNatPos : Nat × Nat × Nat × Nat × Nat × Nat := (99999, 99999, 99999, 99999, 99999, 99999)
/-- calls of an interface: the class of the receiver, the named method, the selected one -/
def mIfs : List (String × MethodName × MethodName) := []
/-- types of outer rows -/
def mETys : List FieldType := mTys ++ [.object "java/lang/Integer"]
/-- throws: own class, exception, places of its class and of its constructor, where it is linked, that it is initialised -/
def mXcls : List (String × String × Nat × Nat × Nat × Nat) := [("Tallow", "java/lang/IllegalArgumentException", 49, 53, 279, 41), ("Tallow", "java/lang/IllegalStateException", 59, 63, 351, 42), ("Tallow", "java/lang/IndexOutOfBoundsException", 112, 116, 423, 43)]
/-- .. which of them, with which text -/
def mThr : List (Nat × Nat × String) := [(0, 51, "a sign is 0 to 45"), (1, 61, "the text is full"), (0, 71, "a number is not less than 0"), (0, 80, "a letter is 0 to 25, and 1 to 12 are written"), (0, 82, "a number is not less than 0, a sign is 0 to 45"), (0, 84, "what is told is 0 to 2"), (0, 86, "there is no such parter, mark or heading"), (0, 107, "a share is 1 to 100"), (2, 114, "a column is 0 to 19"), (0, 117, "a rule is 0 to 3"), (0, 122, "what is used is 0 to 2"), (0, 134, "a parter is 0 to 3"), (0, 153, "what is counted is 0 to 6"), (2, 161, "there is no such row"), (2, 170, "there is no such cell"), (0, 172, "what is asked of a cell is 0 to 4"), (2, 189, "there is no such column"), (0, 191, "what is asked of a column is 0 to 4"), (0, 196, "an extreme is 0 or 1"), (2, 216, "there is no such fault"), (0, 218, "what is asked of a fault is 0 to 2"), (2, 226, "there is no such place"), (2, 231, "there is no such place or column")]
/-- where the words of throws stand -/
def mXsub : List Nat := [38, 39, 40, 41, 42, 43, 279, 280, 281, 282, 283, 284, 285, 286, 287, 288, 289, 290, 291, 292, 293, 294, 295, 296, 297, 298, 299, 300, 301, 302, 303, 304, 305, 306, 307, 308, 309, 310, 311, 312, 313, 314, 315, 316, 317, 318, 319, 321, 322, 323, 324, 325, 326, 327, 328, 329, 330, 331, 332, 333, 334, 335, 336, 337, 338, 339, 340, 341, 342, 343, 344, 345, 351, 352, 353, 354, 355, 356, 357, 358, 359, 361, 362, 363, 364, 365, 366, 423, 424, 425, 426, 427, 428, 429, 430, 431, 433, 434, 435, 436, 437, 438, 833, 52, 53]
/-- methods with handlers: number, where their code stands, the handlers -/
def mHds : List (Nat × Nat × List (Nat × Nat × Nat × Nat)) := []
/-- what handlers catch: class, place, name, where it is linked -/
def mHnm : List (String × Nat × String × Nat) := []
/-- exceptions that are not one another -/
def mNc : List (String × String) := [("java/lang/IllegalArgumentException", "java/lang/IllegalStateException"), ("java/lang/IllegalArgumentException", "java/lang/IndexOutOfBoundsException"), ("java/lang/IllegalStateException", "java/lang/IllegalArgumentException"), ("java/lang/IllegalStateException", "java/lang/IndexOutOfBoundsException"), ("java/lang/IndexOutOfBoundsException", "java/lang/IllegalArgumentException"), ("java/lang/IndexOutOfBoundsException", "java/lang/IllegalStateException")]
def mNest : List Cond := [(Jvm.Cond.methodLinkNest "Tallow" (11 : Nat) ({ cls := "Tallow$Text", name := "<init>", desc := "()V" } : Jvm.MethodName) "Tallow"), (Jvm.Cond.methodLinkNest "Tallow$Table" (11 : Nat) ({ cls := "Tallow$Reading", name := "<init>", desc := "()V" } : Jvm.MethodName) "Tallow"), (Jvm.Cond.methodLinkNest "Tallow$Table" (20 : Nat) ({ cls := "Tallow$Faults", name := "<init>", desc := "()V" } : Jvm.MethodName) "Tallow")]
end
section
/-! ===== BEGIN words of one list among another's, by their places ===== -/
theorem goodIn_r {big : List Cond} (ws : List Cond) (ps : List Nat) (hp : ws = ps.filterMap (fun i => big[i]?)) (h : ws.all goodWord = true) : GoodIn big ws := by
  intro w hw
  have h1 := List.all_eq_true.mp h w hw
  rw [hp] at hw
  obtain ⟨i, -, hi⟩ := List.mem_filterMap.mp hw
  have hm : w ∈ big := by first | exact List.mem_of_getElem? hi | exact List.getElem?_mem hi
  exact ⟨hm, good_of_word h1⟩
theorem goodIn_app {big a b : List Cond} (ha : GoodIn big a) (hb : GoodIn big b) : GoodIn big (a ++ b) := fun w h => (List.mem_append.mp h).elim (ha w) (hb w)
theorem goodIn_ca {big a b : List Cond} {c : Cond} (ha : GoodIn big (c :: a)) (hb : GoodIn big b) : GoodIn big (c :: (a ++ b)) := fun w h => (List.mem_cons.mp h).elim (fun e => ha w (List.mem_cons.mpr (Or.inl e))) (fun h => (List.mem_append.mp h).elim (fun h => ha w (List.mem_cons.mpr (Or.inr h))) (hb w))
theorem goodIn_sub {big ws : List Cond} (hm : ∀ w ∈ ws, w ∈ big) (h : ws.all goodWord = true) : GoodIn big ws := fun w hw => ⟨hm w hw, good_of_word (List.all_eq_true.mp h w hw)⟩
/-! ===== END ===== -/

/-! ===== BEGIN exceptions that leave a method, and their catching by the caller (launches without stack traces) ===== -/
section VXA
/-! The laws vx_back, vx_callV, vx_callS, vx_callSW, vx_throw0, vx_throwS follow proofs of the library, with one case more: JvmDerived/Free/Laws.lean (Back.of_free), Shelf42/LK1.lean (callV, callS), Shelf/KitTraced.lean (throwNew0V, throwNewS). -/
/-- where a method has thrown q: the class by its name, the cell, what was written, the world -/
def vx_T (XC : String → State → State → Prop) (st : State) (q : Addr) (t : State) (mc ms : Nat) (free : Addr → Prop) : Prop :=
  ∃ (E : String) (ce : Cell) (L : List Loc), XC E st t ∧ t.heap[q]? = some ce ∧ ce.vm = .none ∧ st.vm.findClass E = some ce.cls ∧ st.WarmedH t.vm ∧ st.sameButNew ({ t with vm := st.vm } : State) L mc ms ∧ ∀ z ∈ L, free z.base
def vx_Q (Qc : Array Value → State → Outcome → State → Prop) (XC : String → State → State → Prop) (mc ms : Nat) (free : Addr → Prop) : Array Value → State → Outcome → State → Prop := fun a st o t =>
  (Qc a st o t ∧ ∃ L, FrameEnd st o t L mc ms ∧ ∀ q ∈ L, free q.base) ∨ ∃ q, o = .threw q ∧ vx_T XC st q t mc ms free
/-- a callee that returns or throws -/
def vx_Met (l : Launch) (y : MethodName) (ws : List Cond) (rm : Room) (Pc : Array Value → State → Prop) (Qc : Array Value → State → Outcome → State → Prop) (XC : String → State → State → Prop) (mc ms : Nat) (free : Addr → Prop) : Prop :=
  MetFree l y (headSpec ws rm) Pc (fun _ _ _ _ _ => True) (vx_Q Qc XC mc ms free)
def vx_Post (XC : String → State → State → Prop) (mc ms : Nat) (free : Addr → Prop) : Pt → Array Value → Addr → Pt → Prop := fun A a q B =>
  ∃ (g : JFrame) (mk : MethodId) (t : State) (L : List Loc) (E : String) (ce : Cell), B.U.heap = t.heap ∧ B.U.vm = t.vm ∧ XC E (A.U.calling g mk a) t ∧ t.heap[q]? = some ce ∧ ce.vm = .none ∧ A.U.vm.findClass E = some ce.cls ∧ B.locs = A.locs ++ L ∧ (∀ z ∈ L, free z.base) ∧ B.cells = A.cells + mc ∧ B.slots = A.slots + ms
def vx_Back (l : Launch) (R : Room) (p : Program) (e : Env) (below : List Frame) (s : State) (sargs : Array Value) (y : MethodName) (len W9 : Nat)
    (Pre : Pt → Array Value → Prop) (Post : Pt → Array Value → Option Value → Pt → Prop) (PostX : Pt → Array Value → Addr → Pt → Prop) : Prop :=
  ∀ (m : MethodId) (meth : Method) (c : Code) (A : Pt) (g : JFrame) (ig : Instr) (mk : MethodId) (a : Array Value),
    Stand p l e R s m sargs below meth c A.U A.locs A.cells A.slots → g.method = m → g.locals.size = c.maxLocals → decode c.code g.pc = .ok (ig, len) →
    2 * g.monitorRoom + (g.stack.map fun v => v.category).sum ≤ W9 → A.U.methodNamed? y = some mk → Pre A a →
    (∃ (v : Option Value) (B : Pt), Stand p l e R s m sargs below meth c B.U B.locs B.cells B.slots ∧ Post A a v B ∧
      Steps p.tables e below (doInvoke e (A.U.setTop g) [] mk a).1 (B.U.setTop { g with pc := g.pc + len, stack := v.toList ++ g.stack })) ∨
    (∃ (q : Addr) (B : Pt), Stand p l e R s m sargs below meth c B.U B.locs B.cells B.slots ∧ PostX A a q B ∧
      Steps p.tables e below (doInvoke e (A.U.setTop g) [] mk a).1 ((B.U.setTop g).pushFrame (.throwing q)))
section Payer
variable {l : Launch} {R : Room} {p : Program} {e : Env} {below : List Frame} {s : State} {sargs : Array Value} {y : MethodName} {len W9 : Nat}
theorem vx_back {ws : List Cond} {rm : Room} {Pc : Array Value → State → Prop} {Qc : Array Value → State → Outcome → State → Prop} {XC : String → State → State → Prop} {mc ms : Nat} {free : Addr → Prop} {bytes : ByteArray} {maxL : Nat} {ret : Option FieldType}
    (hM : vx_Met l y ws rm Pc Qc XC mc ms free) (hblind : FrameBlind Pc) (hrc : rm.cells = mc) (hrs : rm.slots = ms)
    (hframes : rm.frames + 1 ≤ R.frames) (hlocals : W9 + (maxL + 11) + rm.locals ≤ R.locals)
    (hws : ∀ w ∈ ws, ∀ a' U, s.WarmedH U.vm → w.before a' U = true) (hcode : Cond.code y bytes maxL ret ∈ ws) (hinit : ∀ a' U, s.WarmedH U.vm → (Cond.initialized y.cls).before a' U = true) :
    vx_Back l R p e below s sargs y len W9 (PreOf R mc ms Pc) (PostOf Qc mc ms free) (vx_Post XC mc ms free) := by
  intro m meth c A g ig mk a X hg hsize hdg hW hn hp
  have h1 : (headSpec ws rm).pre.before a A.U = true := atoms_intro fun w hw => hws w hw _ _ X.warmed
  have h2 : (Cond.code y bytes maxL ret).before a A.U = true := hws _ hcode _ _ X.warmed
  have h3 : (Cond.initialized y.cls).before a A.U = true := hinit _ _ X.warmed
  have h4 : A.cells + (headSpec ws rm).room.cells ≤ R.cells := by rw [show (headSpec ws rm).room.cells = mc from hrc]; exact hp.1
  have h5 : A.slots + (headSpec ws rm).room.slots ≤ R.slots := by rw [show (headSpec ws rm).room.slots = ms from hrs]; exact hp.2.1
  have hPc : Pc a (A.U.calling g mk a) := hblind _ _ _ _ hp.2.2
  obtain ⟨U, Ls, c0, s0⟩ := A
  dsimp only [Pt.U, Pt.locs, Pt.cells, Pt.slots] at h1 h2 h3 h4 h5 X hn hPc ⊢
  obtain ⟨methY, cY, hmY, hcY, -, hlY, -, -, -, -⟩ := Cond.code_spec hn h2
  obtain ⟨kY, hkY, -⟩ := className_of_methodNamed hn
  have hinitY : kY.init = .initialized := Cond.initialized_spec (findClass_of_methodNamed hn) hkY h3
  have h : At U g.method c below := by rw [hg]; exact X.here
  have hlocals9 : W9 + (maxL + 11) + (headSpec ws rm).room.locals ≤ R.locals := hlocals
  have happ : (headSpec ws rm).appliesLoose y e.platform (U.calling g mk a) = true :=
    Spec.appliesLoose_calling (g := g) h hdg hn hkY hinitY
      (X.room_calling (g := g) (R' := (headSpec ws rm).room) hsize hmY hcY hframes (by rw [hlY]; omega) h4 h5) h1
  obtain ⟨mid, hmid⟩ := h.above
  have hfr : (U.setTop g).frames = (.java g :: mid) ++ below := by rw [State.frames_setTop' g h.top, hmid]; rfl
  obtain ⟨o, s₂, hsteps, -, hend, hq⟩ := Steps.callFree hM p X.admits X.cas X.clock (acts := []) hfr happ hPc trivial
  have hq' : vx_Q Qc XC mc ms free a (U.calling g mk a) o s₂ := hq
  rw [State.frames_setTop' g h.top] at hend
  obtain ⟨g₀, hg0⟩ := Option.isSome_iff_exists.mp h.top
  obtain ⟨r, hr⟩ := State.topJava?_eq_some.mp hg0
  have hr' : (({ U with heap := s₂.heap, slotsUsed := s₂.slotsUsed } : State).setVm s₂.vm).frames = .java g₀ :: r := hr
  rcases hq' with ⟨hqc, L, hfe, hL⟩ | ⟨q, rfl, E, ce, L, hx, hce, hcv, hcl, hW₂, hsm, hL⟩
  · obtain ⟨⟨v, rfl⟩, hW₂, e2, q2, q3, q4, q5, q6⟩ := id hfe
    have e3 : s₂ = ({ (U.calling g mk a).setFrames s₂.frames with heap := s₂.heap, slotsUsed := s₂.slotsUsed } : State).setVm s₂.vm := by
      have : s₂ = ({ s₂ with vm := (U.calling g mk a).vm } : State).setVm s₂.vm := rfl
      rw [e2] at this
      exact this
    obtain ⟨c₂, i₂, len₂, hc₂, hd₂, hf₂⟩ := hend
    have hW' : U.WarmedH s₂.vm := hW₂
    have hcc : c₂ = c := by
      have h1 : s₂.code? g.method = U.code? g.method := by
        rw [State.code?_eq, State.code?_eq, hW'.alike.method?]
      exact Option.some.inj (hc₂.symm.trans (h1.trans h.code))
    subst hcc
    have hlen : len₂ = len := by rw [hdg] at hd₂; cases hd₂; rfl
    subst hlen
    have hs₂ : s₂ = (({ U with heap := s₂.heap, slotsUsed := s₂.slotsUsed } : State).setVm s₂.vm).setTop { g with pc := g.pc + len₂, stack := v.toList ++ g.stack } := by
      refine e3.trans ?_
      rw [hf₂, State.calling_eq h.top, State.setFrames_setFrames, State.setTop_of_frames _ hr', hr]
      rfl
    have hsame : U.sameButNew ({ U with heap := s₂.heap, slotsUsed := s₂.slotsUsed } : State) L mc ms := by
      refine ⟨?_, q2, q3, q4, q5, q6⟩
      obtain ⟨t, ht, -⟩ := State.frames_cons hr
      show ({ U with heap := s₂.heap, slotsUsed := s₂.slotsUsed } : State) = { U.setFrames U.frames with heap := s₂.heap, slotsUsed := s₂.slotsUsed }
      rw [State.setFrames_self ht]
    subst hg
    refine Or.inl ⟨v, ⟨(({ U with heap := s₂.heap, slotsUsed := s₂.slotsUsed } : State).setVm s₂.vm), Ls ++ L, c0 + mc, s0 + ms⟩,
      ⟨X.admits, X.cas, X.clock, X.frames, X.room, X.hears, X.method, X.code, (X.here.setHeapUsed s₂.heap s₂.slotsUsed).setVm hW'.alike, X.tail, State.WarmedH.trans X.warmed hW', X.limits, X.bytes, X.same.trans (hsame.setVm s.vm)⟩,
      ⟨g, mk, s₂, L, rfl, rfl, hqc, rfl, hL, rfl, rfl⟩, ?_⟩
    show Steps p.tables e below _ ((({ U with heap := s₂.heap, slotsUsed := s₂.slotsUsed } : State).setVm s₂.vm).setTop { g with pc := g.pc + len₂, stack := v.toList ++ g.stack })
    rw [← hs₂]
    exact hsteps
  · obtain ⟨e2, q2, q3, q4, q5, q6⟩ := id hsm
    have e3 : s₂ = ({ (U.calling g mk a).setFrames s₂.frames with heap := s₂.heap, slotsUsed := s₂.slotsUsed } : State).setVm s₂.vm := by
      have : s₂ = ({ s₂ with vm := (U.calling g mk a).vm } : State).setVm s₂.vm := rfl
      rw [e2] at this
      exact this
    have hf₂ : s₂.frames = .throwing q :: .java g :: U.frames.tail := hend
    have hW' : U.WarmedH s₂.vm := hW₂
    have hs₂ : s₂ = ((({ U with heap := s₂.heap, slotsUsed := s₂.slotsUsed } : State).setVm s₂.vm).setTop g).pushFrame (.throwing q) := by
      refine e3.trans ?_
      rw [hf₂, State.calling_eq h.top, State.setFrames_setFrames, State.pushFrame, State.frames_setTop _ hr', State.setTop_of_frames _ hr', State.setFrames_setFrames, hr]
      rfl
    have hsame : U.sameButNew ({ U with heap := s₂.heap, slotsUsed := s₂.slotsUsed } : State) L mc ms := by
      refine ⟨?_, q2, q3, q4, q5, q6⟩
      obtain ⟨t, ht, -⟩ := State.frames_cons hr
      show ({ U with heap := s₂.heap, slotsUsed := s₂.slotsUsed } : State) = { U.setFrames U.frames with heap := s₂.heap, slotsUsed := s₂.slotsUsed }
      rw [State.setFrames_self ht]
    subst hg
    refine Or.inr ⟨q, ⟨(({ U with heap := s₂.heap, slotsUsed := s₂.slotsUsed } : State).setVm s₂.vm), Ls ++ L, c0 + mc, s0 + ms⟩,
      ⟨X.admits, X.cas, X.clock, X.frames, X.room, X.hears, X.method, X.code, (X.here.setHeapUsed s₂.heap s₂.slotsUsed).setVm hW'.alike, X.tail, State.WarmedH.trans X.warmed hW', X.limits, X.bytes, X.same.trans (hsame.setVm s.vm)⟩,
      ⟨g, mk, s₂, L, E, ce, rfl, rfl, hx, hce, hcv, hcl, rfl, hL, rfl, rfl⟩, ?_⟩
    show Steps p.tables e below _ (((({ U with heap := s₂.heap, slotsUsed := s₂.slotsUsed } : State).setVm s₂.vm).setTop g).pushFrame (.throwing q))
    rw [← hs₂]
    exact hsteps
end Payer
section Calls
variable {p : Program} {l : Launch} {e : Env} {R : Room} {s : State} {m : MethodId} {args : Array Value} {below : List Frame} {meth : Method} {c : Code} {T : State} {locs : List Loc} {cells slots : Nat}
theorem vx_callV (X : Stand p l e R s m args below meth c T locs cells slots) (hexec : p.tables.exec = Jvm.exec) {own C : String} {index : Nat} {y : MethodName} {bytes : ByteArray} {maxL : Nat} {ret : Option FieldType}
    (hown : s.vm.findClass own = some m.cls) (hlink : (Cond.methodLink own index y).before args s = true) (hinst : (Cond.instanceMethod y).before args s = true) (hsel : (Cond.selects C y y).before args s = true)
    (hcode : (Cond.code y bytes maxL ret).before args s = true) (hy : y.cls ≠ "java/lang/invoke/MethodHandle" ∧ y.cls ≠ "java/lang/invoke/VarHandle")
    {W9 : Nat} {Pre : Pt → Array Value → Prop} {Post : Pt → Array Value → Option Value → Pt → Prop} {PostX : Pt → Array Value → Addr → Pt → Prop} (hK : vx_Back l R p e below s args y 3 W9 Pre Post PostX)
    {b : Addr} {cellB : Cell} (hcell : T.heap[b]? = some cellB) (hobj : cellB.vm.isStatics = false) (hcls : s.vm.findClass C = some cellB.cls)
    {g : JFrame} (hg : g.method = m) (hsize : g.locals.size = c.maxLocals) {argsL rest : List Value} (hlen : ∀ sig, parseMethodDescriptor y.desc = some sig → argsL.length = sig.parameters.length)
    (hstack : g.stack = argsL.reverse ++ .ref b :: rest) (hW : 2 * g.monitorRoom + (rest.map fun v => v.category).sum ≤ W9) (hdg : decode c.code g.pc = .ok (.invokevirtual index, 3))
    (hpre : ∀ vm₁, s.WarmedH vm₁ → Pre ⟨T.setVm vm₁, locs, cells, slots⟩ (Value.ref b :: argsL).toArray) :
    (∃ (v : Option Value) (vm₁ : Vm) (B : Pt), s.WarmedH vm₁ ∧ Stand p l e R s m args below meth c B.U B.locs B.cells B.slots ∧ Post ⟨T.setVm vm₁, locs, cells, slots⟩ (Value.ref b :: argsL).toArray v B ∧
      ∀ target, Steps p.tables e below (B.U.setTop { g with pc := g.pc + 3, stack := v.toList ++ rest }) target → Steps p.tables e below (T.setTop g) target) ∨
    (∃ (q : Addr) (vm₁ : Vm) (B : Pt), s.WarmedH vm₁ ∧ Stand p l e R s m args below meth c B.U B.locs B.cells B.slots ∧ PostX ⟨T.setVm vm₁, locs, cells, slots⟩ (Value.ref b :: argsL).toArray q B ∧
      Steps p.tables e below (T.setTop g) ((B.U.setTop { g with stack := rest }).pushFrame (.throwing q))) := by
  obtain ⟨mk, methM, hnamed, hmethM, hstM, habM⟩ := Cond.instanceMethod_spec hinst
  obtain ⟨methM', cM, hmethM', -, -, -, -, -, -, hsigM⟩ := Cond.code_spec hnamed hcode
  cases hmethM.symm.trans hmethM'
  obtain ⟨c2, r2, m2, q1, q2, q3, q4, kP, hkP, hkPi⟩ := Cond.selects_spec hsel
  cases hcls.symm.trans q1
  cases (State.methodFound?_of_named hnamed hy).symm.trans q2
  cases hnamed.symm.trans q3
  have hselP : selectMethod e.platform s.vm cellB.cls mk = .method mk := by rw [Launch.admits_selectMethod X.admits]; exact q4
  obtain ⟨vm₁, X₁, hstep₁⟩ := X.invokevirtual hexec hown hlink hnamed hmethM hstM hkP hkPi hy (a := b) (cell := cellB) hcell
    (fun z h => by rw [h] at hobj; cases hobj) hselP hmethM habM hkP hkPi (g := g) hg (argsL := argsL) (rest := rest) (hlen _ hsigM) hstack hdg
  rcases hK m meth c ⟨T.setVm vm₁, locs, cells, slots⟩ { g with stack := rest } (.invokevirtual index) mk (Value.ref b :: argsL).toArray X₁ hg hsize hdg hW (X₁.named hnamed) (hpre vm₁ X₁.warmed) with ⟨v, B, X', hpost, hsteps⟩ | ⟨q, B, X', hpost, hsteps⟩
  · exact Or.inl ⟨v, vm₁, B, X₁.warmed, X', hpost, fun target h => hstep₁ _ fun acts => by rw [doInvoke_state]; exact hsteps.trans h⟩
  · exact Or.inr ⟨q, vm₁, B, X₁.warmed, X', hpost, hstep₁ _ fun acts => by rw [doInvoke_state]; exact hsteps⟩
theorem vx_callS (X : Stand p l e R s m args below meth c T locs cells slots) (hexec : p.tables.exec = Jvm.exec) {own : String} {index : Nat} {y : MethodName} {bytes : ByteArray} {maxL : Nat} {ret : Option FieldType}
    (hown : s.vm.findClass own = some m.cls) (hlink : (Cond.methodLink own index y).before args s = true) (hstat : (Cond.static y).before args s = true) (hinit : (Cond.initialized y.cls).before args s = true)
    (hcode : (Cond.code y bytes maxL ret).before args s = true) (hy : y.cls ≠ "java/lang/invoke/MethodHandle" ∧ y.cls ≠ "java/lang/invoke/VarHandle")
    {W9 : Nat} {Pre : Pt → Array Value → Prop} {Post : Pt → Array Value → Option Value → Pt → Prop} {PostX : Pt → Array Value → Addr → Pt → Prop} (hK : vx_Back l R p e below s args y 3 W9 Pre Post PostX)
    {g : JFrame} (hg : g.method = m) (hsize : g.locals.size = c.maxLocals) {argsL rest : List Value} (hlen : ∀ sig, parseMethodDescriptor y.desc = some sig → argsL.length = sig.parameters.length)
    (hstack : g.stack = argsL.reverse ++ rest) (hW : 2 * g.monitorRoom + (rest.map fun v => v.category).sum ≤ W9) (hdg : decode c.code g.pc = .ok (.invokestatic index, 3))
    (hpre : ∀ vm₁, s.WarmedH vm₁ → Pre ⟨T.setVm vm₁, locs, cells, slots⟩ argsL.toArray) :
    (∃ (v : Option Value) (vm₁ : Vm) (B : Pt), s.WarmedH vm₁ ∧ Stand p l e R s m args below meth c B.U B.locs B.cells B.slots ∧ Post ⟨T.setVm vm₁, locs, cells, slots⟩ argsL.toArray v B ∧
      ∀ target, Steps p.tables e below (B.U.setTop { g with pc := g.pc + 3, stack := v.toList ++ rest }) target → Steps p.tables e below (T.setTop g) target) ∨
    (∃ (q : Addr) (vm₁ : Vm) (B : Pt), s.WarmedH vm₁ ∧ Stand p l e R s m args below meth c B.U B.locs B.cells B.slots ∧ PostX ⟨T.setVm vm₁, locs, cells, slots⟩ argsL.toArray q B ∧
      Steps p.tables e below (T.setTop g) ((B.U.setTop { g with stack := rest }).pushFrame (.throwing q))) := by
  obtain ⟨mk, hnamed⟩ := Cond.code_named hcode
  obtain ⟨methM, cM, hmethM, -, -, -, -, -, -, hsigM⟩ := Cond.code_spec hnamed hcode
  have hstatic : methM.isStatic = true := Cond.static_spec hnamed hmethM hstat
  obtain ⟨kP, hkP, -⟩ := className_of_methodNamed hnamed
  have hinitP : kP.init = .initialized := Cond.initialized_spec (findClass_of_methodNamed hnamed) hkP hinit
  obtain ⟨vm₁, X₁, hstep₁⟩ := X.invokestatic hexec hown hlink hnamed hmethM hstatic hkP hinitP hy (g := g) hg (argsL := argsL) (rest := rest) (hlen _ hsigM) hstack hdg
  rcases hK m meth c ⟨T.setVm vm₁, locs, cells, slots⟩ { g with stack := rest } (.invokestatic index) mk argsL.toArray X₁ hg hsize hdg hW (X₁.named hnamed) (hpre vm₁ X₁.warmed) with ⟨v, B, X', hpost, hsteps⟩ | ⟨q, B, X', hpost, hsteps⟩
  · exact Or.inl ⟨v, vm₁, B, X₁.warmed, X', hpost, fun target h => hstep₁ _ fun acts => by rw [doInvoke_state]; exact hsteps.trans h⟩
  · exact Or.inr ⟨q, vm₁, B, X₁.warmed, X', hpost, hstep₁ _ fun acts => by rw [doInvoke_state]; exact hsteps⟩
end Calls
theorem vx_cls {s : State} {T : State} {vm₁ : Vm} {E : String} {k : ClassId} (hW : s.WarmedH vm₁) (h : (T.setVm vm₁).vm.findClass E = some k) : s.vm.findClass E = some k := by
  have h1 : vm₁.findClass E = some k := h
  rw [hW.alike.findClass] at h1
  exact h1
/-- the method's frame g, with q thrown over it -/
def vx_W (p : Program) (l : Launch) (e : Env) (R : Room) (s : State) (m : MethodId) (args : Array Value) (below : List Frame) (meth : Method) (c : Code) (H : Heap) (locs : List Loc) (cells slots : Nat) (Q : State → Prop) (g : JFrame) (q : Addr) : Prop :=
  ∀ T : State, T.heap = H → Stand p l e R s m args below meth c T locs cells slots → ∃ t, Steps p.tables e below ((T.setTop g).pushFrame (.throwing q)) t ∧ Q t
def vx_Run (p : Program) (l : Launch) (e : Env) (R : Room) (s : State) (m : MethodId) (args : Array Value) (below : List Frame) (meth : Method) (c : Code) (H : Heap) (locs : List Loc) (cells slots mc ms : Nat) (g : JFrame) (rest : List Value) (Qa : State → Outcome → State → Prop) (XC : String → State → State → Prop) (free : Addr → Prop) : Prop :=
  ∀ T : State, T.heap = H → Stand p l e R s m args below meth c T locs cells slots →
    (∃ (v : Option Value) (st₀ t T' : State) (L : List Loc), st₀.heap = H ∧ Stand p l e R s m args below meth c T' (locs ++ L) (cells + mc) (slots + ms) ∧ (∀ q ∈ L, free q.base) ∧ T'.heap = t.heap ∧ T'.vm = t.vm ∧ Qa st₀ (.returned v) t ∧
      Goes p e below T g T' { g with pc := g.pc + 3, stack := v.toList ++ rest }) ∨
    (∃ (q : Addr) (st₀ t T' : State) (L : List Loc) (E : String) (ce : Cell), st₀.heap = H ∧ Stand p l e R s m args below meth c T' (locs ++ L) (cells + mc) (slots + ms) ∧ (∀ z ∈ L, free z.base) ∧ T'.heap = t.heap ∧ T'.vm = t.vm ∧ XC E st₀ t ∧ t.heap[q]? = some ce ∧ ce.vm = .none ∧ s.vm.findClass E = some ce.cls ∧
      Steps p.tables e below (T.setTop g) ((T'.setTop { g with stack := rest }).pushFrame (.throwing q)))
def vx_X {S : Type} (px : S → Prop) (B : String → S → State → Prop) (A : Nat → Prop) : String → State → State → Prop := fun E st t => ∃ u : S, px u ∧ B E u t ∧ va_F A st t
section Runs
variable {p : Program} {l : Launch} {e : Env} {R : Room} {s : State} {m : MethodId} {args : Array Value} {below : List Frame} {meth : Method} {c : Code} {H : Heap} {locs : List Loc} {cells slots : Nat}
variable {y : MethodName} {bytes cc : ByteArray} {maxL nL mc ms n index : Nat} {ret : Option FieldType} {ws : List Cond} {rm : Room} {Pc : Array Value → State → Prop} {Qc : Array Value → State → Outcome → State → Prop} {XC : String → State → State → Prop} {free : Addr → Prop} {Ts : List Cond} {own C : String} {b : Addr} {As rest : List Value} {g : JFrame}
theorem vx_callBack (cb : CallB R s args own index y bytes maxL ret ws rm mc ms n) (hM : vx_Met l y ws rm Pc Qc XC mc ms free) (hbl : FrameBlind Pc) : vx_Back l R p e below s args y 3 8 (PreOf R mc ms Pc) (PostOf Qc mc ms free) (vx_Post XC mc ms free) := by
  obtain ⟨hrc, hrs, hfr, hlo, hws, hcw, -, hini, -⟩ := cb
  exact vx_back (bytes := bytes) (maxL := maxL) (ret := ret) hM hbl hrc hrs hfr hlo hws hcw (fun a' U hW => word_at hW (Or.inl (by first | rfl | simp [Cond.onTables, Cond.keeps, Cond.steady])) hini)
theorem vx_runV (S : CallFix p m c cc nL s args Ts own) (hM : vx_Met l y ws rm Pc Qc XC mc ms free) (cw : CallW R s args own C index y bytes maxL ret ws rm mc ms n) (hp : PreV s H C b Pc As)
    (hg : g.method = m) (hn : As.length = n) (hsize : g.locals.size = nL) (hstack : g.stack = As.reverse ++ .ref b :: rest) (hW : 2 * g.monitorRoom + (rest.map fun v => v.category).sum ≤ 8) (hdg : decode cc g.pc = .ok (.invokevirtual index, 3)) (hf : cells + mc ≤ R.cells ∧ slots + ms ≤ R.slots) :
    vx_Run p l e R s m args below meth c H locs cells slots mc ms g rest (Qc (Value.ref b :: As).toArray) XC free := by
  have hK : vx_Back l R p e below s args y 3 8 (PreOf R mc ms Pc) (PostOf Qc mc ms free) (vx_Post XC mc ms free) := vx_callBack cw.1 hM hp.1
  obtain ⟨⟨-, -, -, -, -, -, hcode, -, hy, hlen, hl⟩, hin, hse⟩ := cw
  obtain ⟨hx, hb, hml, ho, -⟩ := S
  obtain ⟨-, ⟨cellB, hcB, hoB, hclB⟩, hPc⟩ := hp
  intro T hT X
  rcases vx_callV X hx (C := C) (bytes := bytes) (maxL := maxL) (ret := ret) ho hl hin hse hcode hy hK (by rw [hT]; exact hcB) hoB hclB hg (hsize.trans hml.symm) (argsL := As) (rest := rest) (fun sig h => hn.trans (hlen sig h)) hstack hW (by rw [hb]; exact hdg)
    (fun vm₁ hW₁ => ⟨hf.1, hf.2, hPc (T.setVm vm₁) hT hW₁⟩) with ⟨v, vm₁, ⟨U', l2, c2, s2⟩, hW₁, X', ⟨g', mk, t, L, e1, e2, hq, h1, hL, h2, h3⟩, st⟩ | ⟨q, vm₁, ⟨U', l2, c2, s2⟩, hW₁, X', ⟨g', mk, t, L, E, ce, e1, e2, hq, hce, hcv, hcl, h1, hL, h2, h3⟩, st⟩
  · dsimp only [Pt.U, Pt.locs, Pt.cells, Pt.slots] at X' e1 e2 h1 h2 h3 st
    subst h1; subst h2; subst h3
    exact Or.inl ⟨v, (T.setVm vm₁).calling g' mk (Value.ref b :: As).toArray, t, U', L, hT, X', hL, e1, e2, hq, st⟩
  · dsimp only [Pt.U, Pt.locs, Pt.cells, Pt.slots] at X' e1 e2 h1 h2 h3 st hcl
    subst h1; subst h2; subst h3
    exact Or.inr ⟨q, (T.setVm vm₁).calling g' mk (Value.ref b :: As).toArray, t, U', L, E, ce, hT, X', hL, e1, e2, hq, hce, hcv, vx_cls hW₁ hcl, st⟩
theorem vx_runS (S : CallFix p m c cc nL s args Ts own) (hM : vx_Met l y ws rm Pc Qc XC mc ms free) (cw : CallB R s args own index y bytes maxL ret ws rm mc ms n ∧ (Cond.static y).before args s = true) (hp : PreS s H Pc As)
    (hg : g.method = m) (hn : As.length = n) (hsize : g.locals.size = nL) (hstack : g.stack = As.reverse ++ rest) (hW : 2 * g.monitorRoom + (rest.map fun v => v.category).sum ≤ 8) (hdg : decode cc g.pc = .ok (.invokestatic index, 3)) (hf : cells + mc ≤ R.cells ∧ slots + ms ≤ R.slots) :
    vx_Run p l e R s m args below meth c H locs cells slots mc ms g rest (Qc As.toArray) XC free := by
  have hK : vx_Back l R p e below s args y 3 8 (PreOf R mc ms Pc) (PostOf Qc mc ms free) (vx_Post XC mc ms free) := vx_callBack cw.1 hM hp.1
  obtain ⟨⟨-, -, -, -, -, -, hcode, hini, hy, hlen, hl⟩, hstt⟩ := cw
  obtain ⟨hx, hb, hml, ho, -⟩ := S
  intro T hT X
  rcases vx_callS X hx (bytes := bytes) (maxL := maxL) (ret := ret) ho hl hstt hini hcode hy hK hg (hsize.trans hml.symm) (argsL := As) (rest := rest) (fun sig h => hn.trans (hlen sig h)) hstack hW (by rw [hb]; exact hdg)
    (fun vm₁ hW₁ => ⟨hf.1, hf.2, hp.2 (T.setVm vm₁) hT hW₁⟩) with ⟨v, vm₁, ⟨U', l2, c2, s2⟩, hW₁, X', ⟨g', mk, t, L, e1, e2, hq, h1, hL, h2, h3⟩, st⟩ | ⟨q, vm₁, ⟨U', l2, c2, s2⟩, hW₁, X', ⟨g', mk, t, L, E, ce, e1, e2, hq, hce, hcv, hcl, h1, hL, h2, h3⟩, st⟩
  · dsimp only [Pt.U, Pt.locs, Pt.cells, Pt.slots] at X' e1 e2 h1 h2 h3 st
    subst h1; subst h2; subst h3
    exact Or.inl ⟨v, (T.setVm vm₁).calling g' mk As.toArray, t, U', L, hT, X', hL, e1, e2, hq, st⟩
  · dsimp only [Pt.U, Pt.locs, Pt.cells, Pt.slots] at X' e1 e2 h1 h2 h3 st hcl
    subst h1; subst h2; subst h3
    exact Or.inr ⟨q, (T.setVm vm₁).calling g' mk As.toArray, t, U', L, E, ce, hT, X', hL, e1, e2, hq, hce, hcv, vx_cls hW₁ hcl, st⟩
end Runs
section Rows
variable {p : Program} {l : Launch} {e : Env} {R : Room} {s : State} {m : MethodId} {args : Array Value} {below : List Frame} {meth : Method} {c : Code} {H : Heap} {locs : List Loc} {cells slots : Nat} {Q : State → Prop}
variable {mc ms : Nat} {free : Addr → Prop} {A0 A1 : Nat → Prop} {H0 : Heap} {a : Array Value} {pc : Nat} {ls : Array Slot} {st0 rest : List Value}
theorem vx_keep {st₀ t T' : State} {L : List Loc} (h0 : st₀.heap = H) (e1 : T'.heap = t.heap) (hS : va_S A0 H0 H locs) (hA : ∀ q, q < H.size → A1 q → A0 q) (hf : ∀ q, free q → A0 q) (hL : ∀ q ∈ L, free q.base) (hF : va_F A1 st₀ t) :
    H.size ≤ T'.heap.size ∧ (∀ q : Nat, q < H.size → ¬ A1 q → T'.heap[q]? = H[q]?) ∧ va_S A0 H0 T'.heap (locs ++ L) := by
  obtain ⟨hz, hk⟩ := hF
  rw [h0] at hz hk
  exact ⟨by rw [e1]; exact hz, fun q h1 h2 => by rw [e1]; exact hk q h1 h2,
    ⟨Nat.le_trans hS.1 (by rw [e1]; exact hz), fun q h1 h2 => by rw [e1, hk q (Nat.lt_of_lt_of_le h1 hS.1) (fun z => h2 (hA q (Nat.lt_of_lt_of_le h1 hS.1) z))]; exact hS.2.1 q h1 h2, fun q hq => by
      rcases List.mem_append.mp hq with h | h
      · exact hS.2.2 q h
      · exact hf _ (hL q h)⟩⟩
theorem vx_calli {S SX : Type} {post : Int32 → S → Prop} {px : SX → Prop} {B : S → State → Prop} {BX : String → SX → State → Prop} {AX : Nat → Prop} (hr : vx_Run p l e R s m args below meth c H locs cells slots mc ms (F0 m pc ls st0) rest (va_Qi post B A1 a) (vx_X px BX AX) free) (hS : va_S A0 H0 H locs) (hA : ∀ q, q < H.size → A1 q → A0 q) (hf : ∀ q, free q → A0 q) (hAX : ∀ q, q < H.size → AX q → A0 q)
    (kx : ∀ (E : String) (ce : Cell) (q9 : Addr) (u : SX) (t : State) (H1 : Heap) (locs1 : List Loc), t.heap = H1 → s.vm.Alike t.vm → px u → BX E u t → H.size ≤ H1.size → (∀ q : Nat, q < H.size → ¬ AX q → H1[q]? = H[q]?) → va_S A0 H0 H1 locs1 → H1[q9]? = some ce → ce.vm = .none → s.vm.findClass E = some ce.cls → vx_W p l e R s m args below meth c H1 locs1 (cells + mc) (slots + ms) Q (F0 m pc ls rest) q9)
    (kk : ∀ (r : Int32) (u : S) (t : State) (H1 : Heap) (locs1 : List Loc), t.heap = H1 → s.vm.Alike t.vm → post r u → B u t → H.size ≤ H1.size → (∀ q : Nat, q < H.size → ¬ A1 q → H1[q]? = H[q]?) → va_S A0 H0 H1 locs1 → W p l e R s m args below meth c H1 locs1 (cells + mc) (slots + ms) Q (F0 m (pc + 3) ls (.int r :: rest))) : W p l e R s m args below meth c H locs cells slots Q (F0 m pc ls st0) := by
  intro T hT X
  rcases hr T hT X with ⟨v, st₀, t, T', L, h0, X', hL, e1, e2, ⟨⟨r, u, hv, hp, hb⟩, hF⟩, st⟩ | ⟨q, st₀, t, T', L, E, ce, h0, X', hL, e1, e2, ⟨u, hp, hb, hF⟩, hce, hcv, hcl, st⟩
  · cases hv
    obtain ⟨k1, k2, k3⟩ := vx_keep h0 e1 hS hA hf hL hF
    obtain ⟨t2, a1, b1⟩ := kk r u t T'.heap (locs ++ L) e1.symm (by rw [← e2]; exact X'.warmed.alike) hp hb k1 k2 k3 T' rfl X'
    exact ⟨t2, st t2 a1, b1⟩
  · obtain ⟨k1, k2, k3⟩ := vx_keep h0 e1 hS hAX hf hL hF
    obtain ⟨t2, a1, b1⟩ := kx E ce q u t T'.heap (locs ++ L) e1.symm (by rw [← e2]; exact X'.warmed.alike) hp hb k1 k2 k3 (by rw [e1]; exact hce) hcv hcl T' rfl X'
    exact ⟨t2, st.trans a1, b1⟩
theorem vx_calll {S SX : Type} {post : Int64 → S → Prop} {px : SX → Prop} {B : S → State → Prop} {BX : String → SX → State → Prop} {AX : Nat → Prop} (hr : vx_Run p l e R s m args below meth c H locs cells slots mc ms (F0 m pc ls st0) rest (va_Ql post B A1 a) (vx_X px BX AX) free) (hS : va_S A0 H0 H locs) (hA : ∀ q, q < H.size → A1 q → A0 q) (hf : ∀ q, free q → A0 q) (hAX : ∀ q, q < H.size → AX q → A0 q)
    (kx : ∀ (E : String) (ce : Cell) (q9 : Addr) (u : SX) (t : State) (H1 : Heap) (locs1 : List Loc), t.heap = H1 → s.vm.Alike t.vm → px u → BX E u t → H.size ≤ H1.size → (∀ q : Nat, q < H.size → ¬ AX q → H1[q]? = H[q]?) → va_S A0 H0 H1 locs1 → H1[q9]? = some ce → ce.vm = .none → s.vm.findClass E = some ce.cls → vx_W p l e R s m args below meth c H1 locs1 (cells + mc) (slots + ms) Q (F0 m pc ls rest) q9)
    (kk : ∀ (r : Int64) (u : S) (t : State) (H1 : Heap) (locs1 : List Loc), t.heap = H1 → s.vm.Alike t.vm → post r u → B u t → H.size ≤ H1.size → (∀ q : Nat, q < H.size → ¬ A1 q → H1[q]? = H[q]?) → va_S A0 H0 H1 locs1 → W p l e R s m args below meth c H1 locs1 (cells + mc) (slots + ms) Q (F0 m (pc + 3) ls (.long r :: rest))) : W p l e R s m args below meth c H locs cells slots Q (F0 m pc ls st0) := by
  intro T hT X
  rcases hr T hT X with ⟨v, st₀, t, T', L, h0, X', hL, e1, e2, ⟨⟨r, u, hv, hp, hb⟩, hF⟩, st⟩ | ⟨q, st₀, t, T', L, E, ce, h0, X', hL, e1, e2, ⟨u, hp, hb, hF⟩, hce, hcv, hcl, st⟩
  · cases hv
    obtain ⟨k1, k2, k3⟩ := vx_keep h0 e1 hS hA hf hL hF
    obtain ⟨t2, a1, b1⟩ := kk r u t T'.heap (locs ++ L) e1.symm (by rw [← e2]; exact X'.warmed.alike) hp hb k1 k2 k3 T' rfl X'
    exact ⟨t2, st t2 a1, b1⟩
  · obtain ⟨k1, k2, k3⟩ := vx_keep h0 e1 hS hAX hf hL hF
    obtain ⟨t2, a1, b1⟩ := kx E ce q u t T'.heap (locs ++ L) e1.symm (by rw [← e2]; exact X'.warmed.alike) hp hb k1 k2 k3 (by rw [e1]; exact hce) hcv hcl T' rfl X'
    exact ⟨t2, st.trans a1, b1⟩
theorem vx_callf {S SX : Type} {post : UInt32 → S → Prop} {px : SX → Prop} {B : S → State → Prop} {BX : String → SX → State → Prop} {AX : Nat → Prop} (hr : vx_Run p l e R s m args below meth c H locs cells slots mc ms (F0 m pc ls st0) rest (va_Qf post B A1 a) (vx_X px BX AX) free) (hS : va_S A0 H0 H locs) (hA : ∀ q, q < H.size → A1 q → A0 q) (hf : ∀ q, free q → A0 q) (hAX : ∀ q, q < H.size → AX q → A0 q)
    (kx : ∀ (E : String) (ce : Cell) (q9 : Addr) (u : SX) (t : State) (H1 : Heap) (locs1 : List Loc), t.heap = H1 → s.vm.Alike t.vm → px u → BX E u t → H.size ≤ H1.size → (∀ q : Nat, q < H.size → ¬ AX q → H1[q]? = H[q]?) → va_S A0 H0 H1 locs1 → H1[q9]? = some ce → ce.vm = .none → s.vm.findClass E = some ce.cls → vx_W p l e R s m args below meth c H1 locs1 (cells + mc) (slots + ms) Q (F0 m pc ls rest) q9)
    (kk : ∀ (r : UInt32) (u : S) (t : State) (H1 : Heap) (locs1 : List Loc), t.heap = H1 → s.vm.Alike t.vm → post r u → B u t → H.size ≤ H1.size → (∀ q : Nat, q < H.size → ¬ A1 q → H1[q]? = H[q]?) → va_S A0 H0 H1 locs1 → W p l e R s m args below meth c H1 locs1 (cells + mc) (slots + ms) Q (F0 m (pc + 3) ls (.float r :: rest))) : W p l e R s m args below meth c H locs cells slots Q (F0 m pc ls st0) := by
  intro T hT X
  rcases hr T hT X with ⟨v, st₀, t, T', L, h0, X', hL, e1, e2, ⟨⟨r, u, hv, hp, hb⟩, hF⟩, st⟩ | ⟨q, st₀, t, T', L, E, ce, h0, X', hL, e1, e2, ⟨u, hp, hb, hF⟩, hce, hcv, hcl, st⟩
  · cases hv
    obtain ⟨k1, k2, k3⟩ := vx_keep h0 e1 hS hA hf hL hF
    obtain ⟨t2, a1, b1⟩ := kk r u t T'.heap (locs ++ L) e1.symm (by rw [← e2]; exact X'.warmed.alike) hp hb k1 k2 k3 T' rfl X'
    exact ⟨t2, st t2 a1, b1⟩
  · obtain ⟨k1, k2, k3⟩ := vx_keep h0 e1 hS hAX hf hL hF
    obtain ⟨t2, a1, b1⟩ := kx E ce q u t T'.heap (locs ++ L) e1.symm (by rw [← e2]; exact X'.warmed.alike) hp hb k1 k2 k3 (by rw [e1]; exact hce) hcv hcl T' rfl X'
    exact ⟨t2, st.trans a1, b1⟩
theorem vx_calld {S SX : Type} {post : UInt64 → S → Prop} {px : SX → Prop} {B : S → State → Prop} {BX : String → SX → State → Prop} {AX : Nat → Prop} (hr : vx_Run p l e R s m args below meth c H locs cells slots mc ms (F0 m pc ls st0) rest (va_Qd post B A1 a) (vx_X px BX AX) free) (hS : va_S A0 H0 H locs) (hA : ∀ q, q < H.size → A1 q → A0 q) (hf : ∀ q, free q → A0 q) (hAX : ∀ q, q < H.size → AX q → A0 q)
    (kx : ∀ (E : String) (ce : Cell) (q9 : Addr) (u : SX) (t : State) (H1 : Heap) (locs1 : List Loc), t.heap = H1 → s.vm.Alike t.vm → px u → BX E u t → H.size ≤ H1.size → (∀ q : Nat, q < H.size → ¬ AX q → H1[q]? = H[q]?) → va_S A0 H0 H1 locs1 → H1[q9]? = some ce → ce.vm = .none → s.vm.findClass E = some ce.cls → vx_W p l e R s m args below meth c H1 locs1 (cells + mc) (slots + ms) Q (F0 m pc ls rest) q9)
    (kk : ∀ (r : UInt64) (u : S) (t : State) (H1 : Heap) (locs1 : List Loc), t.heap = H1 → s.vm.Alike t.vm → post r u → B u t → H.size ≤ H1.size → (∀ q : Nat, q < H.size → ¬ A1 q → H1[q]? = H[q]?) → va_S A0 H0 H1 locs1 → W p l e R s m args below meth c H1 locs1 (cells + mc) (slots + ms) Q (F0 m (pc + 3) ls (.double r :: rest))) : W p l e R s m args below meth c H locs cells slots Q (F0 m pc ls st0) := by
  intro T hT X
  rcases hr T hT X with ⟨v, st₀, t, T', L, h0, X', hL, e1, e2, ⟨⟨r, u, hv, hp, hb⟩, hF⟩, st⟩ | ⟨q, st₀, t, T', L, E, ce, h0, X', hL, e1, e2, ⟨u, hp, hb, hF⟩, hce, hcv, hcl, st⟩
  · cases hv
    obtain ⟨k1, k2, k3⟩ := vx_keep h0 e1 hS hA hf hL hF
    obtain ⟨t2, a1, b1⟩ := kk r u t T'.heap (locs ++ L) e1.symm (by rw [← e2]; exact X'.warmed.alike) hp hb k1 k2 k3 T' rfl X'
    exact ⟨t2, st t2 a1, b1⟩
  · obtain ⟨k1, k2, k3⟩ := vx_keep h0 e1 hS hAX hf hL hF
    obtain ⟨t2, a1, b1⟩ := kx E ce q u t T'.heap (locs ++ L) e1.symm (by rw [← e2]; exact X'.warmed.alike) hp hb k1 k2 k3 (by rw [e1]; exact hce) hcv hcl T' rfl X'
    exact ⟨t2, st.trans a1, b1⟩
theorem vx_callv {S SX : Type} {post : S → Prop} {px : SX → Prop} {B : S → State → Prop} {BX : String → SX → State → Prop} {AX : Nat → Prop} (hr : vx_Run p l e R s m args below meth c H locs cells slots mc ms (F0 m pc ls st0) rest (va_Qv post B A1 a) (vx_X px BX AX) free) (hS : va_S A0 H0 H locs) (hA : ∀ q, q < H.size → A1 q → A0 q) (hf : ∀ q, free q → A0 q) (hAX : ∀ q, q < H.size → AX q → A0 q)
    (kx : ∀ (E : String) (ce : Cell) (q9 : Addr) (u : SX) (t : State) (H1 : Heap) (locs1 : List Loc), t.heap = H1 → s.vm.Alike t.vm → px u → BX E u t → H.size ≤ H1.size → (∀ q : Nat, q < H.size → ¬ AX q → H1[q]? = H[q]?) → va_S A0 H0 H1 locs1 → H1[q9]? = some ce → ce.vm = .none → s.vm.findClass E = some ce.cls → vx_W p l e R s m args below meth c H1 locs1 (cells + mc) (slots + ms) Q (F0 m pc ls rest) q9)
    (kk : ∀ (u : S) (t : State) (H1 : Heap) (locs1 : List Loc), t.heap = H1 → s.vm.Alike t.vm → post u → B u t → H.size ≤ H1.size → (∀ q : Nat, q < H.size → ¬ A1 q → H1[q]? = H[q]?) → va_S A0 H0 H1 locs1 → W p l e R s m args below meth c H1 locs1 (cells + mc) (slots + ms) Q (F0 m (pc + 3) ls (rest))) : W p l e R s m args below meth c H locs cells slots Q (F0 m pc ls st0) := by
  intro T hT X
  rcases hr T hT X with ⟨v, st₀, t, T', L, h0, X', hL, e1, e2, ⟨⟨u, hv, hp, hb⟩, hF⟩, st⟩ | ⟨q, st₀, t, T', L, E, ce, h0, X', hL, e1, e2, ⟨u, hp, hb, hF⟩, hce, hcv, hcl, st⟩
  · cases hv
    obtain ⟨k1, k2, k3⟩ := vx_keep h0 e1 hS hA hf hL hF
    obtain ⟨t2, a1, b1⟩ := kk u t T'.heap (locs ++ L) e1.symm (by rw [← e2]; exact X'.warmed.alike) hp hb k1 k2 k3 T' rfl X'
    exact ⟨t2, st t2 a1, b1⟩
  · obtain ⟨k1, k2, k3⟩ := vx_keep h0 e1 hS hAX hf hL hF
    obtain ⟨t2, a1, b1⟩ := kx E ce q u t T'.heap (locs ++ L) e1.symm (by rw [← e2]; exact X'.warmed.alike) hp hb k1 k2 k3 (by rw [e1]; exact hce) hcv hcl T' rfl X'
    exact ⟨t2, st.trans a1, b1⟩
/-- caught by the row x of this method's table; the rows ahead don't take it -/
theorem vx_catch {own name : String} {E : String} {ce : Cell} {q : Addr} (hown : s.vm.findClass own = some m.cls) (pre : List ExceptionTableEntry) (x : ExceptionTableEntry) (suf : List ExceptionTableEntry) (hsplit : c.exceptionTable.toList = pre ++ x :: suf)
    (hpass : ∀ z ∈ pre, covers z pc = false ∨ (z.catchType ≠ 0 ∧ ∃ nm : String, (Cond.classLink own z.catchType nm).before args s = true ∧ va_Nc E nm s)) (hx : covers x pc = true) (h0 : x.catchType ≠ 0)
    (hlink : (Cond.classLink own x.catchType name).before args s = true) (hcast : (Cond.castable E name).before args s = true) (hcell : H[q]? = some ce) (hv : ce.vm = .none) (hcl : s.vm.findClass E = some ce.cls)
    (kk : W p l e R s m args below meth c H locs cells slots Q (F0 m x.handlerPc ls [.ref q])) : vx_W p l e R s m args below meth c H locs cells slots Q (F0 m pc ls rest) q := by
  intro T hT X
  have hpl : e.platform.magicAccessors = ({} : Platform).magicAccessors := by rw [X.admits.platform]
  obtain ⟨c3, c4, hc3, hc4, hasg⟩ := Cond.castable_spec hcast
  cases Option.some.inj (hc3.symm.trans hcl)
  obtain ⟨c5, hc5, hcl5⟩ := Cond.classLink_spec hown hlink e.platform hpl
  cases Option.some.inj (hc4.symm.trans hc5)
  obtain ⟨vm', X', st⟩ := X.thenCaughtThrough q (g := F0 m pc ls rest) rfl (Steps.refl _) (by rw [hT]; exact hcell) (by rw [hv]; rfl) (by obtain ⟨k9, h9, -⟩ := Vm.findClass_spec hcl; exact ⟨k9, h9⟩) pre x suf hsplit
    (fun z hz => by
      rcases hpass z hz with h | ⟨hz0, nm, hl1, hn1⟩
      · exact Or.inl h
      · obtain ⟨c6, hc6, hcl6⟩ := Cond.classLink_spec hown hl1 e.platform hpl
        obtain ⟨a8, b8, h1, h2, h3⟩ := hn1
        cases Option.some.inj (h1.symm.trans hcl)
        cases Option.some.inj (h2.symm.trans hc6)
        exact Or.inr ⟨hz0, _, hcl6, h3⟩) hx (Or.inr ⟨h0, c4, hcl5, hasg⟩)
  obtain ⟨t, a1, b1⟩ := kk (T.setVm vm') hT X'
  exact ⟨t, st.trans a1, b1⟩
end Rows
section Ends
variable {p : Program} {l : Launch} {e : Env} {R : Room} {s : State} {m : MethodId} {args : Array Value} {below : List Frame} {meth : Method} {c : Code} {H : Heap} {locs : List Loc} {cells slots : Nat} {Q : State → Prop}
variable {mc ms : Nat} {free : Addr → Prop} {A0 A1 : Nat → Prop} {H0 : Heap} {a : Array Value} {ls : Array Slot} {st0 rest : List Value}
variable {Qc : Array Value → State → Outcome → State → Prop} {XC : String → State → State → Prop}
/-- what a body that may throw owes at its end -/
def vx_MQ (below : List Frame) (Qc : Array Value → State → Outcome → State → Prop) (XC : String → State → State → Prop) (a : Array Value) (s : State) (mc ms : Nat) (free : Addr → Prop) : State → Prop := fun t =>
  ∃ o, t.status = .running ∧ Ended t below o ∧ vx_Q Qc XC mc ms free a s o t
theorem vx_ret {g : JFrame} {mc ms : Nat} (k : W p l e R s m args below meth c H locs cells slots (MQ below Qc args s mc ms free) g) : W p l e R s m args below meth c H locs cells slots (vx_MQ below Qc XC args s mc ms free) g := by
  intro T hT X
  obtain ⟨t, a1, o, b1, b2, b3, b4⟩ := k T hT X
  exact ⟨t, a1, o, b1, b2, Or.inl ⟨b3, b4⟩⟩
/-- not caught here: it goes on to the caller -/
theorem vx_widen {g : JFrame} {q : Addr} {k n : Nat} (h1 : cells ≤ k) (h2 : slots ≤ n) (kk : vx_W p l e R s m args below meth c H locs k n Q g q) : vx_W p l e R s m args below meth c H locs cells slots Q g q := fun T hT X => kk T hT (stand_widen X h1 h2)
theorem vx_out {pc : Nat} {E : String} {ce : Cell} {q : Addr} {mc ms : Nat} (hout : ∀ x ∈ c.exceptionTable.toList, covers x pc = false) (hlocks : meth.locks = false) (hcell : H[q]? = some ce) (hv : ce.vm = .none) (hcl : s.vm.findClass E = some ce.cls)
    (hx : ∀ t : State, t.heap = H → s.vm.Alike t.vm → XC E s t) (hf : ∀ z ∈ locs, free z.base) (hc : cells ≤ mc) (hs : slots ≤ ms) :
    vx_W p l e R s m args below meth c H locs cells slots (vx_MQ below Qc XC args s mc ms free) (F0 m pc ls rest) q := by
  intro T hT X
  obtain ⟨st1, hrun, hend, hW, hsm⟩ := X.leaveThrown q (g := F0 m pc ls rest) rfl rfl rfl hout hlocks
  have hcell9 : (T.setFrames (.throwing q :: below)).heap[q]? = some ce := by
    show T.heap[q]? = some ce
    rw [hT]; exact hcell
  exact ⟨_, st1, .threw q, hrun, hend, Or.inr ⟨q, rfl, E, ce, locs, hx _ hT hW.alike, hcell9, hv, hcl, hW, hsm.mono hc hs, hf⟩⟩
theorem vx_frame {U : State} {k n : Nat} (h : s.sameButNew ({ U with vm := s.vm } : State) locs k n) : s.heap.size ≤ U.heap.size ∧ ∀ q : Nat, q < s.heap.size → (∀ z ∈ locs, z.base ≠ q) → U.heap[q]? = s.heap[q]? := by
  obtain ⟨-, h2, -, -, -, h6⟩ := h
  refine ⟨h2, fun q hq hz => ?_⟩
  obtain ⟨c9, e1, e2, e3, e4⟩ := h6 q _ (Array.getElem?_eq_getElem hq)
  have hs : c9.slots = (s.heap[q]).slots := Array.ext_getElem? fun i => e4 i fun hm => hz _ hm rfl
  have h9 : c9 = s.heap[q] := by
    rw [hs] at e2
    exact e2
  have e5 : U.heap[q]? = some c9 := e1
  rw [e5, h9, Array.getElem?_eq_getElem hq]
/-- the words of a throw but the four that speak of the heap -/
def vx_no (w : Cond) : Bool := decide (w ≠ .isRef (.static Bundle.tN "UNASSIGNED_STACK" Bundle.steD)) && decide (w ≠ .isRef (.static Bundle.tN "SUPPRESSED_SENTINEL" Bundle.listD)) && decide (w ≠ .laysStatic Bundle.tN "UNASSIGNED_STACK" Bundle.steD) && decide (w ≠ .laysStatic Bundle.tN "SUPPRESSED_SENTINEL" Bundle.listD)
def vx_at0 (own : String) (ic : Nat) (X : String) (names : List String) : List Cond := (Bundle.ownAtoms0 own ic X names).filter vx_no
def vx_atS (own : String) (ic : Nat) (X : String) (names : List String) : List Cond := (Bundle.ownAtoms own ic X names).filter vx_no
/-- a word that the tables alone decide, or a good one -/
def vx_ot (w : Cond) : Bool := w.onTables || goodWord w
theorem vx_ot_at {args a' : Array Value} {s U : State} {w : Cond} (hW : s.WarmedH U.vm) (hvm : s.vm = U.vm) (hg : vx_ot w = true) (h : w.before args s = true) : w.before a' U = true := by
  simp only [vx_ot, Bool.or_eq_true] at hg
  rcases hg with hg | hg
  · exact va_tabs hg hvm h
  · exact word_at hW (good_of_word hg) h
/-- a list's words: the good ones out of the method's own list, the others by premises of their own -/
theorem vx_hat {args : Array Value} {s : State} {L B : List Cond} (h1 : ∀ w ∈ L.filter goodWord, w.before args s = true) (h2 : ∀ w ∈ L.filter (fun w => !goodWord w), w ∈ B) (h3 : ∀ w ∈ B, w.before args s = true) : ∀ w ∈ L, w.before args s = true := by
  intro w hw
  by_cases g : goodWord w = true
  · exact h1 w (List.mem_filter.mpr ⟨hw, g⟩)
  · refine h3 w (h2 w (List.mem_filter.mpr ⟨hw, ?_⟩))
    show (!goodWord w) = true
    cases hgw : goodWord w
    · rfl
    · exact absurd hgw g
theorem vx_c {args : Array Value} {s : State} {w : Cond} {B : List Cond} (h : w.before args s = true) (t : ∀ w ∈ B, w.before args s = true) : ∀ w' ∈ w :: B, w'.before args s = true := fun w' h' => (List.mem_cons.mp h').elim (fun e => by rw [e]; exact h) (t w')
theorem vx_n {args : Array Value} {s : State} : ∀ w ∈ ([] : List Cond), w.before args s = true := fun _ h => nomatch h
theorem vx_own {args : Array Value} {s : State} {L : List Cond} (h1 : ∀ w ∈ L.filter vx_no, w.before args s = true)
    (hU : (Cond.isRef (.static Bundle.tN "UNASSIGNED_STACK" Bundle.steD)).before args s = true) (hN : (Cond.isRef (.static Bundle.tN "SUPPRESSED_SENTINEL" Bundle.listD)).before args s = true)
    (lU : (Cond.laysStatic Bundle.tN "UNASSIGNED_STACK" Bundle.steD).before args s = true) (lN : (Cond.laysStatic Bundle.tN "SUPPRESSED_SENTINEL" Bundle.listD).before args s = true) : ∀ w ∈ L, w.before args s = true := by
  intro w hw
  by_cases e1 : w = .isRef (.static Bundle.tN "UNASSIGNED_STACK" Bundle.steD)
  · rw [e1]; exact hU
  · by_cases e2 : w = .isRef (.static Bundle.tN "SUPPRESSED_SENTINEL" Bundle.listD)
    · rw [e2]; exact hN
    · by_cases e3 : w = .laysStatic Bundle.tN "UNASSIGNED_STACK" Bundle.steD
      · rw [e3]; exact lU
      · by_cases e4 : w = .laysStatic Bundle.tN "SUPPRESSED_SENTINEL" Bundle.listD
        · rw [e4]; exact lN
        · exact h1 w (List.mem_filter.mpr ⟨hw, by unfold vx_no; rw [decide_eq_true e1, decide_eq_true e2, decide_eq_true e3, decide_eq_true e4]; rfl⟩)
/-- where a static field lies, its class's statics cell in H -/
def vx_L (C n d : String) (A : Nat → Prop) (U : State) (H : Heap) : Prop := ∃ (c : ClassId) (k : Class) (i : Nat) (f : Field) (a : Nat) (cell : Cell), U.vm.findClass C = some c ∧ U.fieldFound? C n d = some (c, k, i, f) ∧ f.isStatic = true ∧ k.statics = some a ∧ H[a]? = some cell ∧ cell.vm.isStatics = true ∧ cell.cls = c ∧ f.slot < cell.slots.size ∧ k.staticTypes[f.slot]? = some f.type ∧ ¬ A a
theorem vx_L.moved {C n d : String} {A : Nat → Prop} {u U : State} {H : Heap} (hvm : u.vm.Alike U.vm) (h : vx_L C n d A u H) : vx_L C n d A U H := by
  obtain ⟨c, k, i, f, a, cell, h1, h2, h3, h4, h5, h6, h7, h8, h9, h10⟩ := h
  obtain ⟨k', hi', he⟩ := State.fieldFound?_setVm hvm h2
  exact ⟨c, k', i, f, a, cell, by rw [hvm.findClass]; exact h1, hi', h3, by rw [he]; exact h4, h5, h6, h7, h8, by rw [he]; exact h9, h10⟩
theorem vx_L.kept {C n d : String} {A : Nat → Prop} {U : State} {H H1 : Heap} (h : vx_L C n d A U H) (hq : ∀ a : Nat, a < H.size → ¬ A a → H1[a]? = H[a]?) : vx_L C n d A U H1 := by
  obtain ⟨c, k, i, f, a, cell, h1, h2, h3, h4, h5, h6, h7, h8, h9, h10⟩ := h
  exact ⟨c, k, i, f, a, cell, h1, h2, h3, h4, by rw [hq a (Array.getElem?_eq_some_iff.mp h5).1 h10]; exact h5, h6, h7, h8, h9, h10⟩
theorem vx_L.narrow {C n d : String} {A B : Nat → Prop} {U : State} {H : Heap} (h : vx_L C n d A U H) (hAB : ∀ q, B q → A q) : vx_L C n d B U H := by
  obtain ⟨c, k, i, f, a, cell, h1, h2, h3, h4, h5, h6, h7, h8, h9, h10⟩ := h
  exact ⟨c, k, i, f, a, cell, h1, h2, h3, h4, h5, h6, h7, h8, h9, fun z => h10 (hAB _ z)⟩
theorem vx_L.word {C n d : String} {A : Nat → Prop} {s : State} {args : Array Value} (h : vx_L C n d A s s.heap) : (Cond.laysStatic C n d).before args s = true := by
  obtain ⟨c, k, i, f, a, cell, h1, h2, h3, h4, h5, h6, h7, h8, h9, -⟩ := h
  show (Cond.laysStatic C n d).holds args s none s [] = true
  exact Cond.laysStatic_of h1 h2 h3 h4 h5 h6 h7 h8 h9
/-- .. and what it holds: null or some reference -/
def vx_Zq (C n d : String) (A : Nat → Prop) (U : State) (H : Heap) : Prop := va_Zq C n d A U H ∧ vx_L C n d A U H
theorem vx_Zq.moved {C n d : String} {A : Nat → Prop} {u U : State} {H : Heap} (hvm : u.vm.Alike U.vm) (h : vx_Zq C n d A u H) : vx_Zq C n d A U H := ⟨va_Zq.moved hvm h.1, vx_L.moved hvm h.2⟩
theorem vx_Zq.kept {C n d : String} {A : Nat → Prop} {U : State} {H H1 : Heap} (h : vx_Zq C n d A U H) (hq : ∀ a : Nat, a < H.size → ¬ A a → H1[a]? = H[a]?) : vx_Zq C n d A U H1 := ⟨va_Zq.kept h.1 hq, vx_L.kept h.2 hq⟩
theorem vx_Zq.narrow {C n d : String} {A B : Nat → Prop} {U : State} {H : Heap} (h : vx_Zq C n d A U H) (hAB : ∀ q, B q → A q) : vx_Zq C n d B U H := ⟨va_Zq.narrow h.1 hAB, vx_L.narrow h.2 hAB⟩
theorem vx_Zqof {args : Array Value} {s : State} {C n d : String} {A : Nat → Prop} (hl : (Cond.laysStatic C n d).before args s = true) (hini : (Cond.initialized C).before args s = true) (h : (Cond.isRef (.static C n d)).before args s = true) (hA : ∀ a : Nat, a < s.heap.size → ¬ A a) : vx_Zq C n d A s s.heap := by
  refine ⟨va_Zqof hl hini h hA, ?_⟩
  obtain ⟨c, k, i, f, a, cell, h1, h2, h3, h4, h5, h6, h7, h8, h9⟩ := Cond.laysStatic_spec hl
  exact ⟨c, k, i, f, a, cell, h1, h2, h3, h4, h5, h6, h7, h8, h9, hA a (Array.getElem?_eq_some_iff.mp h5).1⟩
theorem vx_isRef {C n d : String} {v : Value} {A : Nat → Prop} {s : State} {args : Array Value} (h : va_Z C n d v A s s.heap) (hv : v.isRef = true) : (Cond.isRef (.static C n d)).before args s = true := by
  obtain ⟨cf, kf, fi, f, a, cell, h1, h2, h3, h4, h5, h6, h7, -⟩ := h
  have he : (Term.static C n d).eval args s none [] s = some v := by
    simp [Term.eval, State.fieldNamed?, h1, h2, h4, h5, h6, h7]
  simp only [Cond.before, Cond.holds, Cond.value, he]
  cases v <;> simp_all [Value.isRef]
theorem vx_isRefq {C n d : String} {A : Nat → Prop} {s : State} {args : Array Value} (h : va_Zq C n d A s s.heap) : (Cond.isRef (.static C n d)).before args s = true := by
  rcases h with h | ⟨t, h⟩
  · exact vx_isRef h rfl
  · exact vx_isRef h rfl
/-- the same frame, seen from here: as if the method were called anew in this heap -/
theorem vx_rebase {T : State} (X : Stand p l e R s m args below meth c T locs cells slots) {R' : Room} (hf : R'.frames ≤ R.frames) (hl : R'.locals ≤ R.locals) (hc : cells + R'.cells ≤ R.cells) (hs : slots + R'.slots ≤ R.slots) :
    Stand p l e R' ((T.setVm s.vm).setFrames (.invoking m args :: below)) m args below meth c T [] 0 0 := by
  have htop : (T.setVm s.vm).topJava?.isSome := X.here.top
  have hF : ((T.setVm s.vm).setFrames (.invoking m args :: below)).frames = .invoking m args :: below := State.frames_setFrames _ (State.cur_lt_of_top htop)
  obtain ⟨g₀, hg0⟩ := Option.isSome_iff_exists.mp htop
  obtain ⟨r, hr⟩ := State.topJava?_eq_some.mp hg0
  have hl9 : e.platform.stackLimits (T.setVm s.vm).me = e.platform.stackLimits s.me := X.limits
  have hb9 : (T.setVm s.vm).me.stackBytes = s.me.stackBytes := X.bytes
  refine ⟨X.admits, X.cas, X.clock, hF, ?_, X.hears, X.method, X.code, X.here, X.tail, X.warmed, ?_, ?_, ?_⟩
  · have h := X.room
    have hU : ((T.setVm s.vm).setFrames (.invoking m args :: below)).localsInUse = s.localsInUse := by
      rw [State.localsInUse_invoking hF (meth := meth) (c := c) X.method X.code, State.localsInUse_invoking X.frames X.method X.code]
    simp only [State.hasRoom, Bool.and_eq_true, decide_eq_true_eq] at h ⊢
    obtain ⟨⟨⟨⟨h1, h2, h3, h4, h5, h6⟩, h7⟩, h8⟩, h9⟩ := h
    rw [X.frames, List.length_cons] at h2 h3
    have q1 := X.heapSize
    have q2 := X.used
    simp only [hF, hU, List.length_cons, State.stackLimits_setFrames, State.stackBytes_setFrames, hl9, hb9]
    refine ⟨⟨⟨⟨by omega, by omega, by omega, by omega, by omega, h6⟩, ?_⟩, ?_⟩, X.book⟩
    · show T.heap.size + R'.cells ≤ e.platform.maxCells
      omega
    · show T.slotsUsed + R'.slots ≤ e.platform.maxSlots
      omega
  · rw [State.stackLimits_setFrames]; rfl
  · rw [State.stackBytes_setFrames]; rfl
  · refine ⟨?_, Nat.le_refl _, Nat.le_refl _, ?_, ?_, fun a c9 h9 => ⟨c9, h9, rfl, rfl, fun _ _ => rfl⟩⟩
    · obtain ⟨t, ht, -⟩ := State.frames_cons hr
      show T.setVm s.vm = { ((T.setVm s.vm).setFrames (.invoking m args :: below)).setFrames (T.setVm s.vm).frames with heap := T.heap, slotsUsed := T.slotsUsed }
      rw [State.setFrames_setFrames, State.setFrames_self ht]
      rfl
    · show T.slotsUsed = T.slotsUsed + ((T.heap.toList.drop T.heap.size).map (·.slots.size)).sum
      rw [List.drop_eq_nil_of_le (Nat.le_of_eq Array.length_toList)]
      rfl
    · show ((T.heap.toList.drop T.heap.size).map (·.slots.size)).sum ≤ 0
      rw [List.drop_eq_nil_of_le (Nat.le_of_eq Array.length_toList)]
      exact Nat.le_refl _
/-- 'throw new E()': new; dup; invokespecial; athrow -/
theorem vx_throw0 {cc : ByteArray} {pc : Nat} (hexec : p.tables.exec = Jvm.exec) (hb : c.code = cc) (hl : l.stackTraces = false) {own cls : String} {names : List String} {ik ic mc ms : Nat} {A : Nat → Prop}
    (hown : s.vm.findClass own = some m.cls) (hcls : Bundle.fit cls = true) (hnames : ∀ n ∈ names, Bundle.fit n = true)
    (hk : (Cond.classLink own ik cls).before args s = true) (hini : (Cond.initialized cls).before args s = true) (hat : ∀ w ∈ vx_at0 own ic cls names, w.before args s = true)
    (hgood : ∀ w ∈ Cond.classLink own ik cls :: Cond.initialized cls :: vx_at0 own ic cls names, vx_ot w = true)
    (hU : vx_Zq Bundle.tN "UNASSIGNED_STACK" Bundle.steD A s s.heap) (hN : vx_Zq Bundle.tN "SUPPRESSED_SENTINEL" Bundle.listD A s s.heap) (hS : va_S A s.heap H locs) (hsize : ls.size = c.maxLocals)
    (d0 : decode cc pc = .ok (.new ik, 3)) (d3 : decode cc (pc + 3) = .ok (.dup, 1)) (d4 : decode cc (pc + 4) = .ok (.invokespecial ic, 3)) (d7 : decode cc (pc + 7) = .ok (.athrow, 1))
    (hout : ∀ x ∈ c.exceptionTable.toList, covers x (pc + 7) = false)
    (hRframes : names.length + 3 < R.frames) (hRlocals : (rest.map fun v => v.category).sum + (13 * (names.length + 1) + 42) ≤ R.locals) (hRcells : cells + 1 ≤ R.cells) (hRslots : slots + 6 ≤ R.slots) (hlocks : meth.locks = false)
    (hx : ∀ t : State, s.vm.Alike t.vm → H.size ≤ t.heap.size → (∀ q : Nat, q < H.size → t.heap[q]? = H[q]?) → XC cls s t)
    (hf : ∀ z ∈ locs, free z.base) (hc : cells + 1 ≤ mc) (hs : slots + 6 ≤ ms) :
    W p l e R s m args below meth c H locs cells slots (vx_MQ below Qc XC args s mc ms free) (F0 m pc ls rest) := by
  intro T hT X
  have htr : e.platform.stackTraces = false := (show e.platform.stackTraces = l.stackTraces by rw [X.admits.platform]).trans hl
  have Y := vx_rebase X (R' := { frames := R.frames, locals := R.locals, cells := 1, slots := 6 }) (Nat.le_refl _) (Nat.le_refl _) hRcells hRslots
  obtain ⟨s', hA⟩ : ∃ z, z = (T.setVm s.vm).setFrames (.invoking m args :: below) := ⟨_, rfl⟩
  rw [← hA] at Y
  have hvm : s'.vm = s.vm := by rw [hA]; rfl
  have hhp : s'.heap = H := by rw [hA]; exact hT
  have hW0 : s.WarmedH s'.vm := by rw [hvm]; exact State.WarmedH.refl s
  have hat' : ∀ w ∈ vx_at0 own ic cls names, w.before args s' = true := fun w hw => vx_ot_at hW0 hvm.symm (hgood w (List.mem_cons_of_mem _ (List.mem_cons_of_mem _ hw))) (hat w hw)
  have hk' : (Cond.classLink own ik cls).before args s' = true := vx_ot_at hW0 hvm.symm (hgood _ List.mem_cons_self) hk
  have hini' : (Cond.initialized cls).before args s' = true := vx_ot_at hW0 hvm.symm (hgood _ (List.mem_cons_of_mem _ List.mem_cons_self)) hini
  have hU' : vx_Zq Bundle.tN "UNASSIGNED_STACK" Bundle.steD A s' s'.heap := by rw [hhp]; exact vx_Zq.moved hW0.alike (hU.kept hS.2.1)
  have hN' : vx_Zq Bundle.tN "SUPPRESSED_SENTINEL" Bundle.listD A s' s'.heap := by rw [hhp]; exact vx_Zq.moved hW0.alike (hN.kept hS.2.1)
  have h : ∀ w ∈ Bundle.ownAtoms0 own ic cls names, w.before args s' = true := vx_own hat' (vx_isRefq hU'.1) (vx_isRefq hN'.1) hU'.2.word hN'.2.word
  have hown' : s'.vm.findClass own = some m.cls := by rw [hvm]; exact hown
  have hins : (Cond.instantiable cls 6).before args s' = true := h _ (by simp [Bundle.ownAtoms0])
  obtain ⟨vm₁, cX, kX, hfX, hkX, -, -, X₁, st1⟩ := Y.newCold hexec (own := own) (C := cls) (index := ik) (n := 6) hown' hk' hins hini'
    (g := F0 m pc ls rest) rfl (by rw [hb]; exact d0) (Nat.le_refl _) (Nat.le_refl _)
  generalize hT1 : (T.setVm vm₁).pushCell { cls := cX, slots := kX.instanceTypes.map defaultValue, vm := .none } = T1 at X₁ st1
  have hcat : (Value.ref T.heap.size).category = 1 := rfl
  have hcellA : T1.heap[T.heap.size]? = some (freshCell cX kX) := by rw [← hT1]; exact State.heap_pushCell_size _ _
  have d3' : decode c.code (pc + 3) = .ok (.dup, 1) := by rw [hb]; exact d3
  obtain ⟨U, hsteps, hrun, hend, hW, hsame, ce, hce, hO⟩ := X₁.ctorThrow0 hexec htr (own := own) (cls := cls) (names := names) (ic := ic) hown' hcls hnames h (fun x hx => nomatch hx) hfX hkX hcellA (by rw [hhp, hT]; exact Nat.le_refl _)
    (g := { method := m, pc := pc + 4, locals := ls, stack := .ref T.heap.size :: .ref T.heap.size :: rest, locked := none }) rfl hsize rfl rfl (rest := rest) rfl
    (by rw [hb]; exact d4) (by rw [hb]; exact d7) hout hRframes (by simp only [List.map_cons, List.sum_cons, hcat]; omega) hlocks
  obtain ⟨f1, f2⟩ := vx_frame hsame
  rw [hhp] at f1 f2
  have hWs : s.WarmedH U.vm := State.WarmedH.trans hW0 hW
  have hcl : s.vm.findClass cls = some ce.cls := by
    have h9 := hO.cls
    rw [hvm] at h9
    exact h9
  have hall : s.sameButNew ({ U with vm := s.vm } : State) locs mc ms := by
    subst hA
    obtain ⟨e1, e2⟩ := hsame
    rw [State.setFrames_setFrames] at e1
    have h2 : (T.setVm s.vm).sameButNew ({ U with vm := s.vm } : State) [] (0 + 1) (0 + 6) := ⟨e1, e2⟩
    have h3 := X.same.trans h2
    rw [List.append_nil] at h3
    exact h3.mono hc hs
  refine ⟨U, ?_, .threw T.heap.size, hrun, hend, Or.inr ⟨T.heap.size, rfl, cls, ce, locs, hx U hWs.alike f1 (fun q hq => f2 q hq (fun z hz => nomatch hz)), hce, hO.vm, hcl, hWs, hall, hf⟩⟩
  refine st1 _ ?_
  show Steps p.tables e below (T1.setTop { method := m, pc := pc + 3, locals := ls, stack := .ref T.heap.size :: rest, locked := none }) _
  jvm_step X₁.here [X₁.here.top, hexec, d3', Value.category]
  exact hsteps
/-- 'throw new E("text")': new; dup; ldc; invokespecial; athrow -/
theorem vx_throwS {cc : ByteArray} {pc : Nat} (hexec : p.tables.exec = Jvm.exec) (hb : c.code = cc) (hl : l.stackTraces = false) {own cls text : String} {names : List String} {ik is ic mc ms sa : Nat} {A : Nat → Prop}
    (hown : s.vm.findClass own = some m.cls) (hcls : Bundle.fit cls = true) (hnames : ∀ n ∈ names, Bundle.fit n = true)
    (hk : (Cond.classLink own ik cls).before args s = true) (hini : (Cond.initialized cls).before args s = true) (hstr : vk_R own is text sa s) (hat : ∀ w ∈ vx_atS own ic cls names, w.before args s = true)
    (hgood : ∀ w ∈ Cond.classLink own ik cls :: Cond.initialized cls :: vx_atS own ic cls names, vx_ot w = true)
    (hU : vx_Zq Bundle.tN "UNASSIGNED_STACK" Bundle.steD A s s.heap) (hN : vx_Zq Bundle.tN "SUPPRESSED_SENTINEL" Bundle.listD A s s.heap) (hS : va_S A s.heap H locs) (hsize : ls.size = c.maxLocals)
    (d0 : decode cc pc = .ok (.new ik, 3)) (d3 : decode cc (pc + 3) = .ok (.dup, 1)) (d4 : decode cc (pc + 4) = .ok (.ldc is, 2)) (d6 : decode cc (pc + 6) = .ok (.invokespecial ic, 3)) (d9 : decode cc (pc + 9) = .ok (.athrow, 1))
    (hout : ∀ x ∈ c.exceptionTable.toList, covers x (pc + 9) = false)
    (hRframes : names.length + 3 < R.frames) (hRlocals : (rest.map fun v => v.category).sum + (13 * (names.length + 1) + 43) ≤ R.locals) (hRcells : cells + 1 ≤ R.cells) (hRslots : slots + 6 ≤ R.slots) (hlocks : meth.locks = false)
    (hx : ∀ t : State, s.vm.Alike t.vm → H.size ≤ t.heap.size → (∀ q : Nat, q < H.size → t.heap[q]? = H[q]?) → XC cls s t)
    (hf : ∀ z ∈ locs, free z.base) (hc : cells + 1 ≤ mc) (hs : slots + 6 ≤ ms) :
    W p l e R s m args below meth c H locs cells slots (vx_MQ below Qc XC args s mc ms free) (F0 m pc ls rest) := by
  intro T hT X
  have htr : e.platform.stackTraces = false := (show e.platform.stackTraces = l.stackTraces by rw [X.admits.platform]).trans hl
  have Y := vx_rebase X (R' := { frames := R.frames, locals := R.locals, cells := 1, slots := 6 }) (Nat.le_refl _) (Nat.le_refl _) hRcells hRslots
  obtain ⟨s', hA⟩ : ∃ z, z = (T.setVm s.vm).setFrames (.invoking m args :: below) := ⟨_, rfl⟩
  rw [← hA] at Y
  have hvm : s'.vm = s.vm := by rw [hA]; rfl
  have hhp : s'.heap = H := by rw [hA]; exact hT
  have hW0 : s.WarmedH s'.vm := by rw [hvm]; exact State.WarmedH.refl s
  have hat' : ∀ w ∈ vx_atS own ic cls names, w.before args s' = true := fun w hw => vx_ot_at hW0 hvm.symm (hgood w (List.mem_cons_of_mem _ (List.mem_cons_of_mem _ hw))) (hat w hw)
  have hk' : (Cond.classLink own ik cls).before args s' = true := vx_ot_at hW0 hvm.symm (hgood _ List.mem_cons_self) hk
  have hini' : (Cond.initialized cls).before args s' = true := vx_ot_at hW0 hvm.symm (hgood _ (List.mem_cons_of_mem _ List.mem_cons_self)) hini
  have hU' : vx_Zq Bundle.tN "UNASSIGNED_STACK" Bundle.steD A s' s'.heap := by rw [hhp]; exact vx_Zq.moved hW0.alike (hU.kept hS.2.1)
  have hN' : vx_Zq Bundle.tN "SUPPRESSED_SENTINEL" Bundle.listD A s' s'.heap := by rw [hhp]; exact vx_Zq.moved hW0.alike (hN.kept hS.2.1)
  have h : ∀ w ∈ Bundle.ownAtoms own ic cls names, w.before args s' = true := vx_own hat' (vx_isRefq hU'.1) (vx_isRefq hN'.1) hU'.2.word hN'.2.word
  have hown' : s'.vm.findClass own = some m.cls := by rw [hvm]; exact hown
  have hins : (Cond.instantiable cls 6).before args s' = true := h _ (by simp [Bundle.ownAtoms])
  obtain ⟨vm₁, cX, kX, hfX, hkX, -, -, X₁, st1⟩ := Y.newCold hexec (own := own) (C := cls) (index := ik) (n := 6) hown' hk' hins hini'
    (g := F0 m pc ls rest) rfl (by rw [hb]; exact d0) (Nat.le_refl _) (Nat.le_refl _)
  generalize hT1 : (T.setVm vm₁).pushCell { cls := cX, slots := kX.instanceTypes.map defaultValue, vm := .none } = T1 at X₁ st1
  have hcat : (Value.ref T.heap.size).category = 1 := rfl
  have hcellA : T1.heap[T.heap.size]? = some (freshCell cX kX) := by rw [← hT1]; exact State.heap_pushCell_size _ _
  have d3' : decode c.code (pc + 3) = .ok (.dup, 1) := by rw [hb]; exact d3
  have d4' : decode c.code (pc + 4) = .ok (.ldc is, 2) := by rw [hb]; exact d4
  have hstr' : vk_R own is text sa s' := vk_R.warm hW0 hstr
  obtain ⟨U, hsteps, hrun, hend, hW, hsame, ce, hce, hO⟩ := X₁.ctorThrowS hexec htr (own := own) (cls := cls) (names := names) (ic := ic) hown' hcls hnames h (fun x hx => nomatch hx) hfX hkX hcellA (by rw [hhp, hT]; exact Nat.le_refl _) (msg := .ref sa) rfl
    (g := { method := m, pc := pc + 6, locals := ls, stack := .ref sa :: .ref T.heap.size :: .ref T.heap.size :: rest, locked := none }) rfl hsize rfl rfl (rest := rest) rfl
    (by rw [hb]; exact d6) (by rw [hb]; exact d9) hout hRframes (by simp only [List.map_cons, List.sum_cons, hcat]; omega) hlocks
  obtain ⟨f1, f2⟩ := vx_frame hsame
  rw [hhp] at f1 f2
  have hWs : s.WarmedH U.vm := State.WarmedH.trans hW0 hW
  have hcl : s.vm.findClass cls = some ce.cls := by
    have h9 := hO.cls
    rw [hvm] at h9
    exact h9
  have hall : s.sameButNew ({ U with vm := s.vm } : State) locs mc ms := by
    subst hA
    obtain ⟨e1, e2⟩ := hsame
    rw [State.setFrames_setFrames] at e1
    have h2 : (T.setVm s.vm).sameButNew ({ U with vm := s.vm } : State) [] (0 + 1) (0 + 6) := ⟨e1, e2⟩
    have h3 := X.same.trans h2
    rw [List.append_nil] at h3
    exact h3.mono hc hs
  refine ⟨U, ?_, .threw T.heap.size, hrun, hend, Or.inr ⟨T.heap.size, rfl, cls, ce, locs, hx U hWs.alike f1 (fun q hq => f2 q hq (fun z hz => nomatch hz)), hce, hO.vm, hcl, hWs, hall, hf⟩⟩
  refine st1 _ ?_
  show Steps p.tables e below (T1.setTop { method := m, pc := pc + 3, locals := ls, stack := .ref T.heap.size :: rest, locked := none }) _
  jvm_step X₁.here [X₁.here.top, hexec, d3', Value.category]
  exact X₁.ldcString hexec (own := own) (text := text) (index := is) (a := sa) hown' hstr'.1 hstr'.2
    (g := { method := m, pc := pc + 4, locals := ls, stack := .ref T.heap.size :: .ref T.heap.size :: rest, locked := none }) rfl d4' _ hsteps
/-- 'throw new E("text")', the text by a wide index -/
theorem vx_throwSW {cc : ByteArray} {pc : Nat} (hexec : p.tables.exec = Jvm.exec) (hb : c.code = cc) (hl : l.stackTraces = false) {own cls text : String} {names : List String} {ik is ic mc ms sa : Nat} {A : Nat → Prop}
    (hown : s.vm.findClass own = some m.cls) (hcls : Bundle.fit cls = true) (hnames : ∀ n ∈ names, Bundle.fit n = true)
    (hk : (Cond.classLink own ik cls).before args s = true) (hini : (Cond.initialized cls).before args s = true) (hstr : vk_R own is text sa s) (hat : ∀ w ∈ vx_atS own ic cls names, w.before args s = true)
    (hgood : ∀ w ∈ Cond.classLink own ik cls :: Cond.initialized cls :: vx_atS own ic cls names, vx_ot w = true)
    (hU : vx_Zq Bundle.tN "UNASSIGNED_STACK" Bundle.steD A s s.heap) (hN : vx_Zq Bundle.tN "SUPPRESSED_SENTINEL" Bundle.listD A s s.heap) (hS : va_S A s.heap H locs) (hsize : ls.size = c.maxLocals)
    (d0 : decode cc pc = .ok (.new ik, 3)) (d3 : decode cc (pc + 3) = .ok (.dup, 1)) (d4 : decode cc (pc + 4) = .ok (.ldc_w is, 3)) (d7 : decode cc (pc + 7) = .ok (.invokespecial ic, 3)) (d10 : decode cc (pc + 10) = .ok (.athrow, 1))
    (hout : ∀ x ∈ c.exceptionTable.toList, covers x (pc + 10) = false)
    (hRframes : names.length + 3 < R.frames) (hRlocals : (rest.map fun v => v.category).sum + (13 * (names.length + 1) + 43) ≤ R.locals) (hRcells : cells + 1 ≤ R.cells) (hRslots : slots + 6 ≤ R.slots) (hlocks : meth.locks = false)
    (hx : ∀ t : State, s.vm.Alike t.vm → H.size ≤ t.heap.size → (∀ q : Nat, q < H.size → t.heap[q]? = H[q]?) → XC cls s t)
    (hf : ∀ z ∈ locs, free z.base) (hc : cells + 1 ≤ mc) (hs : slots + 6 ≤ ms) :
    W p l e R s m args below meth c H locs cells slots (vx_MQ below Qc XC args s mc ms free) (F0 m pc ls rest) := by
  intro T hT X
  have htr : e.platform.stackTraces = false := (show e.platform.stackTraces = l.stackTraces by rw [X.admits.platform]).trans hl
  have Y := vx_rebase X (R' := { frames := R.frames, locals := R.locals, cells := 1, slots := 6 }) (Nat.le_refl _) (Nat.le_refl _) hRcells hRslots
  obtain ⟨s', hA⟩ : ∃ z, z = (T.setVm s.vm).setFrames (.invoking m args :: below) := ⟨_, rfl⟩
  rw [← hA] at Y
  have hvm : s'.vm = s.vm := by rw [hA]; rfl
  have hhp : s'.heap = H := by rw [hA]; exact hT
  have hW0 : s.WarmedH s'.vm := by rw [hvm]; exact State.WarmedH.refl s
  have hat' : ∀ w ∈ vx_atS own ic cls names, w.before args s' = true := fun w hw => vx_ot_at hW0 hvm.symm (hgood w (List.mem_cons_of_mem _ (List.mem_cons_of_mem _ hw))) (hat w hw)
  have hk' : (Cond.classLink own ik cls).before args s' = true := vx_ot_at hW0 hvm.symm (hgood _ List.mem_cons_self) hk
  have hini' : (Cond.initialized cls).before args s' = true := vx_ot_at hW0 hvm.symm (hgood _ (List.mem_cons_of_mem _ List.mem_cons_self)) hini
  have hU' : vx_Zq Bundle.tN "UNASSIGNED_STACK" Bundle.steD A s' s'.heap := by rw [hhp]; exact vx_Zq.moved hW0.alike (hU.kept hS.2.1)
  have hN' : vx_Zq Bundle.tN "SUPPRESSED_SENTINEL" Bundle.listD A s' s'.heap := by rw [hhp]; exact vx_Zq.moved hW0.alike (hN.kept hS.2.1)
  have h : ∀ w ∈ Bundle.ownAtoms own ic cls names, w.before args s' = true := vx_own hat' (vx_isRefq hU'.1) (vx_isRefq hN'.1) hU'.2.word hN'.2.word
  have hown' : s'.vm.findClass own = some m.cls := by rw [hvm]; exact hown
  have hins : (Cond.instantiable cls 6).before args s' = true := h _ (by simp [Bundle.ownAtoms])
  obtain ⟨vm₁, cX, kX, hfX, hkX, -, -, X₁, st1⟩ := Y.newCold hexec (own := own) (C := cls) (index := ik) (n := 6) hown' hk' hins hini'
    (g := F0 m pc ls rest) rfl (by rw [hb]; exact d0) (Nat.le_refl _) (Nat.le_refl _)
  generalize hT1 : (T.setVm vm₁).pushCell { cls := cX, slots := kX.instanceTypes.map defaultValue, vm := .none } = T1 at X₁ st1
  have hcat : (Value.ref T.heap.size).category = 1 := rfl
  have hcellA : T1.heap[T.heap.size]? = some (freshCell cX kX) := by rw [← hT1]; exact State.heap_pushCell_size _ _
  have d3' : decode c.code (pc + 3) = .ok (.dup, 1) := by rw [hb]; exact d3
  have d4' : decode c.code (pc + 4) = .ok (.ldc_w is, 3) := by rw [hb]; exact d4
  have hstr' : vk_R own is text sa s' := vk_R.warm hW0 hstr
  obtain ⟨U, hsteps, hrun, hend, hW, hsame, ce, hce, hO⟩ := X₁.ctorThrowS hexec htr (own := own) (cls := cls) (names := names) (ic := ic) hown' hcls hnames h (fun x hx => nomatch hx) hfX hkX hcellA (by rw [hhp, hT]; exact Nat.le_refl _) (msg := .ref sa) rfl
    (g := { method := m, pc := pc + 7, locals := ls, stack := .ref sa :: .ref T.heap.size :: .ref T.heap.size :: rest, locked := none }) rfl hsize rfl rfl (rest := rest) rfl
    (by rw [hb]; exact d7) (by rw [hb]; exact d10) hout hRframes (by simp only [List.map_cons, List.sum_cons, hcat]; omega) hlocks
  obtain ⟨f1, f2⟩ := vx_frame hsame
  rw [hhp] at f1 f2
  have hWs : s.WarmedH U.vm := State.WarmedH.trans hW0 hW
  have hcl : s.vm.findClass cls = some ce.cls := by
    have h9 := hO.cls
    rw [hvm] at h9
    exact h9
  have hall : s.sameButNew ({ U with vm := s.vm } : State) locs mc ms := by
    subst hA
    obtain ⟨e1, e2⟩ := hsame
    rw [State.setFrames_setFrames] at e1
    have h2 : (T.setVm s.vm).sameButNew ({ U with vm := s.vm } : State) [] (0 + 1) (0 + 6) := ⟨e1, e2⟩
    have h3 := X.same.trans h2
    rw [List.append_nil] at h3
    exact h3.mono hc hs
  refine ⟨U, ?_, .threw T.heap.size, hrun, hend, Or.inr ⟨T.heap.size, rfl, cls, ce, locs, hx U hWs.alike f1 (fun q hq => f2 q hq (fun z hz => nomatch hz)), hce, hO.vm, hcl, hWs, hall, hf⟩⟩
  refine st1 _ ?_
  show Steps p.tables e below (T1.setTop { method := m, pc := pc + 3, locals := ls, stack := .ref T.heap.size :: rest, locked := none }) _
  jvm_step X₁.here [X₁.here.top, hexec, d3', Value.category]
  exact X₁.ldcStringW hexec (own := own) (text := text) (index := is) (a := sa) hown' hstr'.1 hstr'.2
    (g := { method := m, pc := pc + 4, locals := ls, stack := .ref T.heap.size :: .ref T.heap.size :: rest, locked := none }) rfl d4' _ hsteps
end Ends
section Bodies
variable {l : Launch}
theorem vx_ofW {y : MethodName} {ws ws' : List Cond} {rm : Room} {Pc : Array Value → State → Prop} {Qc : Array Value → State → Outcome → State → Prop} {XC : String → State → State → Prop} {mc ms : Nat} {free : Addr → Prop} {cc : ByteArray} {maxL : Nat} {ret : Option FieldType}
    (hy : plainName y.cls = true) (hw : ws = Cond.code y cc maxL ret :: ws')
    (body : ∀ p e s m args below meth c s₁, BodyLoose p l y (headSpec ws rm) cc maxL ret e s m args below meth c s₁ → c.maxLocals = maxL → (∀ x ∈ c.exceptionTable.toList, False) → Pc args s →
      W p l e (headSpec ws rm).room s m args below meth c s.heap [] 0 0 (vx_MQ below Qc XC args s mc ms free) (entryFrame m args maxL)) : vx_Met l y ws rm Pc Qc XC mc ms free := by
  refine MetFree.of_bodyS (code := cc) (maxLocals := maxL) (ret := ret) hy ?_ ?_
  · intro args s m h hn
    obtain ⟨meth, c, h1, h2, h3, h4, h5, h6, -, -⟩ := Cond.code_spec hn (atoms_spec (ws := ws) h _ (by rw [hw]; exact List.mem_cons_self))
    exact ⟨meth, c, h1, h2, h3, h4, h5, h6⟩
  · intro p e s m args below meth c s₁ B hml hP _
    have hh0 : s₁.heap = s.heap := by rw [B.state]; rfl
    have ht : ∀ x ∈ c.exceptionTable.toList, False := by
      obtain ⟨meth9, c9, h1, h2, -, -, -, -, h7, -⟩ := Cond.code_spec B.named (atoms_spec (ws := ws) B.pre _ (by rw [hw]; exact List.mem_cons_self))
      cases Option.some.inj (h1.symm.trans B.method)
      cases Option.some.inj (h2.symm.trans (Stand.of_body B).code)
      intro x hx
      rw [Array.isEmpty_iff.mp h7] at hx
      cases hx
    obtain ⟨t, a1, o, b1, b2, b3⟩ := body p e s m args below meth c s₁ B hml ht hP s₁ hh0 (Stand.of_body B)
    exact ⟨t, o, a1, b1, b2, b3⟩
/-- the table of a body with handlers -/
theorem vx_table {p : Program} {x y : MethodName} {S : Spec} {cc bytes : ByteArray} {maxL maxL' : Nat} {ret ret' : Option FieldType} {e : Env} {s s₁ : State} {m : MethodId} {args : Array Value} {below : List Frame} {meth : Method} {c : Code} {hh : List (Nat × Nat × Nat × Nat)}
    (B : BodyLoose p l y S cc maxL ret e s m args below meth c s₁) (h : (Cond.codeWith y bytes maxL' ret' hh).before args s = true) : c.exceptionTable.toList = tableOf hh := by
  obtain ⟨m9, meth9, c9, hn9, h1, h2, -, -, h6, -⟩ := Cond.codeWith_spec h
  cases Option.some.inj (hn9.symm.trans B.named)
  cases Option.some.inj (h1.symm.trans B.method)
  cases Option.some.inj (h2.symm.trans (Stand.of_body B).code)
  rw [← h6, table_eq]
end Bodies
end VXA
/-! ===== END ===== -/
/-! ===== BEGIN a static call of a method with an exception table ===== -/
section VXS
variable {p : Program} {l : Launch} {e : Env} {R : Room} {s : State} {m : MethodId} {args : Array Value} {below : List Frame} {meth : Method} {c : Code} {T : State} {H : Heap} {locs : List Loc} {cells slots : Nat}
abbrev vx_CSW (R : Room) (s : State) (args : Array Value) (own : String) (index : Nat) (y : MethodName) (bytes : ByteArray) (maxL : Nat) (ret : Option FieldType) (hh : List (Nat × Nat × Nat × Nat)) (ws : List Cond) (rm : Room) (mc ms n : Nat) : Prop :=
  (rm.cells = mc ∧ rm.slots = ms ∧ rm.frames + 1 ≤ R.frames ∧ 8 + (maxL + 11) + rm.locals ≤ R.locals ∧ (∀ w ∈ ws, ∀ (a' : Array Value) (U : State), s.WarmedH U.vm → w.before a' U = true) ∧ Cond.codeWith y bytes maxL ret hh ∈ ws) ∧
  (Cond.codeWith y bytes maxL ret hh).before args s = true ∧ (Cond.initialized y.cls).before args s = true ∧ (y.cls ≠ "java/lang/invoke/MethodHandle" ∧ y.cls ≠ "java/lang/invoke/VarHandle") ∧
  (∀ sig, parseMethodDescriptor y.desc = some sig → n = sig.parameters.length) ∧ (Cond.methodLink own index y).before args s = true ∧ (Cond.static y).before args s = true
theorem vx_cwSW {own : String} {index maxL mc ms : Nat} {y : MethodName} {bytes : ByteArray} {ret : Option FieldType} {hh : List (Nat × Nat × Nat × Nat)} {Ts ws ws' : List Cond} {rm : Room} (n : Nat) (ht : ∀ w ∈ Ts, w.before args s = true) (hT : GoodIn Ts (va_wsS own index y ws)) (hw : ws = Cond.codeWith y bytes maxL ret hh :: ws') (hrc : rm.cells = mc) (hrs : rm.slots = ms)
    (hd : y.cls ≠ "java/lang/invoke/MethodHandle" ∧ y.cls ≠ "java/lang/invoke/VarHandle" ∧ (parseMethodDescriptor y.desc).map (fun d => d.parameters.length) = some n) (hR : rm.frames + 1 ≤ R.frames ∧ 8 + (maxL + 11) + rm.locals ≤ R.locals) :
    vx_CSW R s args own index y bytes maxL ret hh ws rm mc ms n := by
  have ok : ∀ w ∈ va_wsS own index y ws, w.before args s = true := fun w h => ht w (hT w h).1
  have hG : GoodIn Ts ws := fun w h => hT w (by unfold va_wsS; exact List.mem_append_right _ h)
  have hc : Cond.codeWith y bytes maxL ret hh ∈ ws := by rw [hw]; exact List.mem_cons_self
  refine ⟨⟨hrc, hrs, hR.1, hR.2, pay_in ht hG, hc⟩, ht _ (hG _ hc).1, ok _ (by simp [va_wsS]), ⟨hd.1, hd.2.1⟩, fun sig h => ?_, ok _ (by simp [va_wsS]), ok _ (by simp [va_wsS])⟩
  have h2 := hd.2.2
  rw [h] at h2
  exact (Option.some.inj h2).symm
theorem vx_callSW (X : Stand p l e R s m args below meth c T locs cells slots) (hexec : p.tables.exec = Jvm.exec) {own : String} {index : Nat} {y : MethodName} {bytes : ByteArray} {maxL : Nat} {ret : Option FieldType} {hh : List (Nat × Nat × Nat × Nat)}
    (hown : s.vm.findClass own = some m.cls) (hlink : (Cond.methodLink own index y).before args s = true) (hstat : (Cond.static y).before args s = true) (hinit : (Cond.initialized y.cls).before args s = true)
    (hcode : (Cond.codeWith y bytes maxL ret hh).before args s = true) (hy : y.cls ≠ "java/lang/invoke/MethodHandle" ∧ y.cls ≠ "java/lang/invoke/VarHandle")
    {W9 : Nat} {Pre : Pt → Array Value → Prop} {Post : Pt → Array Value → Option Value → Pt → Prop} (hK : Back l R p e below s args y 3 W9 Pre Post)
    {g : JFrame} (hg : g.method = m) (hsize : g.locals.size = c.maxLocals) {argsL rest : List Value} (hlen : ∀ sig, parseMethodDescriptor y.desc = some sig → argsL.length = sig.parameters.length)
    (hstack : g.stack = argsL.reverse ++ rest) (hW : 2 * g.monitorRoom + (rest.map fun v => v.category).sum ≤ W9) (hdg : decode c.code g.pc = .ok (.invokestatic index, 3))
    (hpre : ∀ vm₁, s.WarmedH vm₁ → Pre ⟨T.setVm vm₁, locs, cells, slots⟩ argsL.toArray) :
    ∃ (v : Option Value) (vm₁ : Vm) (B : Pt), s.WarmedH vm₁ ∧ Stand p l e R s m args below meth c B.U B.locs B.cells B.slots ∧ Post ⟨T.setVm vm₁, locs, cells, slots⟩ argsL.toArray v B ∧
      ∀ target, Steps p.tables e below (B.U.setTop { g with pc := g.pc + 3, stack := v.toList ++ rest }) target → Steps p.tables e below (T.setTop g) target := by
  obtain ⟨mk, methM, cM, hnamed, hmethM, -, -, -, -, -, -, hsigM⟩ := Cond.codeWith_spec hcode
  have hstatic : methM.isStatic = true := Cond.static_spec hnamed hmethM hstat
  obtain ⟨kP, hkP, -⟩ := className_of_methodNamed hnamed
  have hinitP : kP.init = .initialized := Cond.initialized_spec (findClass_of_methodNamed hnamed) hkP hinit
  obtain ⟨vm₁, X₁, hstep₁⟩ := X.invokestatic hexec hown hlink hnamed hmethM hstatic hkP hinitP hy (g := g) hg (argsL := argsL) (rest := rest) (hlen _ hsigM) hstack hdg
  obtain ⟨v, B, X', hpost, hsteps⟩ := hK m meth c ⟨T.setVm vm₁, locs, cells, slots⟩ { g with stack := rest } (.invokestatic index) mk argsL.toArray X₁ hg hsize hdg hW (X₁.named hnamed) (hpre vm₁ X₁.warmed)
  exact ⟨v, vm₁, B, X₁.warmed, X', hpost, fun target h => hstep₁ _ fun acts => by rw [doInvoke_state]; exact hsteps.trans h⟩
theorem vx_runSW {y : MethodName} {bytes cc : ByteArray} {maxL nL mc ms n index : Nat} {ret : Option FieldType} {hh : List (Nat × Nat × Nat × Nat)} {ws : List Cond} {rm : Room} {Pc : Array Value → State → Prop} {Qc : Array Value → State → Outcome → State → Prop} {free : Addr → Prop} {Ts : List Cond} {own : String} {As rest : List Value} {g : JFrame}
    (S : CallFix p m c cc nL s args Ts own) (hM : Met l y ws rm Pc Qc mc ms free) (cw : vx_CSW R s args own index y bytes maxL ret hh ws rm mc ms n) (hp : PreS s H Pc As)
    (hg : g.method = m) (hn : As.length = n) (hsize : g.locals.size = nL) (hstack : g.stack = As.reverse ++ rest) (hW : 2 * g.monitorRoom + (rest.map fun v => v.category).sum ≤ 8) (hdg : decode cc g.pc = .ok (.invokestatic index, 3)) (hf : cells + mc ≤ R.cells ∧ slots + ms ≤ R.slots) :
    va_Run p l e R s m args below meth c H locs cells slots mc ms g rest (Qc As.toArray) (free) := by
  obtain ⟨⟨hrc, hrs, hfr, hlo, hws, hcw⟩, hcode, hini, hy, hlen, hl, hstt⟩ := cw
  have hK : Back l R p e below s args y 3 8 (PreOf R mc ms Pc) (PostOf Qc mc ms free) := va_backW (hh := hh) (bytes := bytes) (maxL := maxL) (ret := ret) hM hp.1 hrc hrs hfr hlo hws hcw (fun a' U hW => word_at hW (Or.inl (by first | rfl | simp [Cond.onTables, Cond.keeps, Cond.steady])) hini)
  obtain ⟨hx, hb, hml, ho, -⟩ := S
  intro T hT X
  obtain ⟨v, vm₁, ⟨U', l2, c2, s2⟩, hW₁, X', ⟨g', mk, t, L, e1, e2, hq, h1, hL, h2, h3⟩, st⟩ := vx_callSW X hx (hh := hh) (bytes := bytes) (maxL := maxL) (ret := ret) ho hl hstt hini hcode hy hK hg (hsize.trans hml.symm) (argsL := As) (rest := rest) (fun sig h => hn.trans (hlen sig h)) hstack hW (by rw [hb]; exact hdg)
    (fun vm₁ hW₁ => ⟨hf.1, hf.2, hp.2 (T.setVm vm₁) hT hW₁⟩)
  dsimp only [Pt.U, Pt.locs, Pt.cells, Pt.slots] at X' e1 e2 h1 h2 h3 st
  subst h1; subst h2; subst h3
  exact ⟨v, (T.setVm vm₁).calling g' mk As.toArray, t, U', L, hT, X', hL, e1, e2, hq, st⟩
/-- not caught here, past rows that name other classes: it goes on to the caller -/
theorem vx_outP {p : Program} {l : Launch} {e : Env} {R : Room} {s : State} {m : MethodId} {args : Array Value} {below : List Frame} {meth : Method} {c : Code} {H : Heap} {locs : List Loc} {cells slots : Nat} {free : Addr → Prop} {ls : Array Slot} {rest : List Value} {Qc : Array Value → State → Outcome → State → Prop} {XC : String → State → State → Prop}
    {pc : Nat} {own E : String} {ce : Cell} {q : Addr} {mc ms : Nat} (hown : s.vm.findClass own = some m.cls) (hlocks : meth.locks = false)
    (hpass : ∀ z ∈ c.exceptionTable.toList, covers z pc = false ∨ (z.catchType ≠ 0 ∧ ∃ nm : String, (Cond.classLink own z.catchType nm).before args s = true ∧ va_Nc E nm s)) (hcell : H[q]? = some ce) (hv : ce.vm = .none) (hcl : s.vm.findClass E = some ce.cls)
    (hx : ∀ t : State, t.heap = H → s.vm.Alike t.vm → XC E s t) (hf : ∀ z ∈ locs, free z.base) (hc : cells ≤ mc) (hs : slots ≤ ms) :
    vx_W p l e R s m args below meth c H locs cells slots (vx_MQ below Qc XC args s mc ms free) (F0 m pc ls rest) q := by
  intro T hT X
  have hpl : e.platform.magicAccessors = ({} : Platform).magicAccessors := by rw [X.admits.platform]
  obtain ⟨vm', hW', X', st⟩ := X.outThrough hlocks q (g := F0 m pc ls rest) rfl rfl rfl (cell := ce) (by rw [hT]; exact hcell) (by rw [hv]; rfl)
    (by obtain ⟨k9, h9, -⟩ := Vm.findClass_spec hcl; exact ⟨k9, h9⟩) (fun z hz => by
      rcases hpass z hz with h | ⟨hz0, nm, hl1, hn1⟩
      · exact Or.inl h
      · obtain ⟨c6, hc6, hcl6⟩ := Cond.classLink_spec hown hl1 e.platform hpl
        obtain ⟨a8, b8, h1, h2, h3⟩ := hn1
        cases Option.some.inj (h1.symm.trans hcl)
        cases Option.some.inj (h2.symm.trans hc6)
        exact Or.inr ⟨hz0, _, hcl6, h3⟩)
  obtain ⟨g₀, hfr⟩ := X'.frames_eq
  have hcell9 : ((T.setVm vm').setFrames (.throwing q :: below)).heap[q]? = some ce := by
    show T.heap[q]? = some ce
    rw [hT]; exact hcell
  have hend : Ended ((T.setVm vm').setFrames (.throwing q :: below)) below (.threw q) := State.frames_setFrames _ (State.cur_lt_of_frames hfr)
  refine ⟨(T.setVm vm').setFrames (.throwing q :: below), ?_, .threw q, X'.here.running, hend, Or.inr ⟨q, rfl, E, ce, locs, hx _ hT (X'.ends _).1.alike, hcell9, hv, hcl, (X'.ends _).1, (X'.ends _).2.mono hc hs, hf⟩⟩
  rw [X.pushThrowing_eq]
  exact st
/-- a thing of a world lies in the heap -/
theorem vx_lt {D : va_G} {cl : List vw_C} {ws : va_W} {H1 : Heap} (h : va_P D cl ws H1) {k : Nat} {q : Nat × va_E} (hk : ws[k]? = some q) : q.1 < H1.size := (h k q hk).lt
end VXS
/-! ===== END ===== -/
/-! ===== BEGIN methods with a table of their own: called by a name, returning or throwing ===== -/
section VXH
/-! vx_backW, vx_callVX, vx_callSX, vx_callVW, vx_runVW, vx_runVX, vx_runSX, vx_ofWH follow the same proofs as their sisters above (Free/Laws.lean, Shelf42/LK1.lean); vx_outP calls Shelf42/NT130.lean (outThrough). -/
section
variable {l : Launch} {R : Room} {p : Program} {e : Env} {below : List Frame} {s : State} {sargs : Array Value} {y : MethodName} {len W9 : Nat}
theorem vx_backW {ws : List Cond} {rm : Room} {Pc : Array Value → State → Prop} {Qc : Array Value → State → Outcome → State → Prop} {XC : String → State → State → Prop} {mc ms : Nat} {free : Addr → Prop} {bytes : ByteArray} {maxL : Nat} {ret : Option FieldType} {hh : List (Nat × Nat × Nat × Nat)}
    (hM : vx_Met l y ws rm Pc Qc XC mc ms free) (hblind : FrameBlind Pc) (hrc : rm.cells = mc) (hrs : rm.slots = ms)
    (hframes : rm.frames + 1 ≤ R.frames) (hlocals : W9 + (maxL + 11) + rm.locals ≤ R.locals)
    (hws : ∀ w ∈ ws, ∀ a' U, s.WarmedH U.vm → w.before a' U = true) (hcode : Cond.codeWith y bytes maxL ret hh ∈ ws) (hinit : ∀ a' U, s.WarmedH U.vm → (Cond.initialized y.cls).before a' U = true) :
    vx_Back l R p e below s sargs y len W9 (PreOf R mc ms Pc) (PostOf Qc mc ms free) (vx_Post XC mc ms free) := by
  intro m meth c A g ig mk a X hg hsize hdg hW hn hp
  have h1 : (headSpec ws rm).pre.before a A.U = true := atoms_intro fun w hw => hws w hw _ _ X.warmed
  have h2 : (Cond.codeWith y bytes maxL ret hh).before a A.U = true := hws _ hcode _ _ X.warmed
  have h3 : (Cond.initialized y.cls).before a A.U = true := hinit _ _ X.warmed
  have h4 : A.cells + (headSpec ws rm).room.cells ≤ R.cells := by rw [show (headSpec ws rm).room.cells = mc from hrc]; exact hp.1
  have h5 : A.slots + (headSpec ws rm).room.slots ≤ R.slots := by rw [show (headSpec ws rm).room.slots = ms from hrs]; exact hp.2.1
  have hPc : Pc a (A.U.calling g mk a) := hblind _ _ _ _ hp.2.2
  obtain ⟨U, Ls, c0, s0⟩ := A
  dsimp only [Pt.U, Pt.locs, Pt.cells, Pt.slots] at h1 h2 h3 h4 h5 X hn hPc ⊢
  obtain ⟨m9, methY, cY, hn9, hmY, hcY, -, hlY, -⟩ := Cond.codeWith_spec h2
  cases Option.some.inj (hn9.symm.trans hn)
  obtain ⟨kY, hkY, -⟩ := className_of_methodNamed hn
  have hinitY : kY.init = .initialized := Cond.initialized_spec (findClass_of_methodNamed hn) hkY h3
  have h : At U g.method c below := by rw [hg]; exact X.here
  have hlocals9 : W9 + (maxL + 11) + (headSpec ws rm).room.locals ≤ R.locals := hlocals
  have happ : (headSpec ws rm).appliesLoose y e.platform (U.calling g mk a) = true :=
    Spec.appliesLoose_calling (g := g) h hdg hn hkY hinitY
      (X.room_calling (g := g) (R' := (headSpec ws rm).room) hsize hmY hcY hframes (by rw [hlY]; omega) h4 h5) h1
  obtain ⟨mid, hmid⟩ := h.above
  have hfr : (U.setTop g).frames = (.java g :: mid) ++ below := by rw [State.frames_setTop' g h.top, hmid]; rfl
  obtain ⟨o, s₂, hsteps, -, hend, hq⟩ := Steps.callFree hM p X.admits X.cas X.clock (acts := []) hfr happ hPc trivial
  have hq' : vx_Q Qc XC mc ms free a (U.calling g mk a) o s₂ := hq
  rw [State.frames_setTop' g h.top] at hend
  obtain ⟨g₀, hg0⟩ := Option.isSome_iff_exists.mp h.top
  obtain ⟨r, hr⟩ := State.topJava?_eq_some.mp hg0
  have hr' : (({ U with heap := s₂.heap, slotsUsed := s₂.slotsUsed } : State).setVm s₂.vm).frames = .java g₀ :: r := hr
  rcases hq' with ⟨hqc, L, hfe, hL⟩ | ⟨q, rfl, E, ce, L, hx, hce, hcv, hcl, hW₂, hsm, hL⟩
  · obtain ⟨⟨v, rfl⟩, hW₂, e2, q2, q3, q4, q5, q6⟩ := id hfe
    have e3 : s₂ = ({ (U.calling g mk a).setFrames s₂.frames with heap := s₂.heap, slotsUsed := s₂.slotsUsed } : State).setVm s₂.vm := by
      have : s₂ = ({ s₂ with vm := (U.calling g mk a).vm } : State).setVm s₂.vm := rfl
      rw [e2] at this
      exact this
    obtain ⟨c₂, i₂, len₂, hc₂, hd₂, hf₂⟩ := hend
    have hW' : U.WarmedH s₂.vm := hW₂
    have hcc : c₂ = c := by
      have h1 : s₂.code? g.method = U.code? g.method := by
        rw [State.code?_eq, State.code?_eq, hW'.alike.method?]
      exact Option.some.inj (hc₂.symm.trans (h1.trans h.code))
    subst hcc
    have hlen : len₂ = len := by rw [hdg] at hd₂; cases hd₂; rfl
    subst hlen
    have hs₂ : s₂ = (({ U with heap := s₂.heap, slotsUsed := s₂.slotsUsed } : State).setVm s₂.vm).setTop { g with pc := g.pc + len₂, stack := v.toList ++ g.stack } := by
      refine e3.trans ?_
      rw [hf₂, State.calling_eq h.top, State.setFrames_setFrames, State.setTop_of_frames _ hr', hr]
      rfl
    have hsame : U.sameButNew ({ U with heap := s₂.heap, slotsUsed := s₂.slotsUsed } : State) L mc ms := by
      refine ⟨?_, q2, q3, q4, q5, q6⟩
      obtain ⟨t, ht, -⟩ := State.frames_cons hr
      show ({ U with heap := s₂.heap, slotsUsed := s₂.slotsUsed } : State) = { U.setFrames U.frames with heap := s₂.heap, slotsUsed := s₂.slotsUsed }
      rw [State.setFrames_self ht]
    subst hg
    refine Or.inl ⟨v, ⟨(({ U with heap := s₂.heap, slotsUsed := s₂.slotsUsed } : State).setVm s₂.vm), Ls ++ L, c0 + mc, s0 + ms⟩,
      ⟨X.admits, X.cas, X.clock, X.frames, X.room, X.hears, X.method, X.code, (X.here.setHeapUsed s₂.heap s₂.slotsUsed).setVm hW'.alike, X.tail, State.WarmedH.trans X.warmed hW', X.limits, X.bytes, X.same.trans (hsame.setVm s.vm)⟩,
      ⟨g, mk, s₂, L, rfl, rfl, hqc, rfl, hL, rfl, rfl⟩, ?_⟩
    show Steps p.tables e below _ ((({ U with heap := s₂.heap, slotsUsed := s₂.slotsUsed } : State).setVm s₂.vm).setTop { g with pc := g.pc + len₂, stack := v.toList ++ g.stack })
    rw [← hs₂]
    exact hsteps
  · obtain ⟨e2, q2, q3, q4, q5, q6⟩ := id hsm
    have e3 : s₂ = ({ (U.calling g mk a).setFrames s₂.frames with heap := s₂.heap, slotsUsed := s₂.slotsUsed } : State).setVm s₂.vm := by
      have : s₂ = ({ s₂ with vm := (U.calling g mk a).vm } : State).setVm s₂.vm := rfl
      rw [e2] at this
      exact this
    have hf₂ : s₂.frames = .throwing q :: .java g :: U.frames.tail := hend
    have hW' : U.WarmedH s₂.vm := hW₂
    have hs₂ : s₂ = ((({ U with heap := s₂.heap, slotsUsed := s₂.slotsUsed } : State).setVm s₂.vm).setTop g).pushFrame (.throwing q) := by
      refine e3.trans ?_
      rw [hf₂, State.calling_eq h.top, State.setFrames_setFrames, State.pushFrame, State.frames_setTop _ hr', State.setTop_of_frames _ hr', State.setFrames_setFrames, hr]
      rfl
    have hsame : U.sameButNew ({ U with heap := s₂.heap, slotsUsed := s₂.slotsUsed } : State) L mc ms := by
      refine ⟨?_, q2, q3, q4, q5, q6⟩
      obtain ⟨t, ht, -⟩ := State.frames_cons hr
      show ({ U with heap := s₂.heap, slotsUsed := s₂.slotsUsed } : State) = { U.setFrames U.frames with heap := s₂.heap, slotsUsed := s₂.slotsUsed }
      rw [State.setFrames_self ht]
    subst hg
    refine Or.inr ⟨q, ⟨(({ U with heap := s₂.heap, slotsUsed := s₂.slotsUsed } : State).setVm s₂.vm), Ls ++ L, c0 + mc, s0 + ms⟩,
      ⟨X.admits, X.cas, X.clock, X.frames, X.room, X.hears, X.method, X.code, (X.here.setHeapUsed s₂.heap s₂.slotsUsed).setVm hW'.alike, X.tail, State.WarmedH.trans X.warmed hW', X.limits, X.bytes, X.same.trans (hsame.setVm s.vm)⟩,
      ⟨g, mk, s₂, L, E, ce, rfl, rfl, hx, hce, hcv, hcl, rfl, hL, rfl, rfl⟩, ?_⟩
    show Steps p.tables e below _ (((({ U with heap := s₂.heap, slotsUsed := s₂.slotsUsed } : State).setVm s₂.vm).setTop g).pushFrame (.throwing q))
    rw [← hs₂]
    exact hsteps
end
variable {p : Program} {l : Launch} {e : Env} {R : Room} {s : State} {m : MethodId} {args : Array Value} {below : List Frame} {meth : Method} {c : Code} {T : State} {H : Heap} {locs : List Loc} {cells slots : Nat}
theorem vx_callVX (X : Stand p l e R s m args below meth c T locs cells slots) (hexec : p.tables.exec = Jvm.exec) {own C : String} {index : Nat} {y : MethodName} {bytes : ByteArray} {maxL : Nat} {ret : Option FieldType} {hh : List (Nat × Nat × Nat × Nat)}
    (hown : s.vm.findClass own = some m.cls) (hlink : (Cond.methodLink own index y).before args s = true) (hinst : (Cond.instanceMethod y).before args s = true) (hsel : (Cond.selects C y y).before args s = true)
    (hcode : (Cond.codeWith y bytes maxL ret hh).before args s = true) (hy : y.cls ≠ "java/lang/invoke/MethodHandle" ∧ y.cls ≠ "java/lang/invoke/VarHandle")
    {W9 : Nat} {Pre : Pt → Array Value → Prop} {Post : Pt → Array Value → Option Value → Pt → Prop} {PostX : Pt → Array Value → Addr → Pt → Prop} (hK : vx_Back l R p e below s args y 3 W9 Pre Post PostX)
    {b : Addr} {cellB : Cell} (hcell : T.heap[b]? = some cellB) (hobj : cellB.vm.isStatics = false) (hcls : s.vm.findClass C = some cellB.cls)
    {g : JFrame} (hg : g.method = m) (hsize : g.locals.size = c.maxLocals) {argsL rest : List Value} (hlen : ∀ sig, parseMethodDescriptor y.desc = some sig → argsL.length = sig.parameters.length)
    (hstack : g.stack = argsL.reverse ++ .ref b :: rest) (hW : 2 * g.monitorRoom + (rest.map fun v => v.category).sum ≤ W9) (hdg : decode c.code g.pc = .ok (.invokevirtual index, 3))
    (hpre : ∀ vm₁, s.WarmedH vm₁ → Pre ⟨T.setVm vm₁, locs, cells, slots⟩ (Value.ref b :: argsL).toArray) :
    (∃ (v : Option Value) (vm₁ : Vm) (B : Pt), s.WarmedH vm₁ ∧ Stand p l e R s m args below meth c B.U B.locs B.cells B.slots ∧ Post ⟨T.setVm vm₁, locs, cells, slots⟩ (Value.ref b :: argsL).toArray v B ∧
      ∀ target, Steps p.tables e below (B.U.setTop { g with pc := g.pc + 3, stack := v.toList ++ rest }) target → Steps p.tables e below (T.setTop g) target) ∨
    (∃ (q : Addr) (vm₁ : Vm) (B : Pt), s.WarmedH vm₁ ∧ Stand p l e R s m args below meth c B.U B.locs B.cells B.slots ∧ PostX ⟨T.setVm vm₁, locs, cells, slots⟩ (Value.ref b :: argsL).toArray q B ∧
      Steps p.tables e below (T.setTop g) ((B.U.setTop { g with stack := rest }).pushFrame (.throwing q))) := by
  obtain ⟨mk, methM, hnamed, hmethM, hstM, habM⟩ := Cond.instanceMethod_spec hinst
  obtain ⟨m8, methM', cM, hn8, hmethM', -, -, -, -, -, -, hsigM⟩ := Cond.codeWith_spec hcode
  cases Option.some.inj (hn8.symm.trans hnamed)
  cases hmethM.symm.trans hmethM'
  obtain ⟨c2, r2, m2, q1, q2, q3, q4, kP, hkP, hkPi⟩ := Cond.selects_spec hsel
  cases hcls.symm.trans q1
  cases (State.methodFound?_of_named hnamed hy).symm.trans q2
  cases hnamed.symm.trans q3
  have hselP : selectMethod e.platform s.vm cellB.cls mk = .method mk := by rw [Launch.admits_selectMethod X.admits]; exact q4
  obtain ⟨vm₁, X₁, hstep₁⟩ := X.invokevirtual hexec hown hlink hnamed hmethM hstM hkP hkPi hy (a := b) (cell := cellB) hcell
    (fun z h => by rw [h] at hobj; cases hobj) hselP hmethM habM hkP hkPi (g := g) hg (argsL := argsL) (rest := rest) (hlen _ hsigM) hstack hdg
  rcases hK m meth c ⟨T.setVm vm₁, locs, cells, slots⟩ { g with stack := rest } (.invokevirtual index) mk (Value.ref b :: argsL).toArray X₁ hg hsize hdg hW (X₁.named hnamed) (hpre vm₁ X₁.warmed) with ⟨v, B, X', hpost, hsteps⟩ | ⟨q, B, X', hpost, hsteps⟩
  · exact Or.inl ⟨v, vm₁, B, X₁.warmed, X', hpost, fun target h => hstep₁ _ fun acts => by rw [doInvoke_state]; exact hsteps.trans h⟩
  · exact Or.inr ⟨q, vm₁, B, X₁.warmed, X', hpost, hstep₁ _ fun acts => by rw [doInvoke_state]; exact hsteps⟩
theorem vx_callSX (X : Stand p l e R s m args below meth c T locs cells slots) (hexec : p.tables.exec = Jvm.exec) {own : String} {index : Nat} {y : MethodName} {bytes : ByteArray} {maxL : Nat} {ret : Option FieldType} {hh : List (Nat × Nat × Nat × Nat)}
    (hown : s.vm.findClass own = some m.cls) (hlink : (Cond.methodLink own index y).before args s = true) (hstat : (Cond.static y).before args s = true) (hinit : (Cond.initialized y.cls).before args s = true)
    (hcode : (Cond.codeWith y bytes maxL ret hh).before args s = true) (hy : y.cls ≠ "java/lang/invoke/MethodHandle" ∧ y.cls ≠ "java/lang/invoke/VarHandle")
    {W9 : Nat} {Pre : Pt → Array Value → Prop} {Post : Pt → Array Value → Option Value → Pt → Prop} {PostX : Pt → Array Value → Addr → Pt → Prop} (hK : vx_Back l R p e below s args y 3 W9 Pre Post PostX)
    {g : JFrame} (hg : g.method = m) (hsize : g.locals.size = c.maxLocals) {argsL rest : List Value} (hlen : ∀ sig, parseMethodDescriptor y.desc = some sig → argsL.length = sig.parameters.length)
    (hstack : g.stack = argsL.reverse ++ rest) (hW : 2 * g.monitorRoom + (rest.map fun v => v.category).sum ≤ W9) (hdg : decode c.code g.pc = .ok (.invokestatic index, 3))
    (hpre : ∀ vm₁, s.WarmedH vm₁ → Pre ⟨T.setVm vm₁, locs, cells, slots⟩ argsL.toArray) :
    (∃ (v : Option Value) (vm₁ : Vm) (B : Pt), s.WarmedH vm₁ ∧ Stand p l e R s m args below meth c B.U B.locs B.cells B.slots ∧ Post ⟨T.setVm vm₁, locs, cells, slots⟩ argsL.toArray v B ∧
      ∀ target, Steps p.tables e below (B.U.setTop { g with pc := g.pc + 3, stack := v.toList ++ rest }) target → Steps p.tables e below (T.setTop g) target) ∨
    (∃ (q : Addr) (vm₁ : Vm) (B : Pt), s.WarmedH vm₁ ∧ Stand p l e R s m args below meth c B.U B.locs B.cells B.slots ∧ PostX ⟨T.setVm vm₁, locs, cells, slots⟩ argsL.toArray q B ∧
      Steps p.tables e below (T.setTop g) ((B.U.setTop { g with stack := rest }).pushFrame (.throwing q))) := by
  obtain ⟨mk, methM, cM, hnamed, hmethM, -, -, -, -, -, -, hsigM⟩ := Cond.codeWith_spec hcode
  have hstatic : methM.isStatic = true := Cond.static_spec hnamed hmethM hstat
  obtain ⟨kP, hkP, -⟩ := className_of_methodNamed hnamed
  have hinitP : kP.init = .initialized := Cond.initialized_spec (findClass_of_methodNamed hnamed) hkP hinit
  obtain ⟨vm₁, X₁, hstep₁⟩ := X.invokestatic hexec hown hlink hnamed hmethM hstatic hkP hinitP hy (g := g) hg (argsL := argsL) (rest := rest) (hlen _ hsigM) hstack hdg
  rcases hK m meth c ⟨T.setVm vm₁, locs, cells, slots⟩ { g with stack := rest } (.invokestatic index) mk argsL.toArray X₁ hg hsize hdg hW (X₁.named hnamed) (hpre vm₁ X₁.warmed) with ⟨v, B, X', hpost, hsteps⟩ | ⟨q, B, X', hpost, hsteps⟩
  · exact Or.inl ⟨v, vm₁, B, X₁.warmed, X', hpost, fun target h => hstep₁ _ fun acts => by rw [doInvoke_state]; exact hsteps.trans h⟩
  · exact Or.inr ⟨q, vm₁, B, X₁.warmed, X', hpost, hstep₁ _ fun acts => by rw [doInvoke_state]; exact hsteps⟩
theorem vx_callVW (X : Stand p l e R s m args below meth c T locs cells slots) (hexec : p.tables.exec = Jvm.exec) {own C : String} {index : Nat} {y : MethodName} {bytes : ByteArray} {maxL : Nat} {ret : Option FieldType} {hh : List (Nat × Nat × Nat × Nat)}
    (hown : s.vm.findClass own = some m.cls) (hlink : (Cond.methodLink own index y).before args s = true) (hinst : (Cond.instanceMethod y).before args s = true) (hsel : (Cond.selects C y y).before args s = true)
    (hcode : (Cond.codeWith y bytes maxL ret hh).before args s = true) (hy : y.cls ≠ "java/lang/invoke/MethodHandle" ∧ y.cls ≠ "java/lang/invoke/VarHandle")
    {W9 : Nat} {Pre : Pt → Array Value → Prop} {Post : Pt → Array Value → Option Value → Pt → Prop} (hK : Back l R p e below s args y 3 W9 Pre Post)
    {b : Addr} {cellB : Cell} (hcell : T.heap[b]? = some cellB) (hobj : cellB.vm.isStatics = false) (hcls : s.vm.findClass C = some cellB.cls)
    {g : JFrame} (hg : g.method = m) (hsize : g.locals.size = c.maxLocals) {argsL rest : List Value} (hlen : ∀ sig, parseMethodDescriptor y.desc = some sig → argsL.length = sig.parameters.length)
    (hstack : g.stack = argsL.reverse ++ .ref b :: rest) (hW : 2 * g.monitorRoom + (rest.map fun v => v.category).sum ≤ W9) (hdg : decode c.code g.pc = .ok (.invokevirtual index, 3))
    (hpre : ∀ vm₁, s.WarmedH vm₁ → Pre ⟨T.setVm vm₁, locs, cells, slots⟩ (Value.ref b :: argsL).toArray) :
    ∃ (v : Option Value) (vm₁ : Vm) (B : Pt), s.WarmedH vm₁ ∧ Stand p l e R s m args below meth c B.U B.locs B.cells B.slots ∧ Post ⟨T.setVm vm₁, locs, cells, slots⟩ (Value.ref b :: argsL).toArray v B ∧
      ∀ target, Steps p.tables e below (B.U.setTop { g with pc := g.pc + 3, stack := v.toList ++ rest }) target → Steps p.tables e below (T.setTop g) target := by
  obtain ⟨mk, methM, hnamed, hmethM, hstM, habM⟩ := Cond.instanceMethod_spec hinst
  obtain ⟨m8, methM', cM, hn8, hmethM', -, -, -, -, -, -, hsigM⟩ := Cond.codeWith_spec hcode
  cases Option.some.inj (hn8.symm.trans hnamed)
  cases hmethM.symm.trans hmethM'
  obtain ⟨c2, r2, m2, q1, q2, q3, q4, kP, hkP, hkPi⟩ := Cond.selects_spec hsel
  cases hcls.symm.trans q1
  cases (State.methodFound?_of_named hnamed hy).symm.trans q2
  cases hnamed.symm.trans q3
  have hselP : selectMethod e.platform s.vm cellB.cls mk = .method mk := by rw [Launch.admits_selectMethod X.admits]; exact q4
  obtain ⟨vm₁, X₁, hstep₁⟩ := X.invokevirtual hexec hown hlink hnamed hmethM hstM hkP hkPi hy (a := b) (cell := cellB) hcell
    (fun z h => by rw [h] at hobj; cases hobj) hselP hmethM habM hkP hkPi (g := g) hg (argsL := argsL) (rest := rest) (hlen _ hsigM) hstack hdg
  obtain ⟨v, B, X', hpost, hsteps⟩ := hK m meth c ⟨T.setVm vm₁, locs, cells, slots⟩ { g with stack := rest } (.invokevirtual index) mk (Value.ref b :: argsL).toArray X₁ hg hsize hdg hW (X₁.named hnamed) (hpre vm₁ X₁.warmed)
  exact ⟨v, vm₁, B, X₁.warmed, X', hpost, fun target h => hstep₁ _ fun acts => by rw [doInvoke_state]; exact hsteps.trans h⟩
abbrev vx_CVW (R : Room) (s : State) (args : Array Value) (own C : String) (index : Nat) (y : MethodName) (bytes : ByteArray) (maxL : Nat) (ret : Option FieldType) (hh : List (Nat × Nat × Nat × Nat)) (ws : List Cond) (rm : Room) (mc ms n : Nat) : Prop :=
  (rm.cells = mc ∧ rm.slots = ms ∧ rm.frames + 1 ≤ R.frames ∧ 8 + (maxL + 11) + rm.locals ≤ R.locals ∧ (∀ w ∈ ws, ∀ (a' : Array Value) (U : State), s.WarmedH U.vm → w.before a' U = true) ∧ Cond.codeWith y bytes maxL ret hh ∈ ws) ∧
  (Cond.codeWith y bytes maxL ret hh).before args s = true ∧ (Cond.initialized y.cls).before args s = true ∧ (y.cls ≠ "java/lang/invoke/MethodHandle" ∧ y.cls ≠ "java/lang/invoke/VarHandle") ∧
  (∀ sig, parseMethodDescriptor y.desc = some sig → n = sig.parameters.length) ∧ (Cond.methodLink own index y).before args s = true ∧ (Cond.instanceMethod y).before args s = true ∧ (Cond.selects C y y).before args s = true
theorem vx_cwVW {own C : String} {index maxL mc ms : Nat} {y : MethodName} {bytes : ByteArray} {ret : Option FieldType} {hh : List (Nat × Nat × Nat × Nat)} {Ts ws ws' : List Cond} {rm : Room} (n : Nat) (ht : ∀ w ∈ Ts, w.before args s = true) (hT : GoodIn Ts (wsV own index C y ws)) (hw : ws = Cond.codeWith y bytes maxL ret hh :: ws') (hrc : rm.cells = mc) (hrs : rm.slots = ms)
    (hd : y.cls = C ∧ y.cls ≠ "java/lang/invoke/MethodHandle" ∧ y.cls ≠ "java/lang/invoke/VarHandle" ∧ (parseMethodDescriptor y.desc).map (fun d => d.parameters.length) = some n) (hR : rm.frames + 1 ≤ R.frames ∧ 8 + (maxL + 11) + rm.locals ≤ R.locals) :
    vx_CVW R s args own C index y bytes maxL ret hh ws rm mc ms n := by
  obtain ⟨hC, hd⟩ := hd
  subst hC
  have ok : ∀ w ∈ wsV own index y.cls y ws, w.before args s = true := fun w h => ht w (hT w h).1
  have hG : GoodIn Ts ws := fun w h => hT w (by unfold wsV; exact List.mem_append_right _ h)
  have hc : Cond.codeWith y bytes maxL ret hh ∈ ws := by rw [hw]; exact List.mem_cons_self
  refine ⟨⟨hrc, hrs, hR.1, hR.2, pay_in ht hG, hc⟩, ht _ (hG _ hc).1, ok _ (by simp [wsV]), ⟨hd.1, hd.2.1⟩, fun sig h => ?_, ok _ (by simp [wsV]), ok _ (by simp [wsV]), ok _ (by simp [wsV])⟩
  have h2 := hd.2.2
  rw [h] at h2
  exact (Option.some.inj h2).symm
theorem vx_runVW {y : MethodName} {bytes cc : ByteArray} {maxL nL mc ms n index : Nat} {ret : Option FieldType} {hh : List (Nat × Nat × Nat × Nat)} {ws : List Cond} {rm : Room} {Pc : Array Value → State → Prop} {Qc : Array Value → State → Outcome → State → Prop} {free : Addr → Prop} {Ts : List Cond} {own C : String} {b : Addr} {As rest : List Value} {g : JFrame}
    (S : CallFix p m c cc nL s args Ts own) (hM : Met l y ws rm Pc Qc mc ms free) (cw : vx_CVW R s args own C index y bytes maxL ret hh ws rm mc ms n) (hp : PreV s H C b Pc As)
    (hg : g.method = m) (hn : As.length = n) (hsize : g.locals.size = nL) (hstack : g.stack = As.reverse ++ .ref b :: rest) (hW : 2 * g.monitorRoom + (rest.map fun v => v.category).sum ≤ 8) (hdg : decode cc g.pc = .ok (.invokevirtual index, 3)) (hf : cells + mc ≤ R.cells ∧ slots + ms ≤ R.slots) :
    va_Run p l e R s m args below meth c H locs cells slots mc ms g rest (Qc (Value.ref b :: As).toArray) free := by
  obtain ⟨⟨hrc, hrs, hfr, hlo, hws, hcw⟩, hcode, hini, hy, hlen, hl, hin, hse⟩ := cw
  have hK : Back l R p e below s args y 3 8 (PreOf R mc ms Pc) (PostOf Qc mc ms free) := va_backW (hh := hh) (bytes := bytes) (maxL := maxL) (ret := ret) hM hp.1 hrc hrs hfr hlo hws hcw (fun a' U hW => word_at hW (Or.inl (by first | rfl | simp [Cond.onTables, Cond.keeps, Cond.steady])) hini)
  obtain ⟨hx, hb, hml, ho, -⟩ := S
  obtain ⟨-, ⟨cellB, hcB, hoB, hclB⟩, hPc⟩ := hp
  intro T hT X
  obtain ⟨v, vm₁, ⟨U', l2, c2, s2⟩, hW₁, X', ⟨g', mk, t, L, e1, e2, hq, h1, hL, h2, h3⟩, st⟩ := vx_callVW X hx (C := C) (hh := hh) (bytes := bytes) (maxL := maxL) (ret := ret) ho hl hin hse hcode hy hK (by rw [hT]; exact hcB) hoB hclB hg (hsize.trans hml.symm) (argsL := As) (rest := rest) (fun sig h => hn.trans (hlen sig h)) hstack hW (by rw [hb]; exact hdg)
    (fun vm₁ hW₁ => ⟨hf.1, hf.2, hPc (T.setVm vm₁) hT hW₁⟩)
  dsimp only [Pt.U, Pt.locs, Pt.cells, Pt.slots] at X' e1 e2 h1 h2 h3 st
  subst h1; subst h2; subst h3
  exact ⟨v, (T.setVm vm₁).calling g' mk (Value.ref b :: As).toArray, t, U', L, hT, X', hL, e1, e2, hq, st⟩
section
variable {y : MethodName} {bytes cc : ByteArray} {maxL nL mc ms n index : Nat} {ret : Option FieldType} {ws : List Cond} {rm : Room} {Pc : Array Value → State → Prop} {Qc : Array Value → State → Outcome → State → Prop} {XC : String → State → State → Prop} {free : Addr → Prop} {Ts : List Cond} {own C : String} {b : Addr} {As rest : List Value} {g : JFrame}
theorem vx_runVX {hh : List (Nat × Nat × Nat × Nat)} (S : CallFix p m c cc nL s args Ts own) (hM : vx_Met l y ws rm Pc Qc XC mc ms free) (cw : vx_CVW R s args own C index y bytes maxL ret hh ws rm mc ms n) (hp : PreV s H C b Pc As)
    (hg : g.method = m) (hn : As.length = n) (hsize : g.locals.size = nL) (hstack : g.stack = As.reverse ++ .ref b :: rest) (hW : 2 * g.monitorRoom + (rest.map fun v => v.category).sum ≤ 8) (hdg : decode cc g.pc = .ok (.invokevirtual index, 3)) (hf : cells + mc ≤ R.cells ∧ slots + ms ≤ R.slots) :
    vx_Run p l e R s m args below meth c H locs cells slots mc ms g rest (Qc (Value.ref b :: As).toArray) XC free := by
  obtain ⟨⟨hrc, hrs, hfr, hlo, hws, hcw⟩, hcode, hini, hy, hlen, hl, hin, hse⟩ := cw
  have hK : vx_Back l R p e below s args y 3 8 (PreOf R mc ms Pc) (PostOf Qc mc ms free) (vx_Post XC mc ms free) := vx_backW (hh := hh) (bytes := bytes) (maxL := maxL) (ret := ret) hM hp.1 hrc hrs hfr hlo hws hcw (fun a' U hW => word_at hW (Or.inl (by first | rfl | simp [Cond.onTables, Cond.keeps, Cond.steady])) hini)
  obtain ⟨hx, hb, hml, ho, -⟩ := S
  obtain ⟨-, ⟨cellB, hcB, hoB, hclB⟩, hPc⟩ := hp
  intro T hT X
  rcases vx_callVX X hx (C := C) (hh := hh) (bytes := bytes) (maxL := maxL) (ret := ret) ho hl hin hse hcode hy hK (by rw [hT]; exact hcB) hoB hclB hg (hsize.trans hml.symm) (argsL := As) (rest := rest) (fun sig h => hn.trans (hlen sig h)) hstack hW (by rw [hb]; exact hdg)
    (fun vm₁ hW₁ => ⟨hf.1, hf.2, hPc (T.setVm vm₁) hT hW₁⟩) with ⟨v, vm₁, ⟨U', l2, c2, s2⟩, hW₁, X', ⟨g', mk, t, L, e1, e2, hq, h1, hL, h2, h3⟩, st⟩ | ⟨q, vm₁, ⟨U', l2, c2, s2⟩, hW₁, X', ⟨g', mk, t, L, E, ce, e1, e2, hq, hce, hcv, hcl, h1, hL, h2, h3⟩, st⟩
  · dsimp only [Pt.U, Pt.locs, Pt.cells, Pt.slots] at X' e1 e2 h1 h2 h3 st
    subst h1; subst h2; subst h3
    exact Or.inl ⟨v, (T.setVm vm₁).calling g' mk (Value.ref b :: As).toArray, t, U', L, hT, X', hL, e1, e2, hq, st⟩
  · dsimp only [Pt.U, Pt.locs, Pt.cells, Pt.slots] at X' e1 e2 h1 h2 h3 st hcl
    subst h1; subst h2; subst h3
    exact Or.inr ⟨q, (T.setVm vm₁).calling g' mk (Value.ref b :: As).toArray, t, U', L, E, ce, hT, X', hL, e1, e2, hq, hce, hcv, vx_cls hW₁ hcl, st⟩
theorem vx_runSX {hh : List (Nat × Nat × Nat × Nat)} (S : CallFix p m c cc nL s args Ts own) (hM : vx_Met l y ws rm Pc Qc XC mc ms free) (cw : vx_CSW R s args own index y bytes maxL ret hh ws rm mc ms n) (hp : PreS s H Pc As)
    (hg : g.method = m) (hn : As.length = n) (hsize : g.locals.size = nL) (hstack : g.stack = As.reverse ++ rest) (hW : 2 * g.monitorRoom + (rest.map fun v => v.category).sum ≤ 8) (hdg : decode cc g.pc = .ok (.invokestatic index, 3)) (hf : cells + mc ≤ R.cells ∧ slots + ms ≤ R.slots) :
    vx_Run p l e R s m args below meth c H locs cells slots mc ms g rest (Qc As.toArray) XC free := by
  obtain ⟨⟨hrc, hrs, hfr, hlo, hws, hcw⟩, hcode, hini, hy, hlen, hl, hstt⟩ := cw
  have hK : vx_Back l R p e below s args y 3 8 (PreOf R mc ms Pc) (PostOf Qc mc ms free) (vx_Post XC mc ms free) := vx_backW (hh := hh) (bytes := bytes) (maxL := maxL) (ret := ret) hM hp.1 hrc hrs hfr hlo hws hcw (fun a' U hW => word_at hW (Or.inl (by first | rfl | simp [Cond.onTables, Cond.keeps, Cond.steady])) hini)
  obtain ⟨hx, hb, hml, ho, -⟩ := S
  intro T hT X
  rcases vx_callSX X hx (hh := hh) (bytes := bytes) (maxL := maxL) (ret := ret) ho hl hstt hini hcode hy hK hg (hsize.trans hml.symm) (argsL := As) (rest := rest) (fun sig h => hn.trans (hlen sig h)) hstack hW (by rw [hb]; exact hdg)
    (fun vm₁ hW₁ => ⟨hf.1, hf.2, hp.2 (T.setVm vm₁) hT hW₁⟩) with ⟨v, vm₁, ⟨U', l2, c2, s2⟩, hW₁, X', ⟨g', mk, t, L, e1, e2, hq, h1, hL, h2, h3⟩, st⟩ | ⟨q, vm₁, ⟨U', l2, c2, s2⟩, hW₁, X', ⟨g', mk, t, L, E, ce, e1, e2, hq, hce, hcv, hcl, h1, hL, h2, h3⟩, st⟩
  · dsimp only [Pt.U, Pt.locs, Pt.cells, Pt.slots] at X' e1 e2 h1 h2 h3 st
    subst h1; subst h2; subst h3
    exact Or.inl ⟨v, (T.setVm vm₁).calling g' mk As.toArray, t, U', L, hT, X', hL, e1, e2, hq, st⟩
  · dsimp only [Pt.U, Pt.locs, Pt.cells, Pt.slots] at X' e1 e2 h1 h2 h3 st hcl
    subst h1; subst h2; subst h3
    exact Or.inr ⟨q, (T.setVm vm₁).calling g' mk As.toArray, t, U', L, E, ce, hT, X', hL, e1, e2, hq, hce, hcv, vx_cls hW₁ hcl, st⟩
end
end VXH
theorem vx_ofWH {l : Launch} {y : MethodName} {ws ws' : List Cond} {rm : Room} {Pc : Array Value → State → Prop} {Qc : Array Value → State → Outcome → State → Prop} {XC : String → State → State → Prop} {mc ms : Nat} {free : Addr → Prop} {cc : ByteArray} {maxL : Nat} {ret : Option FieldType} {hh : List (Nat × Nat × Nat × Nat)}
    (hy : plainName y.cls = true) (hw : ws = Cond.codeWith y cc maxL ret hh :: ws')
    (body : ∀ p e s m args below meth c s₁, BodyLoose p l y (headSpec ws rm) cc maxL ret e s m args below meth c s₁ → c.maxLocals = maxL → Pc args s →
      W p l e (headSpec ws rm).room s m args below meth c s.heap [] 0 0 (vx_MQ below Qc XC args s mc ms free) (entryFrame m args maxL)) : vx_Met l y ws rm Pc Qc XC mc ms free := by
  refine MetFree.of_bodyS (code := cc) (maxLocals := maxL) (ret := ret) hy ?_ ?_
  · intro args s m h hn
    obtain ⟨m9, meth, c, hn9, h1, h2, h3, h4, -, h5, h6, -⟩ := Cond.codeWith_spec (atoms_spec (ws := ws) h _ (by rw [hw]; exact List.mem_cons_self))
    cases hn.symm.trans hn9
    exact ⟨meth, c, h1, h2, h3, h4, h5, h6⟩
  · intro p e s m args below meth c s₁ B hml hP _
    have hh0 : s₁.heap = s.heap := by rw [B.state]; rfl
    obtain ⟨t, a1, o, b1, b2, b3⟩ := body p e s m args below meth c s₁ B hml hP s₁ hh0 (Stand.of_body B)
    exact ⟨t, o, a1, b1, b2, b3⟩
/-! ===== END ===== -/
end
section
/-! A SMALL MACHINE over lists: what a method's instructions do, as a function of a heap that is a list of objects; later it is shown that the true machine goes the same way. A reference is the place of an object, counted from the outer things (rows that are only read: the first of them) on. -/
/-- a thing of the list: a row (its type's number, its length, what was written: the last first), or an object (its class's number, its fields) -/
abbrev mO : Type := (Nat × Nat × List (Nat × Value)) ⊕ (Nat × List Value)
/-- an outer thing: a row, whatever it holds, or an object -/
abbrev mX : Type := (Nat × vp_A) ⊕ (Nat × List Value)
/-- the outer things: rows and objects that are only read, the first places -/
abbrev mE : Type := List mX
abbrev mIns : Type := Nat × Instr × Nat × Nat × Nat × Nat
abbrev mMth : Type := MethodName × ByteArray × Nat × Option FieldType × String × Nat × Nat
abbrev mLv : Type := List (Nat × Value)
/-- heap, cells and slots made in this call -/
abbrev mH : Type := List mO × Nat × Nat
/-- method, place, locals, stack -/
abbrev mF : Type := Nat × Nat × mLv × List Value
abbrev mS : Type := mF × mH
def mlook (l : List mIns) (pc : Nat) : Option mIns := match l with
  | [] => none
  | e :: r => if e.1 = pc then some e else mlook r pc
def mcode (j : Nat) : List mIns := mCodes.getD j []
def mmeth (j : Nat) : Option mMth := mMeths[j]?
def mlv (l : mLv) (i : Nat) : Option Value := match l with
  | [] => none
  | q :: r => if q.1 = i then some q.2 else mlv r i
def mset1 (l : mLv) (i : Nat) (v : Value) : mLv := (i, v) :: l.filter (fun q => !(q.1 == i) && !(q.1 + 1 == i && q.2.category == 2))
def mset2 (l : mLv) (i : Nat) (v : Value) : mLv := (i, v) :: l.filter (fun q => !(q.1 == i) && (!(q.1 == i + 1) && !(q.1 + 1 == i && q.2.category == 2)))
def mget (X : Nat) (h : List mO) (a : Nat) : Option mO := if a < X then none else h[a - X]?
/-- what was written last at a place -/
def mup (u : List (Nat × Value)) (j : Nat) : Option Value := match u with
  | [] => none
  | q :: r => if q.1 = j then some q.2 else mup r j
def mupI (u : List (Nat × Value)) (j : Nat) : Int32 := match mup u j with
  | some (.int x) => x
  | _ => 0
def mupL (u : List (Nat × Value)) (j : Nat) : Int64 := match mup u j with
  | some (.long x) => x
  | _ => 0
def mupD (u : List (Nat × Value)) (j : Nat) : UInt64 := match mup u j with
  | some (.double x) => x
  | _ => 0
def mupR (u : List (Nat × Value)) (j : Nat) : Option Nat := match mup u j with
  | some (.ref x) => some x
  | _ => none
def mtgt (pc : Nat) (off : Int) : Nat := ((pc : Int) + off).toNat
def mjmp (pc : Nat) (off : Int) : Bool := decide (0 ≤ (pc : Int) + off)
/-- an instruction that stays in the method, and makes, reads or writes nothing of the heap: the next place, the locals, the stack -/
def mpure (nL : Nat) (e : mIns) (lv : mLv) (st : List Value) : Option (Nat × mLv × List Value) := match e.2.1 with
  | .iconst n => some (e.1 + 1, lv, .int (Int32.ofInt n) :: st)
  | .bipush n => some (e.1 + 2, lv, .int (Int8.ofInt n).toInt32 :: st)
  | .sipush n => some (e.1 + 3, lv, .int (Int16.ofInt n).toInt32 :: st)
  | .lconst n => some (e.1 + 1, lv, .long (Int64.ofNat (n : Nat)) :: st)
  | .dconst n => if (n : Nat) = 0 then some (e.1 + 1, lv, .double FP.dconst0 :: st) else none
  | .iload_n k => match mlv lv (k : Nat) with
    | some (.int x) => some (e.1 + 1, lv, .int x :: st)
    | _ => none
  | .iload i => match mlv lv i with
    | some (.int x) => some (e.1 + 2, lv, .int x :: st)
    | _ => none
  | .lload_n k => match mlv lv (k : Nat) with
    | some (.long x) => some (e.1 + 1, lv, .long x :: st)
    | _ => none
  | .lload i => match mlv lv i with
    | some (.long x) => some (e.1 + 2, lv, .long x :: st)
    | _ => none
  | .aload_n k => match mlv lv (k : Nat) with
    | some (.ref x) => some (e.1 + 1, lv, .ref x :: st)
    | _ => none
  | .aload i => match mlv lv i with
    | some (.ref x) => some (e.1 + 2, lv, .ref x :: st)
    | _ => none
  | .istore_n k => match st with
    | .int x :: r => if (k : Nat) < nL then some (e.1 + 1, mset1 lv (k : Nat) (.int x), r) else none
    | _ => none
  | .istore i => match st with
    | .int x :: r => if i < nL then some (e.1 + 2, mset1 lv i (.int x), r) else none
    | _ => none
  | .lstore_n k => match st with
    | .long x :: r => if (k : Nat) + 1 < nL then some (e.1 + 1, mset2 lv (k : Nat) (.long x), r) else none
    | _ => none
  | .lstore i => match st with
    | .long x :: r => if i + 1 < nL then some (e.1 + 2, mset2 lv i (.long x), r) else none
    | _ => none
  | .astore_n k => match st with
    | .ref x :: r => if (k : Nat) < nL then some (e.1 + 1, mset1 lv (k : Nat) (.ref x), r) else none
    | _ => none
  | .astore i => match st with
    | .ref x :: r => if i < nL then some (e.1 + 2, mset1 lv i (.ref x), r) else none
    | _ => none
  | .iinc i n => match mlv lv i with
    | some (.int x) => if i < nL then some (e.1 + 3, mset1 lv i (.int (x + Int32.ofInt n)), st) else none
    | _ => none
  | .iadd => match st with
    | .int y :: .int x :: r => some (e.1 + 1, lv, .int (x + y) :: r)
    | _ => none
  | .isub => match st with
    | .int y :: .int x :: r => some (e.1 + 1, lv, .int (x - y) :: r)
    | _ => none
  | .imul => match st with
    | .int y :: .int x :: r => some (e.1 + 1, lv, .int (x * y) :: r)
    | _ => none
  | .iand => match st with
    | .int y :: .int x :: r => some (e.1 + 1, lv, .int (x &&& y) :: r)
    | _ => none
  | .idiv => match st with
    | .int y :: .int x :: r => if y = 0 then none else some (e.1 + 1, lv, .int (x / y) :: r)
    | _ => none
  | .ineg => match st with
    | .int x :: r => some (e.1 + 1, lv, .int (-x) :: r)
    | _ => none
  | .ladd => match st with
    | .long y :: .long x :: r => some (e.1 + 1, lv, .long (x + y) :: r)
    | _ => none
  | .lmul => match st with
    | .long y :: .long x :: r => some (e.1 + 1, lv, .long (x * y) :: r)
    | _ => none
  | .i2l => match st with
    | .int x :: r => some (e.1 + 1, lv, .long x.toInt64 :: r)
    | _ => none
  | .dup => match st with
    | v :: r => if v.category = 1 then some (e.1 + 1, lv, v :: v :: r) else none
    | _ => none
  | .pop => match st with
    | v :: r => if v.category = 1 then some (e.1 + 1, lv, r) else none
    | _ => none
  | .aconst_null => some (e.1 + 1, lv, .null :: st)
  | .dup_x1 => match st with
    | v :: w :: r => if v.category = 1 ∧ w.category = 1 then some (e.1 + 1, lv, v :: w :: v :: r) else none
    | _ => none
  | .dup2 => match st with
    | v :: w :: r => if v.category = 1 ∧ w.category = 1 then some (e.1 + 1, lv, v :: w :: v :: w :: r) else none
    | _ => none
  | .if_acmp .eq off => match st with
    | .ref x :: .ref y :: r => if x = y ∧ mjmp e.1 off = true then some (mtgt e.1 off, lv, r) else none
    | _ => none
  | .if_acmp .ne off => match st with
    | .ref x :: .ref y :: r => if x = y ∧ mjmp e.1 off = true then some (e.1 + 3, lv, r) else none
    | _ => none
  | .goto off => if mjmp e.1 off then some (mtgt e.1 off, lv, st) else none
  | .ifCond .eq off => match st with
    | .int x :: r => if mjmp e.1 off then some (if x = 0 then mtgt e.1 off else e.1 + 3, lv, r) else none
    | _ => none
  | .ifCond .ne off => match st with
    | .int x :: r => if mjmp e.1 off then some (if x = 0 then e.1 + 3 else mtgt e.1 off, lv, r) else none
    | _ => none
  | .ifCond .lt off => match st with
    | .int x :: r => if mjmp e.1 off then some (if x < 0 then mtgt e.1 off else e.1 + 3, lv, r) else none
    | _ => none
  | .ifCond .ge off => match st with
    | .int x :: r => if mjmp e.1 off then some (if 0 ≤ x then mtgt e.1 off else e.1 + 3, lv, r) else none
    | _ => none
  | .ifCond .gt off => match st with
    | .int x :: r => if mjmp e.1 off then some (if 0 < x then mtgt e.1 off else e.1 + 3, lv, r) else none
    | _ => none
  | .ifCond .le off => match st with
    | .int x :: r => if mjmp e.1 off then some (if x ≤ 0 then mtgt e.1 off else e.1 + 3, lv, r) else none
    | _ => none
  | .if_icmp .eq off => match st with
    | .int y :: .int x :: r => if mjmp e.1 off then some (if x = y then mtgt e.1 off else e.1 + 3, lv, r) else none
    | _ => none
  | .if_icmp .ne off => match st with
    | .int y :: .int x :: r => if mjmp e.1 off then some (if x = y then e.1 + 3 else mtgt e.1 off, lv, r) else none
    | _ => none
  | .if_icmp .lt off => match st with
    | .int y :: .int x :: r => if mjmp e.1 off then some (if x < y then mtgt e.1 off else e.1 + 3, lv, r) else none
    | _ => none
  | .if_icmp .ge off => match st with
    | .int y :: .int x :: r => if mjmp e.1 off then some (if y ≤ x then mtgt e.1 off else e.1 + 3, lv, r) else none
    | _ => none
  | .if_icmp .gt off => match st with
    | .int y :: .int x :: r => if mjmp e.1 off then some (if y < x then mtgt e.1 off else e.1 + 3, lv, r) else none
    | _ => none
  | .if_icmp .le off => match st with
    | .int y :: .int x :: r => if mjmp e.1 off then some (if x ≤ y then mtgt e.1 off else e.1 + 3, lv, r) else none
    | _ => none
  | .irem => match st with
    | .int y :: .int x :: r => if y = 0 then none else some (e.1 + 1, lv, .int (x - x / y * y) :: r)
    | _ => none
  | .ishr => match st with
    | .int y :: .int x :: r => some (e.1 + 1, lv, .int (x >>> (y &&& 31)) :: r)
    | _ => none
  | .lcmp => match st with
    | .long y :: .long x :: r => some (e.1 + 1, lv, .int (lg_cmp x y) :: r)
    | _ => none
  | .i2d => match st with
    | .int x :: r => some (e.1 + 1, lv, .double (FP.i2d x) :: r)
    | _ => none
  | .l2d => match st with
    | .long x :: r => some (e.1 + 1, lv, .double (FP.l2d x) :: r)
    | _ => none
  | .ddiv => match st with
    | .double y :: .double x :: r => if FP.ddiv x y &&& 0x7fffffffffffffff ≤ 0x7ff0000000000000 then some (e.1 + 1, lv, .double (FP.ddiv x y) :: r) else none
    | _ => none
  | .dcmp op => match st with
    | .double y :: .double x :: r => some (e.1 + 1, lv, .int (Op.cmpValue (FP.dcmp x y) op) :: r)
    | _ => none
  | .dload_n k => match mlv lv (k : Nat) with
    | some (.double x) => some (e.1 + 1, lv, .double x :: st)
    | _ => none
  | .dload i => match mlv lv i with
    | some (.double x) => some (e.1 + 2, lv, .double x :: st)
    | _ => none
  | .dstore_n k => match st with
    | .double x :: r => if (k : Nat) + 1 < nL then some (e.1 + 1, mset2 lv (k : Nat) (.double x), r) else none
    | _ => none
  | .dstore i => match st with
    | .double x :: r => if i + 1 < nL then some (e.1 + 2, mset2 lv i (.double x), r) else none
    | _ => none
  | .tableswitch dflt lo hi offs => match st with
    | .int x :: r => if x.toInt < lo ∨ hi < x.toInt then (if mjmp e.1 dflt then some (mtgt e.1 dflt, lv, r) else none) else (match offs[(x.toInt - lo).toNat]? with
      | some off => if mjmp e.1 off then some (mtgt e.1 off, lv, r) else none
      | none => none)
    | _ => none
  | .lookupswitch dflt ps => match st with
    | .int x :: r => if (ps.toList.zip (ps.toList.drop 1)).all (fun (a, next) => a.1 < next.1) = true then (if mjmp e.1 (Op.lookupswitch.offset ps.toList dflt x.toInt) then some (mtgt e.1 (Op.lookupswitch.offset ps.toList dflt x.toInt), lv, r) else none) else none
    | _ => none
  | _ => none
end
section
/-! ===== the true machine's side: a place of the list is an address ===== -/
def trV (ad : Nat → Nat) (v : Value) : Value := match v with
  | .ref a => .ref (ad a)
  | v => v
def trL (ad : Nat → Nat) (l : mLv) : List (Nat × Value) := l.map (fun q => (q.1, trV ad q.2))
theorem trV_cat (ad : Nat → Nat) (v : Value) : (trV ad v).category = v.category := by cases v <;> rfl
theorem mlv_mem {l : mLv} {i : Nat} {v : Value} (h : mlv l i = some v) : (i, v) ∈ l := by
  induction l with
  | nil => cases h
  | cons q r ih =>
    unfold mlv at h
    split at h
    · rename_i hq
      cases h
      rw [← hq]
      exact List.mem_cons_self
    · exact List.mem_cons_of_mem _ (ih h)
theorem trL_mem {ad : Nat → Nat} {l : mLv} {i : Nat} {v : Value} (h : mlv l i = some v) : (i, trV ad v) ∈ trL ad l := List.mem_map.mpr ⟨(i, v), mlv_mem h, rfl⟩
theorem trL_at {ad : Nat → Nat} {ls : Array Slot} {nL : Nat} {l : mLv} {i : Nat} {v : Value} (h : lv_has ls nL (trL ad l)) (hm : mlv l i = some v) : ls[i]? = some (.val (trV ad v)) := h.2.2 (i, trV ad v) (trL_mem hm)
theorem trL_set1 (ad : Nat → Nat) (l : mLv) (i : Nat) (v : Value) : (i, trV ad v) :: (trL ad l).filter (fun q => !(q.1 == i) && !(q.1 + 1 == i && q.2.category == 2)) = trL ad (mset1 l i v) := by
  simp only [trL, mset1, List.map_cons, List.filter_map]
  congr 2
  apply List.filter_congr
  intro q _
  simp [trV_cat]
theorem trL_set2 (ad : Nat → Nat) (l : mLv) (i : Nat) (v : Value) : (i, trV ad v) :: (trL ad l).filter (fun q => !(q.1 == i) && (!(q.1 == i + 1) && !(q.1 + 1 == i && q.2.category == 2))) = trL ad (mset2 l i v) := by
  simp only [trL, mset2, List.map_cons, List.filter_map]
  congr 2
  apply List.filter_congr
  intro q _
  simp [trV_cat]
theorem mtgt_ok {pc : Nat} {off : Int} (h : mjmp pc off = true) : (pc : Int) + off = ((mtgt pc off : Nat) : Int) := by
  have h1 : 0 ≤ (pc : Int) + off := of_decide_eq_true h
  exact (Int.toNat_of_nonneg h1).symm
def mlen (i : Instr) (n : Nat) : Nat := match i with
  | .bipush _ => 2 | .sipush _ => 3 | .iload _ => 2 | .lload _ => 2 | .aload _ => 2 | .istore _ => 2 | .lstore _ => 2 | .astore _ => 2 | .dload _ => 2 | .dstore _ => 2
  | .iinc _ _ => 3 | .goto _ => 3 | .ifCond _ _ => 3 | .if_icmp _ _ => 3 | .ifnull _ => 3 | .ifnonnull _ => 3 | .if_acmp _ _ => 3
  | .getfield _ => 3 | .putfield _ => 3 | .getstatic _ => 3 | .new _ => 3 | .newarray _ => 2 | .anewarray _ => 3 | .checkcast _ => 3
  | .invokevirtual _ => 3 | .invokespecial _ => 3 | .invokestatic _ => 3 | .ldc _ => 2 | .ldc2_w _ => 3
  | .tableswitch _ _ _ _ => n | .lookupswitch _ _ => n | .invokeinterface _ _ => 5
  | _ => 1
section MP
variable {p : Program} {l : Launch} {e : Env} {R : Room} {s : State} {m : MethodId} {args : Array Value} {below : List Frame} {meth : Method} {c : Code} {H : Heap} {locs : List Loc} {cells slots : Nat} {Q : State → Prop}
set_option maxHeartbeats 4000000 in
theorem sd_pure {cc : ByteArray} (hx : p.tables.exec = Jvm.exec) (hb : c.code = cc) {ad : Nat → Nat} {nL : Nat} {i : mIns} {lv lv' : mLv} {st st' : List Value} {pc' : Nat} {ls : Array Slot} (hp : mpure nL i lv st = some (pc', lv', st')) (hd : decode cc i.1 = .ok (i.2.1, mlen i.2.1 i.2.2.1)) (hl : lv_has ls nL (trL ad lv))
    (kk : ∀ ls' : Array Slot, lv_has ls' nL (trL ad lv') → W p l e R s m args below meth c H locs cells slots Q (F0 m pc' ls' (st'.map (trV ad)))) : W p l e R s m args below meth c H locs cells slots Q (F0 m i.1 ls (st.map (trV ad))) := by
  obtain ⟨pc, i, n, a, b, d⟩ := i
  cases i
  case iconst n =>
    simp only [mpure] at hp; cases hp; exact lv_iconst hx hb hd rfl (kk _ hl)
  case bipush n =>
    simp only [mpure] at hp; cases hp; exact lv_bipush hx hb hd rfl (kk _ hl)
  case sipush n =>
    simp only [mpure] at hp; cases hp; exact lv_sipush hx hb hd rfl (kk _ hl)
  case lconst n =>
    simp only [mpure] at hp; cases hp; exact lv_lconst hx hb hd rfl (kk _ hl)
  case dconst n =>
    simp only [mpure] at hp; split at hp
    · rename_i h0; cases hp
      have h1 : n = 0 := Fin.ext h0
      subst h1
      exact lv_dconst0 hx hb hd (kk _ hl)
    · cases hp
  case iload_n k =>
    simp only [mpure] at hp; split at hp
    · rename_i h0; cases hp; exact lv_iload_n hx hb hd rfl (trL_at hl h0) (kk _ hl)
    · cases hp
  case iload k =>
    simp only [mpure] at hp; split at hp
    · rename_i h0; cases hp; exact lv_iload hx hb hd (trL_at hl h0) (kk _ hl)
    · cases hp
  case lload_n k =>
    simp only [mpure] at hp; split at hp
    · rename_i h0; cases hp; exact lv_lload_n hx hb hd rfl (trL_at hl h0) (kk _ hl)
    · cases hp
  case lload k =>
    simp only [mpure] at hp; split at hp
    · rename_i h0; cases hp; exact lv_lload hx hb hd (trL_at hl h0) (kk _ hl)
    · cases hp
  case aload_n k =>
    simp only [mpure] at hp; split at hp
    · rename_i h0; cases hp; exact lv_aload_n hx hb hd rfl (trL_at hl h0) (kk _ hl)
    · cases hp
  case aload k =>
    simp only [mpure] at hp; split at hp
    · rename_i h0; cases hp; exact lv_aload hx hb hd (trL_at hl h0) (kk _ hl)
    · cases hp
  case istore_n k =>
    simp only [mpure] at hp; split at hp
    · split at hp
      · rename_i h0; cases hp; exact lv_istore_n hx hb hd rfl hl h0 (trL_set1 ad lv _ (.int _)) kk
      · cases hp
    · cases hp
  case istore k =>
    simp only [mpure] at hp; split at hp
    · split at hp
      · rename_i h0; cases hp; exact lv_istore hx hb hd hl h0 (trL_set1 ad lv _ (.int _)) kk
      · cases hp
    · cases hp
  case lstore_n k =>
    simp only [mpure] at hp; split at hp
    · split at hp
      · rename_i h0; cases hp; exact lv_lstore_n hx hb hd rfl hl h0 (trL_set2 ad lv _ (.long _)) kk
      · cases hp
    · cases hp
  case lstore k =>
    simp only [mpure] at hp; split at hp
    · split at hp
      · rename_i h0; cases hp; exact lv_lstore hx hb hd hl h0 (trL_set2 ad lv _ (.long _)) kk
      · cases hp
    · cases hp
  case astore_n k =>
    simp only [mpure] at hp; split at hp
    · split at hp
      · rename_i h0; cases hp; exact lv_astore_n hx hb hd rfl hl h0 (trL_set1 ad lv _ (.ref _)) kk
      · cases hp
    · cases hp
  case astore k =>
    simp only [mpure] at hp; split at hp
    · split at hp
      · rename_i h0; cases hp; exact lv_astore hx hb hd hl h0 (trL_set1 ad lv _ (.ref _)) kk
      · cases hp
    · cases hp
  case iinc k n =>
    simp only [mpure] at hp; split at hp
    · rename_i h0; split at hp
      · rename_i h1; cases hp
        obtain ⟨q, hq⟩ := List.getElem?_of_mem (trL_mem (ad := ad) h0)
        exact lv_iinc hx hb hd hl hq rfl h1 (trL_set1 ad lv _ (.int _)) kk
      · cases hp
    · cases hp
  case iadd =>
    simp only [mpure] at hp; split at hp
    · cases hp; exact lv_iadd hx hb hd (kk _ hl)
    · cases hp
  case isub =>
    simp only [mpure] at hp; split at hp
    · cases hp; exact lv_isub hx hb hd (kk _ hl)
    · cases hp
  case imul =>
    simp only [mpure] at hp; split at hp
    · cases hp; exact lv_imul hx hb hd (kk _ hl)
    · cases hp
  case iand =>
    simp only [mpure] at hp; split at hp
    · cases hp; exact lv_iand hx hb hd (kk _ hl)
    · cases hp
  case ineg =>
    simp only [mpure] at hp; split at hp
    · cases hp; exact lv_ineg hx hb hd (kk _ hl)
    · cases hp
  case ladd =>
    simp only [mpure] at hp; split at hp
    · cases hp; exact lv_ladd hx hb hd (kk _ hl)
    · cases hp
  case lmul =>
    simp only [mpure] at hp; split at hp
    · cases hp; exact lv_lmul hx hb hd (kk _ hl)
    · cases hp
  case ishr =>
    simp only [mpure] at hp; split at hp
    · cases hp; exact lv_ishr hx hb hd (kk _ hl)
    · cases hp
  case i2d =>
    simp only [mpure] at hp; split at hp
    · cases hp; exact lv_i2d hx hb hd (kk _ hl)
    · cases hp
  case l2d =>
    simp only [mpure] at hp; split at hp
    · cases hp; exact lv_l2d hx hb hd (kk _ hl)
    · cases hp
  case dcmp op =>
    simp only [mpure] at hp; split at hp
    · cases hp; exact lv_dcmp hx hb hd (kk _ hl)
    · cases hp
  case idiv =>
    simp only [mpure] at hp; split at hp
    · split at hp
      · cases hp
      · rename_i h0; cases hp; exact lv_idiv hx hb hd h0 (kk _ hl)
    · cases hp
  case irem =>
    simp only [mpure] at hp; split at hp
    · split at hp
      · cases hp
      · rename_i h0; cases hp; exact lv_irem hx hb hd h0 (kk _ hl)
    · cases hp
  case lcmp =>
    simp only [mpure] at hp; split at hp
    · cases hp; exact W.lcmp hx hb hd (kk _ hl)
    · cases hp
  case ddiv =>
    simp only [mpure] at hp; split at hp
    · split at hp
      · rename_i h0; cases hp; exact lv_ddiv hx hb hd h0 (kk _ hl)
      · cases hp
    · cases hp
  case dload_n k =>
    simp only [mpure] at hp; split at hp
    · rename_i h0; cases hp; exact lv_dload_n hx hb hd rfl (trL_at hl h0) (kk _ hl)
    · cases hp
  case dload k =>
    simp only [mpure] at hp; split at hp
    · rename_i h0; cases hp; exact lv_dload hx hb hd (trL_at hl h0) (kk _ hl)
    · cases hp
  case dstore_n k =>
    simp only [mpure] at hp; split at hp
    · split at hp
      · rename_i h0; cases hp; exact lv_dstore_n hx hb hd rfl hl h0 (trL_set2 ad lv _ (.double _)) kk
      · cases hp
    · cases hp
  case dstore k =>
    simp only [mpure] at hp; split at hp
    · split at hp
      · rename_i h0; cases hp; exact lv_dstore hx hb hd hl h0 (trL_set2 ad lv _ (.double _)) kk
      · cases hp
    · cases hp
  case tableswitch dflt lo hi offs =>
    simp only [mpure] at hp; split at hp
    · split at hp
      · rename_i h0; split at hp
        · rename_i h1; cases hp; exact lv_tableOut hx hb hd h0 (mtgt_ok h1) (kk _ hl)
        · cases hp
      · rename_i h0; split at hp
        · rename_i h2; split at hp
          · rename_i h1; cases hp; exact lv_tableIn hx hb hd (fun h => h0 (Or.inl h)) (fun h => h0 (Or.inr h)) h2 (mtgt_ok h1) (kk _ hl)
          · cases hp
        · cases hp
    · cases hp
  case lookupswitch dflt ps =>
    simp only [mpure] at hp; split at hp
    · split at hp
      · rename_i h0; split at hp
        · rename_i h1; cases hp; exact lv_lookup hx hb hd h0 rfl (mtgt_ok h1) (kk _ hl)
        · cases hp
      · cases hp
    · cases hp
  case i2l =>
    simp only [mpure] at hp; split at hp
    · cases hp; exact lv_i2l hx hb hd rfl (kk _ hl)
    · cases hp
  case dup =>
    simp only [mpure] at hp; split at hp
    · split at hp
      · rename_i h0; cases hp; exact lv_dup hx hb hd ((trV_cat ad _).trans h0) (kk _ hl)
      · cases hp
    · cases hp
  case pop =>
    simp only [mpure] at hp; split at hp
    · split at hp
      · rename_i h0; cases hp; exact lv_pop hx hb hd ((trV_cat ad _).trans h0) (kk _ hl)
      · cases hp
    · cases hp
  case aconst_null =>
    simp only [mpure] at hp; cases hp; exact lv_null hx hb hd (kk _ hl)
  case dup_x1 =>
    simp only [mpure] at hp; split at hp
    · split at hp
      · rename_i h0; cases hp; exact lv_dup_x1 hx hb hd ((trV_cat ad _).trans h0.1) ((trV_cat ad _).trans h0.2) (kk _ hl)
      · cases hp
    · cases hp
  case dup2 =>
    simp only [mpure] at hp; split at hp
    · split at hp
      · rename_i h0; cases hp; exact lv_dup2_11 hx hb hd ((trV_cat ad _).trans h0.1) ((trV_cat ad _).trans h0.2) (kk _ hl)
      · cases hp
    · cases hp
  case if_acmp cd off =>
    cases cd
    case eq =>
      simp only [mpure] at hp; split at hp
      · split at hp
        · rename_i x y r h0; obtain ⟨h1, h2⟩ := h0; cases hp
          exact lv_acmp_eq (rx := some (ad y)) (ry := some (ad x)) hx hb hd (mtgt_ok h2) (fun _ => kk _ hl) (fun h9 => absurd (by rw [h1]) h9)
        · cases hp
      · cases hp
    case ne =>
      simp only [mpure] at hp; split at hp
      · split at hp
        · rename_i x y r h0; obtain ⟨h1, h2⟩ := h0; cases hp
          exact lv_acmp_ne (rx := some (ad y)) (ry := some (ad x)) hx hb hd (mtgt_ok h2) (fun h9 => absurd (by rw [h1]) h9) (fun _ => kk _ hl)
        · cases hp
      · cases hp
  case goto off =>
    simp only [mpure] at hp; split at hp
    · rename_i h0; cases hp; exact lv_goto hx hb hd (mtgt_ok h0) (kk _ hl)
    · cases hp
  case ifCond cd off =>
    cases cd
    case eq =>
      simp only [mpure] at hp; split at hp
      · split at hp
        · rename_i h0; cases hp; refine lv_if_eq hx hb hd (mtgt_ok h0) (fun h => ?_) (fun h => ?_)
          · have k1 := kk _ hl
            rw [if_pos h] at k1
            exact k1
          · have k1 := kk _ hl
            rw [if_neg h] at k1
            exact k1
        · cases hp
      · cases hp
    case ne =>
      simp only [mpure] at hp; split at hp
      · split at hp
        · rename_i h0; cases hp; refine lv_if_ne hx hb hd (mtgt_ok h0) (fun h => ?_) (fun h => ?_)
          · have k1 := kk _ hl
            rw [if_neg h] at k1
            exact k1
          · have k1 := kk _ hl
            rw [if_pos h] at k1
            exact k1
        · cases hp
      · cases hp
    case lt =>
      simp only [mpure] at hp; split at hp
      · split at hp
        · rename_i h0; cases hp; refine lv_if_lt hx hb hd (mtgt_ok h0) (fun h => ?_) (fun h => ?_)
          · have k1 := kk _ hl
            rw [if_pos h] at k1
            exact k1
          · have k1 := kk _ hl
            rw [if_neg h] at k1
            exact k1
        · cases hp
      · cases hp
    case ge =>
      simp only [mpure] at hp; split at hp
      · split at hp
        · rename_i h0; cases hp; refine lv_if_ge hx hb hd (mtgt_ok h0) (fun h => ?_) (fun h => ?_)
          · have k1 := kk _ hl
            rw [if_pos h] at k1
            exact k1
          · have k1 := kk _ hl
            rw [if_neg h] at k1
            exact k1
        · cases hp
      · cases hp
    case gt =>
      simp only [mpure] at hp; split at hp
      · split at hp
        · rename_i h0; cases hp; refine lv_if_gt hx hb hd (mtgt_ok h0) (fun h => ?_) (fun h => ?_)
          · have k1 := kk _ hl
            rw [if_pos h] at k1
            exact k1
          · have k1 := kk _ hl
            rw [if_neg h] at k1
            exact k1
        · cases hp
      · cases hp
    case le =>
      simp only [mpure] at hp; split at hp
      · split at hp
        · rename_i h0; cases hp; refine lv_if_le hx hb hd (mtgt_ok h0) (fun h => ?_) (fun h => ?_)
          · have k1 := kk _ hl
            rw [if_pos h] at k1
            exact k1
          · have k1 := kk _ hl
            rw [if_neg h] at k1
            exact k1
        · cases hp
      · cases hp
  case if_icmp cd off =>
    cases cd
    case eq =>
      simp only [mpure] at hp; split at hp
      · split at hp
        · rename_i h0; cases hp; refine lv_icmp_eq hx hb hd (mtgt_ok h0) (fun h => ?_) (fun h => ?_)
          · have k1 := kk _ hl
            rw [if_pos h] at k1
            exact k1
          · have k1 := kk _ hl
            rw [if_neg h] at k1
            exact k1
        · cases hp
      · cases hp
    case ne =>
      simp only [mpure] at hp; split at hp
      · split at hp
        · rename_i h0; cases hp; refine lv_icmp_ne hx hb hd (mtgt_ok h0) (fun h => ?_) (fun h => ?_)
          · have k1 := kk _ hl
            rw [if_neg h] at k1
            exact k1
          · have k1 := kk _ hl
            rw [if_pos h] at k1
            exact k1
        · cases hp
      · cases hp
    case lt =>
      simp only [mpure] at hp; split at hp
      · split at hp
        · rename_i h0; cases hp; refine lv_icmp_lt hx hb hd (mtgt_ok h0) (fun h => ?_) (fun h => ?_)
          · have k1 := kk _ hl
            rw [if_pos h] at k1
            exact k1
          · have k1 := kk _ hl
            rw [if_neg h] at k1
            exact k1
        · cases hp
      · cases hp
    case ge =>
      simp only [mpure] at hp; split at hp
      · split at hp
        · rename_i h0; cases hp; refine lv_icmp_ge hx hb hd (mtgt_ok h0) (fun h => ?_) (fun h => ?_)
          · have k1 := kk _ hl
            rw [if_pos h] at k1
            exact k1
          · have k1 := kk _ hl
            rw [if_neg h] at k1
            exact k1
        · cases hp
      · cases hp
    case gt =>
      simp only [mpure] at hp; split at hp
      · split at hp
        · rename_i h0; cases hp; refine lv_icmp_gt hx hb hd (mtgt_ok h0) (fun h => ?_) (fun h => ?_)
          · have k1 := kk _ hl
            rw [if_pos h] at k1
            exact k1
          · have k1 := kk _ hl
            rw [if_neg h] at k1
            exact k1
        · cases hp
      · cases hp
    case le =>
      simp only [mpure] at hp; split at hp
      · split at hp
        · rename_i h0; cases hp; refine lv_icmp_le hx hb hd (mtgt_ok h0) (fun h => ?_) (fun h => ?_)
          · have k1 := kk _ hl
            rw [if_pos h] at k1
            exact k1
          · have k1 := kk _ hl
            rw [if_neg h] at k1
            exact k1
        · cases hp
      · cases hp
  all_goals (simp only [mpure] at hp; cases hp)
end MP
end
section
/-! ===== the heap of the small machine, its instructions ===== -/
def mfty (a b : Nat) : FieldType := match mFT[a]? with
  | some t => t b
  | none => .int
def mdef (a N : Nat) : List Value := (List.range N).map (fun k => defaultValue (mfty a k))
/-- can a thing of the class a be stored in a row of C -/
def mcast (a : Nat) (C : String) : Bool := match mCl[a]? with
  | some c => decide (Cond.castable c.1 C ∈ mXw)
  | none => false
/-- an object's class's number and fields, outer or not -/
def mobjE (E : mE) (h : List mO) (a : Nat) : Option (Nat × List Value) := if a < E.length then (match E[a]? with
    | some (.inr o) => some o
    | _ => none) else (match h[a - E.length]? with
    | some (.inr o) => some o
    | _ => none)
/-- a row of the list, of the type t -/
def mrow (X t : Nat) (h : List mO) (a : Nat) : Option (Nat × List (Nat × Value)) := match mget X h a with
  | some (.inl x) => if x.1 = t then some x.2 else none
  | _ => none
def mwords (st : List Value) : Nat := (st.map fun v => v.category).sum
/-- what a copy of references needs of an element, and what it writes -/
def mcpO (E : mE) (h : List mO) (u : List (Nat × Value)) (sp i : Nat) : Bool := match mupR u (sp + i) with
  | none => true
  | some a => (match mobjE E h a with
    | some o => decide (o.1 = 0)
    | none => false)
def mcpW (u : List (Nat × Value)) (sp dp n : Nat) : List (Nat × Value) := (List.range n).map (fun i => (dp + i, va_rf (mupR u (sp + i))))
/-- an instruction that reads, writes or makes something of the heap: the next place, the stack, the heap -/
def mheap (E : mE) (e : mIns) (st : List Value) (h : mH) : Option (Nat × List Value × mH) := match e.2.1 with
  | .getfield _ => match st with
    | .ref q :: r => match mobjE E h.1 q with
      | some o => if o.1 = e.2.2.2.1 then (match mCl[e.2.2.2.1]? with
        | some _ => (match o.2[e.2.2.2.2.1]? with
          | some v => some (e.1 + 3, v :: r, h)
          | none => none)
        | none => none) else none
      | none => none
    | _ => none
  | .putfield _ => match st with
    | v :: .ref q :: r => match mget E.length h.1 q with
      | some (.inr o) => if o.1 = e.2.2.2.1 then (match mCl[e.2.2.2.1]? with
        | some _ => if e.2.2.2.2.1 < o.2.length ∧ narrow (mfty e.2.2.2.1 e.2.2.2.2.1) v = v ∧ fits (mfty e.2.2.2.1 e.2.2.2.2.1) v = true then some (e.1 + 3, r, (h.1.set (q - E.length) (.inr (o.1, o.2.set e.2.2.2.2.1 v)), h.2)) else none
        | none => none) else none
      | _ => none
    | _ => none
  | .iaload => match st with
    | .int i :: .ref q :: r => if q < E.length then (match E[q]? with
        | some (.inl (0, n, .inl f)) => if i < 0 ∨ n ≤ i.toNatClampNeg then none else some (e.1 + 1, .int (f i.toNatClampNeg) :: r, h)
        | _ => none) else (match mrow E.length 0 h.1 q with
        | some x => if i < 0 ∨ x.1 ≤ i.toNatClampNeg then none else some (e.1 + 1, .int (mupI x.2 i.toNatClampNeg) :: r, h)
        | none => none)
    | _ => none
  | .aaload => match st with
    | .int i :: .ref q :: r => if q < E.length then (match E[q]? with
        | some (.inl (t, n, .inr (.inr (.inr (.inr f))))) => (match (mETys[t]? : Option FieldType) with
          | some (.object _) => if i < 0 ∨ n ≤ i.toNatClampNeg then none else some (e.1 + 1, va_rf (f i.toNatClampNeg) :: r, h)
          | _ => none)
        | _ => none) else (match mrow E.length 3 h.1 q with
        | some x => (match (mTys[3]? : Option FieldType) with
          | some (.object _) => if i < 0 ∨ x.1 ≤ i.toNatClampNeg then none else some (e.1 + 1, va_rf (mupR x.2 i.toNatClampNeg) :: r, h)
          | _ => none)
        | none => none)
    | _ => none
  | .laload => match st with
    | .int i :: .ref q :: r => match mrow E.length 1 h.1 q with
      | some x => if mTys[1]? = some .long then (if i < 0 ∨ x.1 ≤ i.toNatClampNeg then none else some (e.1 + 1, .long (mupL x.2 i.toNatClampNeg) :: r, h)) else none
      | none => none
    | _ => none
  | .daload => match st with
    | .int i :: .ref q :: r => match mrow E.length 2 h.1 q with
      | some x => if mTys[2]? = some .double then (if i < 0 ∨ x.1 ≤ i.toNatClampNeg then none else some (e.1 + 1, .double (mupD x.2 i.toNatClampNeg) :: r, h)) else none
      | none => none
    | _ => none
  | .iastore => match st with
    | .int x :: .int i :: .ref q :: r => match mrow E.length 0 h.1 q with
      | some y => if i < 0 ∨ y.1 ≤ i.toNatClampNeg then none else some (e.1 + 1, r, (h.1.set (q - E.length) (.inl (0, y.1, (i.toNatClampNeg, .int x) :: y.2)), h.2))
      | none => none
    | _ => none
  | .lastore => match st with
    | .long x :: .int i :: .ref q :: r => match mrow E.length 1 h.1 q with
      | some y => if mTys[1]? = some .long then (if i < 0 ∨ y.1 ≤ i.toNatClampNeg then none else some (e.1 + 1, r, (h.1.set (q - E.length) (.inl (1, y.1, (i.toNatClampNeg, .long x) :: y.2)), h.2))) else none
      | none => none
    | _ => none
  | .dastore => match st with
    | .double x :: .int i :: .ref q :: r => match mrow E.length 2 h.1 q with
      | some y => if mTys[2]? = some .double then (if i < 0 ∨ y.1 ≤ i.toNatClampNeg then none else some (e.1 + 1, r, (h.1.set (q - E.length) (.inl (2, y.1, (i.toNatClampNeg, .double x) :: y.2)), h.2))) else none
      | none => none
    | _ => none
  | .aastore => match st with
    | .ref v :: .int i :: .ref q :: r => match mrow E.length 3 h.1 q, mobjE E h.1 v with
      | some y, some o => (match (mTys[3]? : Option FieldType) with
        | some (.object C) => if mcast o.1 C = true then (if i < 0 ∨ y.1 ≤ i.toNatClampNeg then none else some (e.1 + 1, r, (h.1.set (q - E.length) (.inl (3, y.1, (i.toNatClampNeg, .ref v) :: y.2)), h.2))) else none
        | _ => none)
      | _, _ => none
    | _ => none
  | .arraylength => match st with
    | .ref q :: r => if q < E.length then (match E[q]? with
        | some (.inl x) => (match mTys[x.1]? with
          | some _ => some (e.1 + 1, .int (Int32.ofNat x.2.1) :: r, h)
          | none => none)
        | _ => none) else (match mget E.length h.1 q with
        | some (.inl x) => if x.1 ≤ 3 then (match mTys[x.1]? with
          | some _ => some (e.1 + 1, .int (Int32.ofNat x.2.1) :: r, h)
          | none => none) else none
        | _ => none)
    | _ => none
  | .new _ => match mCl[e.2.2.2.1]? with
    | some c => some (e.1 + 3, .ref (E.length + h.1.length) :: st, (h.1 ++ [.inr (e.2.2.2.1, mdef e.2.2.2.1 c.2.2)], h.2.1 + 1, h.2.2 + c.2.2))
    | none => none
  | .newarray ty => match st with
    | .int n :: r => if n < 0 then none else (if n.toNatClampNeg * 8 ≤ 536870912 ∧ e.2.2.2.1 ≤ 2 then (if mTys[e.2.2.2.1]? = some (newarray.typeOf ty) then some (e.1 + 2, .ref (E.length + h.1.length) :: r, (h.1 ++ [.inl (e.2.2.2.1, n.toNatClampNeg, [])], h.2.1 + 1, h.2.2 + n.toNatClampNeg)) else none) else none)
    | _ => none
  | .anewarray _ => match st with
    | .int n :: r => if n < 0 then none else (if n.toNatClampNeg * 8 ≤ 536870912 ∧ e.2.2.2.1 = 3 then (match mTys[e.2.2.2.1]? with
        | some (.object C) => if Cond.arrayOver (.object C) ∈ mXw then some (e.1 + 3, .ref (E.length + h.1.length) :: r, (h.1 ++ [.inl (e.2.2.2.1, n.toNatClampNeg, [])], h.2.1 + 1, h.2.2 + n.toNatClampNeg)) else none
        | _ => none) else none)
    | _ => none
  | .ldc _ => if e.2.2.1 = 0 then some (e.1 + 2, .int (Int32.ofNat e.2.2.2.1) :: st, h) else (if e.2.2.1 = 1 then (match mMir[e.2.2.2.1]? with
    | some z => some (e.1 + 2, .ref z.2 :: st, h)
    | none => none) else none)
  | .invokevirtual _ => if e.2.2.2.1 = 994 then (match st with
    | .ref q :: r => (match mrow E.length 3 h.1 q, mMir[0]? with
      | some _, some z => if mTys[3]? = some (.object "java/lang/Object") ∧ z.1 = "[Ljava/lang/Object;" ∧ mwords r ≤ 8 then some (e.1 + 3, .ref z.2 :: r, h) else none
      | _, _ => none)
    | _ => none) else none
  | .invokestatic _ => if e.2.2.2.1 = 993 then (match st with
    | .int n :: .int dp :: .ref q :: .int sp :: .ref u :: r => (match mrow E.length 3 h.1 u, mrow E.length 3 h.1 q with
      | some x, some y => if (sp < 0 ∨ dp < 0 ∨ n < 0) ∨ (x.1 < sp.toNatClampNeg + n.toNatClampNeg ∨ y.1 < dp.toNatClampNeg + n.toNatClampNeg) ∨ 8 < mwords r then none else (if mTys[3]? = some (.object "java/lang/Object") ∧ mcast 0 "java/lang/Object" = true ∧ (List.range n.toNatClampNeg).all (mcpO E h.1 x.2 sp.toNatClampNeg) = true then some (e.1 + 3, r, (h.1.set (q - E.length) (.inl (3, y.1, mcpW x.2 sp.toNatClampNeg dp.toNatClampNeg n.toNatClampNeg ++ y.2)), h.2)) else none)
      | _, _ => none)
    | _ => none) else none
  | .ldc2_w _ => if e.2.2.1 = 0 then some (e.1 + 3, .long (Int64.ofNat e.2.2.2.1) :: st, h) else none
  | .getstatic _ => match mStat[e.2.2.2.1]? with
    | some z => if e.2.2.1 = 0 then some (e.1 + 3, z.2.2.2 :: st, h) else none
    | none => none
  | _ => none
/-! ===== what the tables say of it ===== -/
def mTBL : List Cond := lw_tbl.filter goodWord
theorem mTBL_of {w : Cond} {k : Nat} (h : lw_tbl[k]? = some w) (hg : goodWord w = true) : w ∈ mTBL := List.mem_filter.mpr ⟨List.mem_of_getElem? h, hg⟩
def mGc : MethodName := ⟨"java/lang/Object", "getClass", "()Ljava/lang/Class;"⟩
/-- how a field's instruction is linked: plainly, as a nest mate's, through a class that inherits it -/
def mlinkF (own : String) (idx n k : Nat) (o f d : String) : Bool := if n = 0 then decide (lw_tbl[k]? = some (.fieldLink own idx o f d)) else (if n = 1 then (match mXw[k]? with
  | some (.fieldLinkNest ow i r f1 d1 _) => decide (ow = own ∧ i = idx ∧ r = o ∧ f1 = f ∧ d1 = d)
  | _ => false) else (match lw_tbl[n]? with
  | some (.sameField r o1 f1 d1) => decide (o1 = o ∧ f1 = f ∧ d1 = d) && decide (lw_tbl[k]? = some (.fieldLink own idx r f d))
  | _ => false))
def mneedR (e : mIns) : Bool := decide (e.2.2.2.1 = 993) || decide (e.2.2.2.1 = 994)
def mchk (own : String) (init : Bool) (e : mIns) : Bool := match e.2.1 with
  | .getfield idx => match mCl[e.2.2.2.1]? with
    | some c => decide (e.2.2.2.2.1 < c.2.2) && mlinkF own idx e.2.2.1 e.2.2.2.2.2 (c.2.1 e.2.2.2.2.1).1 (c.2.1 e.2.2.2.2.1).2.1 (c.2.1 e.2.2.2.2.1).2.2.1
    | none => true
  | .putfield idx => match mCl[e.2.2.2.1]? with
    | some c => decide (e.2.2.2.2.1 < c.2.2) && ((mlinkF own idx e.2.2.1 e.2.2.2.2.2 (c.2.1 e.2.2.2.2.1).1 (c.2.1 e.2.2.2.2.1).2.1 (c.2.1 e.2.2.2.2.1).2.2.1 && decide (e.2.2.1 ≠ 1)) && (decide ((c.2.1 e.2.2.2.2.1).2.2.2 = false) || (decide ((c.2.1 e.2.2.2.2.1).2.2.2 = true) && init && decide ((c.2.1 e.2.2.2.2.1).1 = own))))
    | none => true
  | .new idx => match mCl[e.2.2.2.1]? with
    | some c => decide (lw_tbl[e.2.2.2.2.2]? = some (.classLink own idx c.1))
    | none => true
  | .anewarray idx => match mTys[e.2.2.2.1]? with
    | some (.object C) => decide (lw_tbl[e.2.2.2.2.2]? = some (.classLink own idx C))
    | _ => true
  | .ldc idx => if e.2.2.1 = 0 then decide (lw_tbl[e.2.2.2.2.2]? = some (.constant own idx (Int32.ofNat e.2.2.2.1))) else (if e.2.2.1 = 1 then (match mMir[e.2.2.2.1]? with
    | some z => decide (lw_tbl[e.2.2.2.2.2]? = some (.classLink own idx z.1))
    | none => true) else true)
  | .invokevirtual idx => if e.2.2.2.1 = 994 then decide (lw_tbl[e.2.2.2.2.2]? = some (.methodLink own idx mGc)) else true
  | .invokestatic idx => if e.2.2.2.1 = 993 then decide (lw_tbl[e.2.2.2.2.2]? = some (.methodLink own idx arraycopyName)) else true
  | .ldc2_w idx => if e.2.2.1 = 0 then decide (lw_tbl[e.2.2.2.2.2]? = some (.constantLong own idx (Int64.ofNat e.2.2.2.1))) else true
  | .getstatic idx => match mStat[e.2.2.2.1]? with
    | some z => if e.2.2.1 = 0 then decide (lw_tbl[e.2.2.2.2.2]? = some (.fieldLink own idx z.1 z.2.1 z.2.2.1)) else true
    | none => true
  | _ => true
def mNatOk : Bool := decide (lw_tbl[mNatPos.1]? = some (.selects "[Ljava/lang/Object;" mGc mGc)) && (decide (lw_tbl[mNatPos.2.1]? = some (.instanceMethod mGc)) && (decide (lw_tbl[mNatPos.2.2.1]? = some (.native mGc)) && (decide (lw_tbl[mNatPos.2.2.2.1]? = some (.native arraycopyName)) && (decide (lw_tbl[mNatPos.2.2.2.2.1]? = some (.static arraycopyName)) && (decide (lw_tbl[mNatPos.2.2.2.2.2]? = some (.initialized "java/lang/System")) && decide (Cond.declares mGc ∈ mXw))))))
theorem mNat_ok (h : mTys[3]? = some (.object "java/lang/Object")) : mNatOk = true := by simp [mTys] at h
end
section
/-! ===== each class: its fields' words, their types, that they are apart; that it can be made ===== -/
def mClP (ci : Nat) (r : vw_C) : Prop := (∀ w ∈ u_ws r.1 r.2.1 r.2.2, w ∈ mTBL) ∧ (∀ k, k < r.2.2 → parseFieldDescriptor (r.2.1 k).2.2.1 = some (mfty ci k)) ∧ (∀ a, a < r.2.2 → ∀ b, b < r.2.2 → a ≠ b → (r.2.1 a).2.1 ≠ (r.2.1 b).2.1) ∧ Cond.instantiable r.1 r.2.2 ∈ mTBL ∧ Cond.initialized r.1 ∈ mTBL
theorem mcl_ws {C : String} {T : u_T} {N : Nat} (h : (u_ws C T N).all (fun w => decide (w ∈ lw_tbl) && goodWord w) = true) : ∀ w ∈ u_ws C T N, w ∈ mTBL := by
  intro w hw
  have h1 := List.all_eq_true.mp h w hw
  simp only [Bool.and_eq_true, decide_eq_true_eq] at h1
  exact List.mem_filter.mpr h1
set_option maxRecDepth 100000 in
theorem mcl_0 : mClP 0 (RX0, TX0, 4) := ⟨mcl_ws (by decide +kernel), tyX0_ok, nmX0, mTBL_of (k := 180) (by decide +kernel) rfl, mTBL_of (k := 37) (by decide +kernel) rfl⟩
set_option maxRecDepth 100000 in
theorem mcl_1 : mClP 1 (RX2, TX2, 1) := ⟨mcl_ws (by decide +kernel), tyX2_ok, nmX2, mTBL_of (k := 61) (by decide +kernel) rfl, mTBL_of (k := 33) (by decide +kernel) rfl⟩
set_option maxRecDepth 100000 in
theorem mcl_2 : mClP 2 (RX3, TX3, 14) := ⟨mcl_ws (by decide +kernel), tyX3_ok, nmX3, mTBL_of (k := 115) (by decide +kernel) rfl, mTBL_of (k := 36) (by decide +kernel) rfl⟩
set_option maxRecDepth 100000 in
theorem mcl_3 : mClP 3 (RX4, TX4, 13) := ⟨mcl_ws (by decide +kernel), tyX4_ok, nmX4, mTBL_of (k := 109) (by decide +kernel) rfl, mTBL_of (k := 35) (by decide +kernel) rfl⟩
set_option maxRecDepth 100000 in
theorem mcl_4 : mClP 4 (RX5, TX5, 2) := ⟨mcl_ws (by decide +kernel), tyX5_ok, nmX5, mTBL_of (k := 55) (by decide +kernel) rfl, mTBL_of (k := 32) (by decide +kernel) rfl⟩
set_option maxRecDepth 100000 in
theorem mcl_5 : mClP 5 (RX6, TX6, 3) := ⟨mcl_ws (by decide +kernel), tyX6_ok, nmX6, mTBL_of (k := 82) (by decide +kernel) rfl, mTBL_of (k := 34) (by decide +kernel) rfl⟩
set_option maxRecDepth 100000 in
theorem mcl_6 : mClP 6 (RX7, TX7, 7) := ⟨mcl_ws (by decide +kernel), tyX7_ok, nmX7, mTBL_of (k := 47) (by decide +kernel) rfl, mTBL_of (k := 31) (by decide +kernel) rfl⟩
theorem mCl_ok {ci : Nat} {r : vw_C} (h : mCl[ci]? = some r) : mClP ci r := by
  match ci, h with
  | 0, h => cases h; exact mcl_0
  | 1, h => cases h; exact mcl_1
  | 2, h => cases h; exact mcl_2
  | 3, h => cases h; exact mcl_3
  | 4, h => cases h; exact mcl_4
  | 5, h => cases h; exact mcl_5
  | 6, h => cases h; exact mcl_6
  | k + 7, h => simp [mCl] at h
end
section
/-! ===== the list of objects as a world of the kit ===== -/
/-- a row of the list as the kit has it -/
def mdecA (ad : Nat → Nat) (t n : Nat) (u : List (Nat × Value)) : vp_A := match t with
  | 0 => (n, .inl (mupI u))
  | 1 => (n, .inr (.inl (mupL u)))
  | 2 => (n, .inr (.inr (.inr (.inl (mupD u)))))
  | _ => (n, .inr (.inr (.inr (.inr (fun i => (mupR u i).map ad)))))
def trO (cy : Nat → ClassId) (ad : Nat → Nat) (o : mO) : va_E := match o with
  | .inl x => .inl (cy x.1, mdecA ad x.1 x.2.1 x.2.2)
  | .inr x => .inr (x.1, x.2.map (trV ad))
theorem mdecA_len (ad : Nat → Nat) (t n : Nat) (u : List (Nat × Value)) : (mdecA ad t n u).1 = n := by
  unfold mdecA
  split <;> rfl
theorem mupI_c (u : List (Nat × Value)) (i : Nat) (x : Int32) : mupI ((i, .int x) :: u) = upd (mupI u) i x := by
  funext j
  by_cases h : i = j
  · subst h
    simp [mupI, mup, upd]
  · have h2 : ¬ j = i := fun e => h e.symm
    simp [mupI, mup, upd, h, h2]
theorem mupL_c (u : List (Nat × Value)) (i : Nat) (x : Int64) : mupL ((i, .long x) :: u) = vp_updL (mupL u) i x := by
  funext j
  by_cases h : i = j
  · subst h
    simp [mupL, mup, vp_updL]
  · have h2 : ¬ j = i := fun e => h e.symm
    simp [mupL, mup, vp_updL, h, h2]
theorem mupD_c (u : List (Nat × Value)) (i : Nat) (x : UInt64) : mupD ((i, .double x) :: u) = vf_upd (mupD u) i x := by
  funext j
  by_cases h : i = j
  · subst h
    simp [mupD, mup, vf_upd]
  · have h2 : ¬ j = i := fun e => h e.symm
    simp [mupD, mup, vf_upd, h, h2]
theorem mupR_c (u : List (Nat × Value)) (i x : Nat) (ad : Nat → Nat) : (fun j => (mupR ((i, .ref x) :: u) j).map ad) = va_up (fun j => (mupR u j).map ad) i (some (ad x)) := by
  funext j
  by_cases h : i = j
  · subst h
    simp [mupR, mup, va_up]
  · have h2 : ¬ j = i := fun e => h e.symm
    simp [mupR, mup, va_up, h, h2]
def mW (cy : Nat → ClassId) (ad : Nat → Nat) (X : Nat) (h : List mO) : va_W := h.mapIdx (fun i o => (ad (X + i), trO cy ad o))
def mT (cy : Nat → ClassId) : List (ClassId × FieldType) := mTys.mapIdx (fun i ty => (cy i, ty))
theorem mT_get {cy : Nat → ClassId} {t : Nat} {ty : FieldType} (h : mTys[t]? = some ty) : (mT cy)[t]? = some (cy t, ty) := by simp [mT, List.getElem?_mapIdx, h]
theorem mW_get {cy : Nat → ClassId} {ad : Nat → Nat} {X : Nat} {h : List mO} {i : Nat} {o : mO} (hi : h[i]? = some o) : (mW cy ad X h)[i]? = some (ad (X + i), trO cy ad o) := by simp [mW, List.getElem?_mapIdx, hi]
theorem mW_of {cy : Nat → ClassId} {ad : Nat → Nat} {X : Nat} {h : List mO} {i : Nat} {q : Nat × va_E} (hq : (mW cy ad X h)[i]? = some q) : ∃ o, h[i]? = some o ∧ q = (ad (X + i), trO cy ad o) := by
  simp only [mW, List.getElem?_mapIdx, Option.map_eq_some_iff] at hq
  obtain ⟨o, h1, h2⟩ := hq
  exact ⟨o, h1, h2.symm⟩
theorem mW_len {cy : Nat → ClassId} {ad : Nat → Nat} {X : Nat} {h : List mO} : (mW cy ad X h).length = h.length := by simp [mW]
theorem mW_set {cy : Nat → ClassId} {ad : Nat → Nat} {X : Nat} {h : List mO} {i : Nat} {o : mO} : (mW cy ad X h).set i (ad (X + i), trO cy ad o) = mW cy ad X (h.set i o) := by
  apply List.ext_getElem?
  intro k
  rw [List.getElem?_set]
  simp only [mW, List.getElem?_mapIdx, List.getElem?_set, List.length_mapIdx]
  by_cases hk : i = k
  · subst hk
    simp only [if_true]
    split <;> simp_all
  · simp [hk]
theorem mW_push {cy : Nat → ClassId} {ad : Nat → Nat} {X : Nat} {h : List mO} {o : mO} : mW cy ad X (h ++ [o]) = mW cy ad X h ++ [(ad (X + h.length), trO cy ad o)] := by simp [mW, List.mapIdx_append]
/-! what is not beyond the list's end -/
def wfV (n : Nat) (v : Value) : Prop := match v with
  | .ref a => a < n
  | _ => True
def wfO (n : Nat) (o : mO) : Prop := match o with
  | .inl x => ∀ q ∈ x.2.2, wfV n q.2
  | .inr x => ∀ v ∈ x.2, wfV n v
/-- the same of an outer thing -/
def wfA (n : Nat) (a : vp_A) : Prop := match a.2 with
  | .inr (.inr (.inr (.inr f))) => ∀ i q : Nat, f i = some q → q < n
  | _ => True
def wfX (n : Nat) (o : mX) : Prop := match o with
  | .inl x => wfA n x.2
  | .inr x => ∀ v ∈ x.2, wfV n v
theorem mup_mem {u : List (Nat × Value)} {j : Nat} {v : Value} (h : mup u j = some v) : (j, v) ∈ u := by
  induction u with
  | nil => cases h
  | cons q r ih =>
    unfold mup at h
    split at h
    · rename_i hq
      cases h
      rw [← hq]
      exact List.mem_cons_self
    · exact List.mem_cons_of_mem _ (ih h)
theorem mupR_wf {n : Nat} {u : List (Nat × Value)} (h : ∀ q ∈ u, wfV n q.2) {j q : Nat} (hq : mupR u j = some q) : q < n := by
  unfold mupR at hq
  split at hq
  · rename_i x hx
    cases hq
    exact h _ (mup_mem hx)
  · cases hq
def wfH (X : Nat) (h : List mO) : Prop := ∀ o ∈ h, wfO (X + h.length) o
def wfL (n : Nat) (st : List Value) : Prop := ∀ v ∈ st, wfV n v
def wfLv (n : Nat) (lv : mLv) : Prop := ∀ q ∈ lv, wfV n q.2
def agr (n : Nat) (ad ad' : Nat → Nat) : Prop := ∀ i, i < n → ad' i = ad i
theorem agr.rf {n : Nat} {ad : Nat → Nat} : agr n ad ad := fun _ _ => rfl
theorem agr.tr {n n' : Nat} {ad ad' ad'' : Nat → Nat} (h1 : agr n ad ad') (hn : n ≤ n') (h2 : agr n' ad' ad'') : agr n ad ad'' := fun i hi => (h2 i (Nat.lt_of_lt_of_le hi hn)).trans (h1 i hi)
theorem trV_agr {n : Nat} {ad ad' : Nat → Nat} {v : Value} (h : wfV n v) (ha : agr n ad ad') : trV ad' v = trV ad v := by
  cases v with
  | ref a => exact congrArg Value.ref (ha a h)
  | _ => rfl
theorem map_agr {n : Nat} {ad ad' : Nat → Nat} {st : List Value} (h : wfL n st) (ha : agr n ad ad') : st.map (trV ad') = st.map (trV ad) := List.map_congr_left fun v hv => trV_agr (h v hv) ha
theorem trL_agr {n : Nat} {ad ad' : Nat → Nat} {lv : mLv} (h : wfLv n lv) (ha : agr n ad ad') : trL ad' lv = trL ad lv := List.map_congr_left fun q hq => by rw [trV_agr (h q hq) ha]
theorem trO_agr {n : Nat} {cy : Nat → ClassId} {ad ad' : Nat → Nat} {o : mO} (h : wfO n o) (ha : agr n ad ad') : trO cy ad' o = trO cy ad o := by
  cases o with
  | inl x =>
    obtain ⟨t, k, u⟩ := x
    have h2 : (fun i => (mupR u i).map ad') = (fun i => (mupR u i).map ad) := by
      funext j
      cases hj : mupR u j with
      | none => rfl
      | some q => exact congrArg some (ha q (mupR_wf h hj))
    simp only [trO, mdecA]
    split <;> first | rfl | rw [h2]
  | inr x => exact congrArg (fun z => Sum.inr (x.1, z)) (map_agr h ha)
theorem mW_agr {X : Nat} {cy : Nat → ClassId} {ad ad' : Nat → Nat} {h : List mO} (hw : wfH X h) (ha : agr (X + h.length) ad ad') : mW cy ad' X h = mW cy ad X h := by
  apply List.ext_getElem?
  intro k
  simp only [mW, List.getElem?_mapIdx]
  cases hk : h[k]? with
  | none => rfl
  | some o =>
    have hl : k < h.length := (List.getElem?_eq_some_iff.mp hk).1
    simp only [Option.map_some]
    rw [trO_agr (hw o (List.mem_of_getElem? hk)) ha, ha (X + k) (by omega)]
theorem wfV.up {n n' : Nat} (hn : n ≤ n') {v : Value} (h : wfV n v) : wfV n' v := by
  cases v with
  | ref a => exact Nat.lt_of_lt_of_le h hn
  | _ => trivial
theorem wfL.up {n n' : Nat} (hn : n ≤ n') {st : List Value} (h : wfL n st) : wfL n' st := fun v hv => (h v hv).up hn
theorem wfLv.up {n n' : Nat} (hn : n ≤ n') {lv : mLv} (h : wfLv n lv) : wfLv n' lv := fun q hq => (h q hq).up hn
theorem wfO.up {n n' : Nat} (hn : n ≤ n') {o : mO} (h : wfO n o) : wfO n' o := by
  cases o with
  | inl x => exact fun q hq => (h q hq).up hn
  | inr x => exact fun v hv => (h v hv).up hn
theorem wfH.push {X : Nat} {h : List mO} {o : mO} (hw : wfH X h) (ho : wfO (X + (h.length + 1)) o) : wfH X (h ++ [o]) := by
  intro x hx
  rw [List.length_append, List.length_singleton]
  rcases List.mem_append.mp hx with h1 | h1
  · exact (hw x h1).up (by omega)
  · rw [List.mem_singleton.mp h1]
    exact ho
theorem wfH.set {X : Nat} {h : List mO} {i : Nat} {o : mO} (hw : wfH X h) (ho : wfO (X + h.length) o) : wfH X (h.set i o) := by
  intro x hx
  rw [List.length_set]
  rcases List.mem_or_eq_of_mem_set hx with h1 | h1
  · exact hw x h1
  · rw [h1]
    exact ho
theorem mget_at {X : Nat} {h : List mO} {a : Nat} {o : mO} (hg : mget X h a = some o) : X ≤ a ∧ h[a - X]? = some o := by
  unfold mget at hg
  split at hg
  · cases hg
  · exact ⟨by omega, hg⟩
theorem mget_W {cy : Nat → ClassId} {ad : Nat → Nat} {X : Nat} {h : List mO} {a : Nat} {o : mO} (hg : mget X h a = some o) : (mW cy ad X h)[a - X]? = some (ad a, trO cy ad o) := by
  obtain ⟨h1, h2⟩ := mget_at hg
  have h3 := mW_get (cy := cy) (ad := ad) (X := X) h2
  rwa [show X + (a - X) = a by omega] at h3
theorem mset_W {cy : Nat → ClassId} {ad : Nat → Nat} {X : Nat} {h : List mO} {a : Nat} {o o' : mO} (hg : mget X h a = some o) : (mW cy ad X h).set (a - X) (ad a, trO cy ad o') = mW cy ad X (h.set (a - X) o') := by
  obtain ⟨h1, h2⟩ := mget_at hg
  have h3 := mW_set (cy := cy) (ad := ad) (X := X) (h := h) (i := a - X) (o := o')
  rwa [show X + (a - X) = a by omega] at h3
theorem wf_get {X : Nat} {h : List mO} {a : Nat} {o : mO} (hw : wfH X h) (hg : mget X h a = some o) : wfO (X + h.length) o := hw o (List.mem_of_getElem? (mget_at hg).2)
theorem mdef_v {a N j : Nat} (hj : j < N) : defaultValue (mfty a j) = vp_V (mdef a N) j := by
  simp [vp_V, mdef, List.getD_eq_getElem?_getD, hj]
theorem mdef_wf {n a N : Nat} : wfL n (mdef a N) := by
  intro v hv
  obtain ⟨k, -, rfl⟩ := List.mem_map.mp hv
  cases mfty a k <;> trivial
theorem mdef_tr {ad : Nat → Nat} {a N : Nat} : (mdef a N).map (trV ad) = mdef a N := by
  unfold mdef
  rw [List.map_map]
  apply List.map_congr_left
  intro k _
  cases h : mfty a k <;> simp [Function.comp, h, defaultValue, trV]
theorem narrow_tr {ty : FieldType} {ad : Nat → Nat} {v : Value} (h : narrow ty v = v) : narrow ty (trV ad v) = trV ad v := by
  cases v with
  | ref a => cases ty <;> rfl
  | _ => exact h
theorem fits_tr {ty : FieldType} {ad : Nat → Nat} {v : Value} (h : fits ty v = true) : fits ty (trV ad v) = true := by
  cases v with
  | ref a => cases ty <;> first | exact h | rfl
  | _ => exact h
/-- an outer thing: a row of ints or of references, or an object of a class of ours -/
def mEx1 (D : va_G) (ad : Nat → Nat) (A : Nat → Prop) (U : State) (H : Heap) (q : Nat) (o : mX) : Prop := match o with
  | .inl (t, n, .inl f) => ∀ ty : FieldType, mTys[t]? = some ty → va_T ty (ad q) n (fun j => .int (f j)) A U H
  | .inl (t, n, .inr (.inr (.inr (.inr f)))) => ∀ ty : FieldType, mETys[t]? = some ty → va_T ty (ad q) n (fun j => va_rf ((f j).map ad)) A U H
  | .inl _ => False
  | .inr x => ∀ r : vw_C, mCl[x.1]? = some r → (x.2 = [] ∧ va_O r.1 (ad q) A U H) ∨ (va_at D mCl (ad q, .inr (x.1, x.2.map (trV ad))) H ∧ ¬ A (ad q))
/-- the outer things, and the statics -/
def mEx (D : va_G) (E : mE) (ad : Nat → Nat) (A : Nat → Prop) (U : State) (H : Heap) : Prop :=
  (∀ (q : Nat) (o : mX), E[q]? = some o → mEx1 D ad A U H q o) ∧ (∀ z ∈ mStat, va_Z z.1 z.2.1 z.2.2.1 (trV ad z.2.2.2) A U H) ∧ ∀ z ∈ mMir, va_Mi z.1 (ad z.2) U
/-- the outer things and the statics know outer things alone -/
def mEw (E : mE) : Prop := (∀ o ∈ E, wfX E.length o) ∧ (∀ z ∈ mStat, wfV E.length z.2.2.2) ∧ ∀ z ∈ mMir, z.2 < E.length
theorem mEx1.moved {D : va_G} {ad : Nat → Nat} {A : Nat → Prop} {u U : State} {H : Heap} {q : Nat} {o : mX} (hvm : u.vm.Alike U.vm) (h : mEx1 D ad A u H q o) : mEx1 D ad A U H q o := by
  rcases o with ⟨t, n, f | f | f | f | f⟩ | x
  · exact fun ty hty => va_T.moved hvm (h ty hty)
  · exact h
  · exact h
  · exact h
  · exact fun ty hty => va_T.moved hvm (h ty hty)
  · intro r hr
    rcases h r hr with ⟨e, h1⟩ | h1
    · exact Or.inl ⟨e, va_O.moved hvm h1⟩
    · exact Or.inr h1
theorem mEx1.kept {D : va_G} {ad : Nat → Nat} {A : Nat → Prop} {U : State} {H H1 : Heap} {q : Nat} {o : mX} (h : mEx1 D ad A U H q o) (hq : ∀ a : Nat, a < H.size → ¬ A a → H1[a]? = H[a]?) : mEx1 D ad A U H1 q o := by
  rcases o with ⟨t, n, f | f | f | f | f⟩ | x
  · exact fun ty hty => va_T.kept (h ty hty) hq
  · exact h
  · exact h
  · exact h
  · exact fun ty hty => va_T.kept (h ty hty) hq
  · intro r hr
    rcases h r hr with ⟨e, h1⟩ | ⟨h1, h2⟩
    · exact Or.inl ⟨e, h1.kept hq⟩
    · exact Or.inr ⟨h1.kept (hq _ h1.lt h2), h2⟩
theorem mEx1.narrow {D : va_G} {ad : Nat → Nat} {A B : Nat → Prop} {U : State} {H : Heap} {q : Nat} {o : mX} (h : mEx1 D ad A U H q o) (hAB : ∀ q, B q → A q) : mEx1 D ad B U H q o := by
  rcases o with ⟨t, n, f | f | f | f | f⟩ | x
  · exact fun ty hty => va_T.narrow (h ty hty) hAB
  · exact h
  · exact h
  · exact h
  · exact fun ty hty => va_T.narrow (h ty hty) hAB
  · intro r hr
    rcases h r hr with ⟨e, h1⟩ | ⟨h1, h2⟩
    · exact Or.inl ⟨e, h1.narrow hAB⟩
    · exact Or.inr ⟨h1, fun z => h2 (hAB _ z)⟩
theorem mEx1.agr {D : va_G} {ad ad' : Nat → Nat} {A : Nat → Prop} {U : State} {H : Heap} {q n : Nat} {o : mX} (h : mEx1 D ad A U H q o) (hw : wfX n o) (hq : q < n) (ha : agr n ad ad') : mEx1 D ad' A U H q o := by
  rcases o with ⟨t, k, f | f | f | f | f⟩ | x
  · intro ty hty
    rw [ha q hq]
    exact h ty hty
  · exact h
  · exact h
  · exact h
  · intro ty hty
    have h1 := h ty hty
    have h2 : (fun j => va_rf ((f j).map ad')) = (fun j => va_rf ((f j).map ad)) := by
      funext j
      cases hj : f j with
      | none => rfl
      | some z => exact congrArg (fun y => va_rf (some y)) (ha z (hw j z hj))
    rw [ha q hq, h2]
    exact h1
  · intro r hr
    rw [ha q hq, map_agr hw ha]
    exact h r hr
theorem mEx_recv {D : va_G} {tys : List (ClassId × FieldType)} {ad : Nat → Nat} {A : Nat → Prop} {s : State} {H : Heap} {locs : List Loc} {q : Nat} {x : Nat × List Value} {r : vw_C} (hK : va_K D mCl tys s) (hS : va_S A s.heap H locs) (h : mEx1 D ad A s s.heap q (.inr x)) (hr : mCl[x.1]? = some r) : ∃ cell : Cell, H[ad q]? = some cell ∧ cell.vm.isStatics = false ∧ s.vm.findClass r.1 = some cell.cls := by
  rcases h r hr with ⟨-, h1⟩ | ⟨g1, g2⟩
  · exact va_Orecv h1 hS
  · refine va_recv (q0 := 0) (ws := [(ad q, .inr (x.1, x.2.map (trV ad)))]) hK (fun k z hz => ?_) hr rfl
    match k, hz with
    | 0, hz => cases hz; exact g1.kept (hS.2.1 _ g1.lt g2)
    | k + 1, hz => simp at hz
theorem mEx.moved {D : va_G} {E : mE} {ad : Nat → Nat} {A : Nat → Prop} {u U : State} {H : Heap} (hvm : u.vm.Alike U.vm) (h : mEx D E ad A u H) : mEx D E ad A U H := ⟨fun i x hi => (h.1 i x hi).moved hvm, fun z hz => (h.2.1 z hz).moved hvm, fun z hz => (h.2.2 z hz).moved hvm⟩
theorem mEx.kept {D : va_G} {E : mE} {ad : Nat → Nat} {A : Nat → Prop} {U : State} {H H1 : Heap} (h : mEx D E ad A U H) (hq : ∀ a : Nat, a < H.size → ¬ A a → H1[a]? = H[a]?) : mEx D E ad A U H1 := ⟨fun i x hi => (h.1 i x hi).kept hq, fun z hz => (h.2.1 z hz).kept hq, h.2.2⟩
theorem mEx.narrow {D : va_G} {E : mE} {ad : Nat → Nat} {A B : Nat → Prop} {U : State} {H : Heap} (h : mEx D E ad A U H) (hAB : ∀ q, B q → A q) : mEx D E ad B U H := ⟨fun i x hi => (h.1 i x hi).narrow hAB, fun z hz => (h.2.1 z hz).narrow hAB, h.2.2⟩
theorem mEx.agr {D : va_G} {E : mE} {ad ad' : Nat → Nat} {A : Nat → Prop} {U : State} {H : Heap} (h : mEx D E ad A U H) (hE : mEw E) (ha : agr E.length ad ad') : mEx D E ad' A U H := by
  refine ⟨fun i x hi => (h.1 i x hi).agr (hE.1 x (List.mem_of_getElem? hi)) (List.getElem?_eq_some_iff.mp hi).1 ha, fun z hz => ?_, fun z hz => ?_⟩
  · rw [trV_agr (hE.2.1 z hz) ha]
    exact h.2.1 z hz
  · rw [ha z.2 (hE.2.2 z hz)]
    exact h.2.2 z hz
theorem mobjE_or {E : mE} {h : List mO} {a : Nat} {o : Nat × List Value} (hg : mobjE E h a = some o) : (a < E.length ∧ E[a]? = some (.inr o)) ∨ mget E.length h a = some (.inr o) := by
  unfold mobjE at hg
  split at hg
  · rename_i hl
    split at hg
    · rename_i o2 ho
      cases hg
      exact Or.inl ⟨hl, ho⟩
    · cases hg
  · rename_i hl
    split at hg
    · rename_i o2 ho
      cases hg
      exact Or.inr (by unfold mget; rw [if_neg hl]; exact ho)
    · cases hg
theorem mrow_of {X t a : Nat} {h : List mO} {x : Nat × List (Nat × Value)} (hg : mrow X t h a = some x) : mget X h a = some (.inl (t, x)) := by
  unfold mrow at hg
  split at hg
  · rename_i y hy
    split at hg
    · rename_i ht
      cases hg
      rw [← ht]
      exact hy
    · cases hg
  · cases hg
theorem wf_objE {E : mE} {h : List mO} {a : Nat} {o : Nat × List Value} (hE : mEw E) (hw : wfH E.length h) (hg : mobjE E h a = some o) : ∀ v ∈ o.2, wfV (E.length + h.length) v := by
  rcases mobjE_or hg with ⟨-, h1⟩ | h1
  · exact fun v hv => (hE.1 _ (List.mem_of_getElem? h1) v hv).up (Nat.le_add_right _ _)
  · exact wf_get hw h1
theorem va_P_one {D : va_G} {x : Nat × va_E} {H : Heap} (h : va_at D mCl x H) : va_P D mCl [x] H := by
  intro k q hq
  match k, hq with
  | 0, hq => cases hq; exact h
  | k + 1, hq => simp at hq
/-! words that a call moves by rows of their own -/
def mXk (w : Cond) : Bool := match w with
  | .methodLinkNest _ _ _ _ => true
  | .fieldLinkNest _ _ _ _ _ _ => true
  | .declares _ => true
  | .castable _ _ => true
  | .arrayOver (.object _) => true
  | _ => false
theorem mXw_is : mXw.all mXk = true := by decide +kernel
def mIfk (z : String × MethodName × MethodName) : Bool := decide (z.2.1.cls ≠ "java/lang/invoke/MethodHandle" ∧ z.2.1.cls ≠ "java/lang/invoke/VarHandle")
theorem mIfs_is : mIfs.all mIfk = true := by decide +kernel
/-- words that a call moves by rows of their own, and what calls of an interface's methods need -/
def mNs (U : State) : Prop := (∀ w ∈ mXw, va_Nw w U) ∧ ∀ z ∈ mIfs, va_Fw z.1 z.2.1 z.2.2 U
theorem mNs.warm {s U : State} (hW : s.WarmedH U.vm) (h : mNs s) : mNs U := by
  refine ⟨?_, fun z hz => va_Fw.moved (of_decide_eq_true (List.all_eq_true.mp mIfs_is z hz)) hW.alike (h.2 z hz)⟩
  intro w hw
  have h1 := List.all_eq_true.mp mXw_is w hw
  have h2 := h.1 w hw
  unfold mXk at h1
  split at h1
  · exact va_Nw.warmM hW h2
  · exact va_Nw.warmF hW h2
  · exact va_Nw.warmD hW h2
  · exact va_Nw.warmC hW h2
  · exact va_AO.moved hW.alike h2
  · cases h1
theorem mNs.same {u U : State} (hv : u.vm = U.vm) (h : mNs u) : mNs U := by
  refine ⟨?_, fun z hz => va_Fw.moved (of_decide_eq_true (List.all_eq_true.mp mIfs_is z hz)) (hv ▸ Vm.Alike.refl _) (h.2 z hz)⟩
  intro w hw
  have h1 := List.all_eq_true.mp mXw_is w hw
  have h2 := h.1 w hw
  unfold mXk at h1
  split at h1
  · exact va_Nw.same rfl hv h2
  · exact va_Nw.same rfl hv h2
  · exact va_Nw.same rfl hv h2
  · exact va_Nw.same rfl hv h2
  · exact va_AO.moved (hv ▸ Vm.Alike.refl _) h2
  · cases h1
end
section
/-! ===== a pure instruction keeps what is not beyond the list's end ===== -/
theorem mlv_wf {n : Nat} {lv : mLv} (h : wfLv n lv) {i : Nat} {v : Value} (hm : mlv lv i = some v) : wfV n v := h (i, v) (mlv_mem hm)
theorem set1_wf {n : Nat} {lv : mLv} (h : wfLv n lv) {i : Nat} {v : Value} (hv : wfV n v) : wfLv n (mset1 lv i v) := by
  intro q hq
  rcases List.mem_cons.mp hq with e1 | e1
  · rw [e1]; exact hv
  · exact h q (List.mem_filter.mp e1).1
theorem set2_wf {n : Nat} {lv : mLv} (h : wfLv n lv) {i : Nat} {v : Value} (hv : wfV n v) : wfLv n (mset2 lv i v) := by
  intro q hq
  rcases List.mem_cons.mp hq with e1 | e1
  · rw [e1]; exact hv
  · exact h q (List.mem_filter.mp e1).1
theorem wfL.c {n : Nat} {st : List Value} {v : Value} (hv : wfV n v) (h : wfL n st) : wfL n (v :: st) := by
  intro q hq
  rcases List.mem_cons.mp hq with e1 | e1
  · rw [e1]; exact hv
  · exact h q e1
theorem wfL.t {n : Nat} {st : List Value} {v : Value} (h : wfL n (v :: st)) : wfL n st := fun q hq => h q (List.mem_cons_of_mem _ hq)
theorem wfL.h {n : Nat} {st : List Value} {v : Value} (h : wfL n (v :: st)) : wfV n v := h v List.mem_cons_self
set_option maxHeartbeats 4000000 in
theorem pure_wf {n nL : Nat} {i : mIns} {lv lv' : mLv} {st st' : List Value} {pc' : Nat} (hp : mpure nL i lv st = some (pc', lv', st')) (h1 : wfLv n lv) (h2 : wfL n st) : wfLv n lv' ∧ wfL n st' := by
  obtain ⟨pc, i, n9, a, b, d⟩ := i
  cases i
  case iconst n => simp only [mpure] at hp; cases hp; exact ⟨h1, h2.c trivial⟩
  case bipush n => simp only [mpure] at hp; cases hp; exact ⟨h1, h2.c trivial⟩
  case sipush n => simp only [mpure] at hp; cases hp; exact ⟨h1, h2.c trivial⟩
  case lconst n => simp only [mpure] at hp; cases hp; exact ⟨h1, h2.c trivial⟩
  case dconst n =>
    simp only [mpure] at hp; split at hp
    · cases hp; exact ⟨h1, h2.c trivial⟩
    · cases hp
  case iload_n k =>
    simp only [mpure] at hp; split at hp
    · rename_i h0; cases hp; exact ⟨h1, h2.c (mlv_wf h1 h0)⟩
    · cases hp
  case iload k =>
    simp only [mpure] at hp; split at hp
    · rename_i h0; cases hp; exact ⟨h1, h2.c (mlv_wf h1 h0)⟩
    · cases hp
  case istore_n k =>
    simp only [mpure] at hp; split at hp
    · split at hp
      · cases hp; exact ⟨set1_wf h1 h2.h, h2.t⟩
      · cases hp
    · cases hp
  case istore k =>
    simp only [mpure] at hp; split at hp
    · split at hp
      · cases hp; exact ⟨set1_wf h1 h2.h, h2.t⟩
      · cases hp
    · cases hp
  case lload_n k =>
    simp only [mpure] at hp; split at hp
    · rename_i h0; cases hp; exact ⟨h1, h2.c (mlv_wf h1 h0)⟩
    · cases hp
  case lload k =>
    simp only [mpure] at hp; split at hp
    · rename_i h0; cases hp; exact ⟨h1, h2.c (mlv_wf h1 h0)⟩
    · cases hp
  case lstore_n k =>
    simp only [mpure] at hp; split at hp
    · split at hp
      · cases hp; exact ⟨set2_wf h1 h2.h, h2.t⟩
      · cases hp
    · cases hp
  case lstore k =>
    simp only [mpure] at hp; split at hp
    · split at hp
      · cases hp; exact ⟨set2_wf h1 h2.h, h2.t⟩
      · cases hp
    · cases hp
  case aload_n k =>
    simp only [mpure] at hp; split at hp
    · rename_i h0; cases hp; exact ⟨h1, h2.c (mlv_wf h1 h0)⟩
    · cases hp
  case aload k =>
    simp only [mpure] at hp; split at hp
    · rename_i h0; cases hp; exact ⟨h1, h2.c (mlv_wf h1 h0)⟩
    · cases hp
  case astore_n k =>
    simp only [mpure] at hp; split at hp
    · split at hp
      · cases hp; exact ⟨set1_wf h1 h2.h, h2.t⟩
      · cases hp
    · cases hp
  case astore k =>
    simp only [mpure] at hp; split at hp
    · split at hp
      · cases hp; exact ⟨set1_wf h1 h2.h, h2.t⟩
      · cases hp
    · cases hp
  case dload_n k =>
    simp only [mpure] at hp; split at hp
    · rename_i h0; cases hp; exact ⟨h1, h2.c (mlv_wf h1 h0)⟩
    · cases hp
  case dload k =>
    simp only [mpure] at hp; split at hp
    · rename_i h0; cases hp; exact ⟨h1, h2.c (mlv_wf h1 h0)⟩
    · cases hp
  case dstore_n k =>
    simp only [mpure] at hp; split at hp
    · split at hp
      · cases hp; exact ⟨set2_wf h1 h2.h, h2.t⟩
      · cases hp
    · cases hp
  case dstore k =>
    simp only [mpure] at hp; split at hp
    · split at hp
      · cases hp; exact ⟨set2_wf h1 h2.h, h2.t⟩
      · cases hp
    · cases hp
  case iinc k n =>
    simp only [mpure] at hp; split at hp
    · split at hp
      · cases hp; exact ⟨set1_wf h1 trivial, h2⟩
      · cases hp
    · cases hp
  case iadd =>
    simp only [mpure] at hp; split at hp
    · cases hp; exact ⟨h1, h2.t.t.c trivial⟩
    · cases hp
  case isub =>
    simp only [mpure] at hp; split at hp
    · cases hp; exact ⟨h1, h2.t.t.c trivial⟩
    · cases hp
  case imul =>
    simp only [mpure] at hp; split at hp
    · cases hp; exact ⟨h1, h2.t.t.c trivial⟩
    · cases hp
  case iand =>
    simp only [mpure] at hp; split at hp
    · cases hp; exact ⟨h1, h2.t.t.c trivial⟩
    · cases hp
  case ladd =>
    simp only [mpure] at hp; split at hp
    · cases hp; exact ⟨h1, h2.t.t.c trivial⟩
    · cases hp
  case lmul =>
    simp only [mpure] at hp; split at hp
    · cases hp; exact ⟨h1, h2.t.t.c trivial⟩
    · cases hp
  case ishr =>
    simp only [mpure] at hp; split at hp
    · cases hp; exact ⟨h1, h2.t.t.c trivial⟩
    · cases hp
  case dcmp op =>
    simp only [mpure] at hp; split at hp
    · cases hp; exact ⟨h1, h2.t.t.c trivial⟩
    · cases hp
  case lcmp =>
    simp only [mpure] at hp; split at hp
    · cases hp; exact ⟨h1, h2.t.t.c trivial⟩
    · cases hp
  case ineg =>
    simp only [mpure] at hp; split at hp
    · cases hp; exact ⟨h1, h2.t.c trivial⟩
    · cases hp
  case i2d =>
    simp only [mpure] at hp; split at hp
    · cases hp; exact ⟨h1, h2.t.c trivial⟩
    · cases hp
  case l2d =>
    simp only [mpure] at hp; split at hp
    · cases hp; exact ⟨h1, h2.t.c trivial⟩
    · cases hp
  case i2l =>
    simp only [mpure] at hp; split at hp
    · cases hp; exact ⟨h1, h2.t.c trivial⟩
    · cases hp
  case idiv =>
    simp only [mpure] at hp; split at hp
    · split at hp
      · cases hp
      · cases hp; exact ⟨h1, h2.t.t.c trivial⟩
    · cases hp
  case irem =>
    simp only [mpure] at hp; split at hp
    · split at hp
      · cases hp
      · cases hp; exact ⟨h1, h2.t.t.c trivial⟩
    · cases hp
  case ddiv =>
    simp only [mpure] at hp; split at hp
    · split at hp
      · cases hp; exact ⟨h1, h2.t.t.c trivial⟩
      · cases hp
    · cases hp
  case dup =>
    simp only [mpure] at hp; split at hp
    · split at hp
      · cases hp; exact ⟨h1, h2.c h2.h⟩
      · cases hp
    · cases hp
  case pop =>
    simp only [mpure] at hp; split at hp
    · split at hp
      · cases hp; exact ⟨h1, h2.t⟩
      · cases hp
    · cases hp
  case aconst_null => simp only [mpure] at hp; cases hp; exact ⟨h1, h2.c trivial⟩
  case dup_x1 =>
    simp only [mpure] at hp; split at hp
    · split at hp
      · cases hp; exact ⟨h1, ((h2.t.t.c h2.h).c h2.t.h).c h2.h⟩
      · cases hp
    · cases hp
  case dup2 =>
    simp only [mpure] at hp; split at hp
    · split at hp
      · cases hp; exact ⟨h1, (h2.c h2.t.h).c h2.h⟩
      · cases hp
    · cases hp
  case if_acmp cd off => cases cd <;> (simp only [mpure] at hp; split at hp; (· split at hp; (· cases hp; exact ⟨h1, h2.t.t⟩); (· cases hp)); (· cases hp))
  case goto off =>
    simp only [mpure] at hp; split at hp
    · cases hp; exact ⟨h1, h2⟩
    · cases hp
  case ifCond cd off => cases cd <;> (simp only [mpure] at hp; split at hp; (· split at hp; (· cases hp; exact ⟨h1, h2.t⟩); (· cases hp)); (· cases hp))
  case if_icmp cd off => cases cd <;> (simp only [mpure] at hp; split at hp; (· split at hp; (· cases hp; exact ⟨h1, h2.t.t⟩); (· cases hp)); (· cases hp))
  case tableswitch dflt lo hi offs =>
    simp only [mpure] at hp; split at hp
    · split at hp
      · split at hp
        · cases hp; exact ⟨h1, h2.t⟩
        · cases hp
      · split at hp
        · split at hp
          · cases hp; exact ⟨h1, h2.t⟩
          · cases hp
        · cases hp
    · cases hp
  case lookupswitch dflt ps =>
    simp only [mpure] at hp; split at hp
    · split at hp
      · split at hp
        · cases hp; exact ⟨h1, h2.t⟩
        · cases hp
      · cases hp
    · cases hp
  all_goals (simp only [mpure] at hp; cases hp)
end
section
/-! ===== the heap's instructions are the true machine's ===== -/
theorem hfalse {P : Prop} {α : Type} {x : α} (h : (none : Option α) = some x) : P := by cases h
theorem mup_app (a b : List (Nat × Value)) (j : Nat) : mup (a ++ b) j = match mup a j with
  | some v => some v
  | none => mup b j := by
  induction a with
  | nil => rfl
  | cons q r ih =>
    rw [List.cons_append]
    simp only [mup]
    by_cases h : q.1 = j
    · rw [if_pos h, if_pos h]
    · rw [if_neg h, if_neg h]
      exact ih
theorem mup_rng (dp : Nat) (v : Nat → Value) (j : Nat) : ∀ n : Nat, mup ((List.range n).map (fun i => (dp + i, v i))) j = if dp ≤ j ∧ j < dp + n then some (v (j - dp)) else none := by
  intro n
  induction n with
  | zero => rw [if_neg (by omega)]; rfl
  | succ n ih =>
    rw [List.range_succ, List.map_append, mup_app, ih]
    by_cases h : dp ≤ j ∧ j < dp + n
    · rw [if_pos h, if_pos (by omega)]
    · rw [if_neg h]
      by_cases h2 : dp + n = j
      · have h3 : dp ≤ j ∧ j < dp + (n + 1) := by omega
        rw [if_pos h3]
        have h4 : j - dp = n := by omega
        simp [mup, h2, h4]
      · rw [if_neg (by omega)]
        simp [mup, h2]
theorem mcpW_up (u y : List (Nat × Value)) (sp dp n : Nat) (ad : Nat → Nat) : (fun j => (mupR (mcpW u sp dp n ++ y) j).map ad) = va_cpy (fun j => (mupR u j).map ad) (fun j => (mupR y j).map ad) sp dp n := by
  funext j
  unfold va_cpy mupR mcpW
  rw [mup_app, mup_rng dp (fun i => va_rf (mupR u (sp + i)))]
  by_cases h : dp ≤ j ∧ j < dp + n
  · rw [if_pos h, if_pos h]
    dsimp only
    show _ = (mupR u (sp + (j - dp))).map ad
    cases mupR u (sp + (j - dp)) <;> rfl
  · rw [if_neg h, if_neg h]
theorem mwords_tr0 (ad : Nat → Nat) (st : List Value) : ((st.map (trV ad)).map fun v => v.category).sum = mwords st := by
  unfold mwords
  rw [List.map_map]
  congr 1
  apply List.map_congr_left
  intro v _
  exact trV_cat ad v
theorem mETys_of {t : Nat} {ty : FieldType} (h : mTys[t]? = some ty) : mETys[t]? = some ty := by
  unfold mETys
  rw [List.getElem?_append_left (List.getElem?_eq_some_iff.mp h).1]
  exact h
section MH
variable {p : Program} {l : Launch} {e : Env} {R : Room} {s : State} {m : MethodId} {args : Array Value} {below : List Frame} {meth : Method} {c : Code} {H : Heap} {locs : List Loc} {Q : State → Prop}
theorem m_link (hts : ∀ w ∈ mTBL, w.before args s = true) {own o f d : String} {idx n k : Nat} (hn : n ≠ 1) (hlk : mlinkF own idx n k o f d = true) : ∃ ref : String, (Cond.fieldLink own idx ref f d).before args s = true ∧ ∀ x, s.fieldFound? o f d = some x → s.fieldFound? ref f d = some x := by
  unfold mlinkF at hlk
  split at hlk
  · exact ⟨o, hts _ (mTBL_of (of_decide_eq_true hlk) rfl), fun _ h9 => h9⟩
  · try rw [if_neg hn] at hlk
    split at hlk
    · rename_i r o1 f1 d1 h1
      simp only [Bool.and_eq_true, decide_eq_true_eq] at hlk
      obtain ⟨⟨e1, e2, e3⟩, h2⟩ := hlk
      subst e1
      subst e2
      subst e3
      exact ⟨r, hts _ (mTBL_of h2 rfl), u_same (hts _ (mTBL_of h1 rfl))⟩
    · cases hlk
theorem m_getf {cc : ByteArray} (hx : p.tables.exec = Jvm.exec) (hb : c.code = cc) (hts : ∀ w ∈ mTBL, w.before args s = true) {own : String} (hown : s.vm.findClass own = some m.cls) {D : va_G} {tys : List (ClassId × FieldType)} {cl : List vw_C} {C : String} {T : u_T} {N a q0 ci k idx n kk pc cells slots : Nat} {fs rest : List Value} {ls : Array Slot} {v : Value} {ws : va_W} (h1 : ∀ w ∈ u_ws C T N, w ∈ mTBL) (hK : va_K D cl tys s) (hN : mNs s) (hP : va_P D cl ws H) (he : ws[q0]? = some (a, .inr (ci, fs))) (hc : cl[ci]? = some (C, T, N)) (hk : k < N) (hlk : mlinkF own idx n kk (T k).1 (T k).2.1 (T k).2.2.1 = true) (hv : fs[k]? = some v) (hd : decode cc pc = .ok (.getfield idx, 3))
    (K : W p l e R s m args below meth c H locs cells slots Q (F0 m (pc + 3) ls (v :: rest))) : W p l e R s m args below meth c H locs cells slots Q (F0 m pc ls (.ref a :: rest)) := by
  by_cases hn : n = 1
  · subst hn
    unfold mlinkF at hlk
    rw [if_neg (by decide), if_pos rfl] at hlk
    split at hlk
    · rename_i ow i r f1 d1 host hw9
      obtain ⟨e1, e2, e3, e4, e5⟩ := of_decide_eq_true hlk
      subst e1
      subst e2
      subst e3
      subst e4
      subst e5
      exact va_getN hx hb hts h1 hown hK hP q0 he hc k hk (va_Nw.use rfl (hN.1 _ (List.mem_of_getElem? hw9))) (fun _ h9 => h9) hv hd K
    · cases hlk
  · obtain ⟨ref, g1, g2⟩ := m_link hts hn hlk
    exact va_get hx hb hts h1 hown hK hP q0 he hc k hk g1 g2 hv hd K
set_option maxHeartbeats 4000000 in
theorem sd_heap {cc : ByteArray} (hx : p.tables.exec = Jvm.exec) (hb : c.code = cc) (hts : ∀ w ∈ mTBL, w.before args s = true) {own : String} (hown : s.vm.findClass own = some m.cls) {init : Bool} (hini : init = true → meth.name = "<init>") {E : mE} (hEw : mEw E)
    {D : va_G} {cy : Nat → ClassId} {A : Nat → Prop} {ad : Nat → Nat} {i : mIns} {st st' : List Value} {h h' : mH} {pc' : Nat} {ls : Array Slot} (hck : mchk own init i = true) (hd : decode cc i.1 = .ok (i.2.1, mlen i.2.1 i.2.2.1))
    (hK : va_K D mCl (mT cy) s) (hP : va_P D mCl (mW cy ad E.length h.1) H) (hD : va_D A (mW cy ad E.length h.1)) (hS : va_S A s.heap H locs) (hA : ∀ q, s.heap.size ≤ q → A q) (hE : mEx D E ad A s s.heap) (hw : wfH E.length h.1) (hws : wfL (E.length + h.1.length) st)
    (hs : mheap E i st h = some (pc', st', h')) (hR : h'.2.1 ≤ R.cells ∧ h'.2.2 ≤ R.slots)
    (harr : ∀ (t : Nat) (ty : FieldType), t ≤ 2 → mTys[t]? = some ty → (Cond.arrayClass ty).before args s = true) (hN : mNs s) (hml : c.maxLocals = ls.size) (hRm : mneedR i = true → 1 ≤ R.frames ∧ 40 ≤ R.locals)
    (kk : ∀ (ad' : Nat → Nat) (H' : Heap) (locs' : List Loc), agr (E.length + h.1.length) ad ad' → va_P D mCl (mW cy ad' E.length h'.1) H' → va_D A (mW cy ad' E.length h'.1) → va_S A s.heap H' locs' → wfH E.length h'.1 → wfL (E.length + h'.1.length) st' → h.1.length ≤ h'.1.length → W p l e R s m args below meth c H' locs' h'.2.1 h'.2.2 Q (F0 m pc' ls (st'.map (trV ad')))) :
    W p l e R s m args below meth c H locs h.2.1 h.2.2 Q (F0 m i.1 ls (st.map (trV ad))) := by
  obtain ⟨pc, i, n, a, b, k⟩ := i
  obtain ⟨h, nc, ns⟩ := h
  dsimp only at *
  cases i
  case getfield idx =>
    simp only [mheap] at hs; split at hs
    · rename_i q r; split at hs
      · rename_i o ho; split at hs
        · rename_i hoa; split at hs
          · rename_i cl hcl; split at hs
            · rename_i v hv; cases hs
              obtain ⟨C, T, N⟩ := cl
              obtain ⟨h1, h2, h3, h4, h5⟩ := mCl_ok hcl
              simp only [mchk, hcl, Bool.and_eq_true, decide_eq_true_eq] at hck
              have hv' : (o.2.map (trV ad))[b]? = some (trV ad v) := by rw [List.getElem?_map, hv]; rfl
              have hwr : wfL (E.length + h.length) (v :: r) := by
                intro v' hv9
                rcases List.mem_cons.mp hv9 with e1 | e1
                · rw [e1]; exact wf_objE hEw hw ho v (List.mem_of_getElem? hv)
                · exact hws v' (List.mem_cons_of_mem _ e1)
              rcases mobjE_or ho with ⟨hl9, hoE⟩ | hoW
              · rcases hE.1 q _ hoE _ (by rw [hoa]; exact hcl) with ⟨e9, -⟩ | ⟨g1, g2⟩
                · rw [e9] at hv; simp at hv
                exact m_getf (q0 := 0) hx hb hts hown h1 hK hN (va_P_one (g1.kept (hS.2.1 _ g1.lt g2))) rfl (by rw [hoa]; exact hcl) hck.1 hck.2 hv' hd (kk ad H locs agr.rf hP hD hS hw hwr (Nat.le_refl _))
              · exact m_getf hx hb hts hown h1 hK hN hP (mget_W (cy := cy) (ad := ad) hoW) (by rw [hoa]; exact hcl) hck.1 hck.2 hv' hd (kk ad H locs agr.rf hP hD hS hw hwr (Nat.le_refl _))
            · exact hfalse hs
          · exact hfalse hs
        · exact hfalse hs
      · exact hfalse hs
    · exact hfalse hs
  case putfield idx =>
    simp only [mheap] at hs; split at hs
    · rename_i v q r; split at hs
      · rename_i o ho; split at hs
        · rename_i hoa; split at hs
          · rename_i cl hcl; split at hs
            · rename_i hcond; obtain ⟨hlen, hnar, hfit⟩ := hcond
              cases hs
              obtain ⟨C, T, N⟩ := cl
              obtain ⟨h1, h2, h3, h4, h5⟩ := mCl_ok hcl
              simp only [mchk, hcl, Bool.and_eq_true, Bool.or_eq_true, decide_eq_true_eq] at hck
              obtain ⟨hbN, ⟨hlk0, hn1⟩, hfin⟩ := hck
              obtain ⟨ref9, hlk, hsm9⟩ := m_link hts hn1 hlk0
              have hgo := mget_W (cy := cy) (ad := ad) ho
              have hwv : wfV (E.length + h.length) v := hws v List.mem_cons_self
              have hwr : wfL (E.length + h.length) st' := fun x hx9 => hws x (List.mem_cons_of_mem _ (List.mem_cons_of_mem _ hx9))
              have hw2 : wfH E.length (h.set (q - E.length) (.inr (o.1, o.2.set b v))) := wfH.set hw (by
                intro x hx9
                rcases List.mem_or_eq_of_mem_set hx9 with e1 | e1
                · exact wf_get hw ho x e1
                · rw [e1]; exact hwv)
              have he : (mW cy ad E.length h).set (q - E.length) (ad q, .inr (o.1, (o.2.map (trV ad)).set b (trV ad v))) = mW cy ad E.length (h.set (q - E.length) (.inr (o.1, o.2.set b v))) := by
                rw [← mset_W ho]
                simp only [trO, List.map_set]
              have kk' : ∀ (H1 : Heap) (locs1 : List Loc), va_P D mCl ((mW cy ad E.length h).set (q - E.length) (ad q, .inr (o.1, (o.2.map (trV ad)).set b (trV ad v)))) H1 → va_D A ((mW cy ad E.length h).set (q - E.length) (ad q, .inr (o.1, (o.2.map (trV ad)).set b (trV ad v)))) → va_S A s.heap H1 locs1 → W p l e R s m args below meth c H1 locs1 nc ns Q (F0 m (pc + 3) ls (st'.map (trV ad))) := by
                intro H1 locs1 hP1 hD1 hS1
                rw [he] at hP1 hD1
                exact kk ad H1 locs1 agr.rf hP1 hD1 hS1 hw2 (by rw [List.length_set]; exact hwr) (by rw [List.length_set]; exact Nat.le_refl _)
              rcases hfin with hfin | hfin
              · exact va_put hx hb hts h1 (mfty a) h2 h3 hown hK hP hD hS _ hgo (by rw [hoa]; exact hcl) b hbN hlk hsm9 hfin (h2 b hbN) (narrow_tr hnar) (fits_tr hfit) (by rw [List.length_map]; exact hlen) hd kk'
              · exact va_putF hx hb hts h1 (mfty a) h2 h3 hown hK hP hD hS _ hgo (by rw [hoa]; exact hcl) b hbN hlk hsm9 hfin.1.1 (hini hfin.1.2) hfin.2 (h2 b hbN) (narrow_tr hnar) (fits_tr hfit) (by rw [List.length_map]; exact hlen) hd kk'
            · exact hfalse hs
          · exact hfalse hs
        · exact hfalse hs
      · exact hfalse hs
    · exact hfalse hs
  case iaload =>
    simp only [mheap] at hs; split at hs
    · rename_i i q r
      have hwr : ∀ z : Int32, wfL (E.length + h.length) (.int z :: r) := fun z => hws.t.t.c trivial
      split at hs
      · split at hs
        · rename_i N f hoE; split at hs
          · exact hfalse hs
          · rename_i hin; cases hs
            exact va_ti hx hb (hE.1 q _ hoE .int rfl) hS hin rfl hd (kk ad H locs agr.rf hP hD hS hw (hwr _) (Nat.le_refl _))
        · exact hfalse hs
      · split at hs
        · rename_i x hg; split at hs
          · exact hfalse hs
          · rename_i hin; cases hs
            exact va_iald hx hb hK hP _ 0 (mget_W (cy := cy) (ad := ad) (mrow_of hg)) (mT_get rfl) hin hd (kk ad H locs agr.rf hP hD hS hw (hwr _) (Nat.le_refl _))
        · exact hfalse hs
    · exact hfalse hs
  case aaload =>
    simp only [mheap] at hs; split at hs
    · rename_i i q r
      split at hs
      · split at hs
        · rename_i t9 N f hoE; split at hs
          · rename_i C hty; split at hs
            · exact hfalse hs
            · rename_i hin; cases hs
              have hwv : wfV (E.length + h.length) (va_rf (f i.toNatClampNeg)) := by
                have h9 := hEw.1 _ (List.mem_of_getElem? hoE)
                cases hf : f i.toNatClampNeg with
                | none => trivial
                | some z => exact Nat.lt_of_lt_of_le (h9 _ z hf) (Nat.le_add_right _ _)
              have htr : trV ad (va_rf (f i.toNatClampNeg)) = va_rf ((f i.toNatClampNeg).map ad) := by cases f i.toNatClampNeg <;> rfl
              have k9 := kk ad H locs agr.rf hP hD hS hw (hws.t.t.c hwv) (Nat.le_refl _)
              rw [List.map_cons, htr] at k9
              obtain ⟨cell, g1, g2, g3, g4, g5, g6, g7⟩ := hE.1 q _ hoE (.object C) hty
              have hlt : i.toNatClampNeg < N := Nat.not_le.mp fun q9 => hin (Or.inr q9)
              exact W.aald (v := va_rf ((f i.toNatClampNeg).map ad)) (ty := .object C) hx hb (by rw [hS.2.1 _ (Array.getElem?_eq_some_iff.mp g1).1 g7]; exact g1) g2 rfl g3 (fun q9 => q9.elim (fun z => hin (Or.inl z)) (fun z => by omega)) (g6 _ hlt) rfl rfl hd k9
          · exact hfalse hs
        · exact hfalse hs
      · split at hs
        · rename_i x hg; split at hs
          · rename_i C hty; split at hs
            · exact hfalse hs
            · rename_i hin; cases hs
              have hg2 := mrow_of hg
              have hwv : wfV (E.length + h.length) (va_rf (mupR x.2 i.toNatClampNeg)) := by
                have h9 := wf_get hw hg2
                cases hf : mupR x.2 i.toNatClampNeg with
                | none => trivial
                | some z => exact mupR_wf h9 hf
              have htr : trV ad (va_rf (mupR x.2 i.toNatClampNeg)) = va_rf ((mupR x.2 i.toNatClampNeg).map ad) := by cases mupR x.2 i.toNatClampNeg <;> rfl
              have k9 := kk ad H locs agr.rf hP hD hS hw (hws.t.t.c hwv) (Nat.le_refl _)
              rw [List.map_cons, htr] at k9
              exact va_aldq (f := fun j => (mupR x.2 j).map ad) hx hb hK hP _ 3 (mget_W (cy := cy) (ad := ad) hg2) (mT_get hty) hin hd k9
          · exact hfalse hs
        · exact hfalse hs
    · exact hfalse hs
  case laload =>
    simp only [mheap] at hs; split at hs
    · rename_i i q r
      split at hs
      · rename_i x hg; split at hs
        · rename_i hty; split at hs
          · exact hfalse hs
          · rename_i hin; cases hs
            exact va_lald hx hb hK hP _ 1 (mget_W (cy := cy) (ad := ad) (mrow_of hg)) (mT_get hty) hin hd (kk ad H locs agr.rf hP hD hS hw (hws.t.t.c trivial) (Nat.le_refl _))
        · exact hfalse hs
      · exact hfalse hs
    · exact hfalse hs
  case daload =>
    simp only [mheap] at hs; split at hs
    · rename_i i q r
      split at hs
      · rename_i x hg; split at hs
        · rename_i hty; split at hs
          · exact hfalse hs
          · rename_i hin; cases hs
            exact va_dald hx hb hK hP _ 2 (mget_W (cy := cy) (ad := ad) (mrow_of hg)) (mT_get hty) hin hd (kk ad H locs agr.rf hP hD hS hw (hws.t.t.c trivial) (Nat.le_refl _))
        · exact hfalse hs
      · exact hfalse hs
    · exact hfalse hs
  case iastore =>
    simp only [mheap] at hs; split at hs
    · rename_i x i q r; split at hs
      · rename_i y hg; split at hs
        · exact hfalse hs
        · rename_i hin; cases hs
          have hg2 := mrow_of hg
          refine va_iast hx hb hK hP hD hS _ 0 (mget_W (cy := cy) (ad := ad) hg2) (mT_get rfl) hin hd (fun H1 locs1 hP1 hD1 hS1 => ?_)
          have he : (mW cy ad E.length h).set (q - E.length) (ad q, .inl (cy 0, y.1, .inl (upd (mupI y.2) i.toNatClampNeg x))) = mW cy ad E.length (h.set (q - E.length) (.inl (0, y.1, (i.toNatClampNeg, .int x) :: y.2))) := by
            rw [← mset_W hg2]
            simp only [trO, mdecA, mupI_c]
          rw [he] at hP1 hD1
          have hwx : wfO (E.length + h.length) (.inl (0, y.1, (i.toNatClampNeg, .int x) :: y.2)) := by
            intro z hz
            rcases List.mem_cons.mp hz with e1 | e1
            · rw [e1]; trivial
            · exact wf_get hw hg2 z e1
          exact kk ad H1 locs1 agr.rf hP1 hD1 hS1 (wfH.set hw hwx) (by rw [List.length_set]; exact hws.t.t.t) (by rw [List.length_set]; exact Nat.le_refl _)
      · exact hfalse hs
    · exact hfalse hs
  case lastore =>
    simp only [mheap] at hs; split at hs
    · rename_i x i q r; split at hs
      · rename_i y hg; split at hs
        · rename_i hty; split at hs
          · exact hfalse hs
          · rename_i hin; cases hs
            have hg2 := mrow_of hg
            refine va_last hx hb hK hP hD hS _ 1 (mget_W (cy := cy) (ad := ad) hg2) (mT_get hty) hin hd (fun H1 locs1 hP1 hD1 hS1 => ?_)
            have he : (mW cy ad E.length h).set (q - E.length) (ad q, .inl (cy 1, y.1, .inr (.inl (vp_updL (mupL y.2) i.toNatClampNeg x)))) = mW cy ad E.length (h.set (q - E.length) (.inl (1, y.1, (i.toNatClampNeg, .long x) :: y.2))) := by
              rw [← mset_W hg2]
              simp only [trO, mdecA, mupL_c]
            rw [he] at hP1 hD1
            have hwx : wfO (E.length + h.length) (.inl (1, y.1, (i.toNatClampNeg, .long x) :: y.2)) := by
              intro z hz
              rcases List.mem_cons.mp hz with e1 | e1
              · rw [e1]; trivial
              · exact wf_get hw hg2 z e1
            exact kk ad H1 locs1 agr.rf hP1 hD1 hS1 (wfH.set hw hwx) (by rw [List.length_set]; exact hws.t.t.t) (by rw [List.length_set]; exact Nat.le_refl _)
        · exact hfalse hs
      · exact hfalse hs
    · exact hfalse hs
  case dastore =>
    simp only [mheap] at hs; split at hs
    · rename_i x i q r; split at hs
      · rename_i y hg; split at hs
        · rename_i hty; split at hs
          · exact hfalse hs
          · rename_i hin; cases hs
            have hg2 := mrow_of hg
            refine va_dast hx hb hK hP hD hS _ 2 (mget_W (cy := cy) (ad := ad) hg2) (mT_get hty) hin hd (fun H1 locs1 hP1 hD1 hS1 => ?_)
            have he : (mW cy ad E.length h).set (q - E.length) (ad q, .inl (cy 2, y.1, .inr (.inr (.inr (.inl (vf_upd (mupD y.2) i.toNatClampNeg x)))))) = mW cy ad E.length (h.set (q - E.length) (.inl (2, y.1, (i.toNatClampNeg, .double x) :: y.2))) := by
              rw [← mset_W hg2]
              simp only [trO, mdecA, mupD_c]
            rw [he] at hP1 hD1
            have hwx : wfO (E.length + h.length) (.inl (2, y.1, (i.toNatClampNeg, .double x) :: y.2)) := by
              intro z hz
              rcases List.mem_cons.mp hz with e1 | e1
              · rw [e1]; trivial
              · exact wf_get hw hg2 z e1
            exact kk ad H1 locs1 agr.rf hP1 hD1 hS1 (wfH.set hw hwx) (by rw [List.length_set]; exact hws.t.t.t) (by rw [List.length_set]; exact Nat.le_refl _)
        · exact hfalse hs
      · exact hfalse hs
    · exact hfalse hs
  case aastore =>
    simp only [mheap] at hs; split at hs
    · rename_i v i q r; split at hs
      · rename_i y o hg hv; split at hs
        · rename_i C hty; split at hs
          · rename_i hca; split at hs
            · exact hfalse hs
            · rename_i hin; cases hs
              have hg2 := mrow_of hg
              unfold mcast at hca
              split at hca
              · rename_i cl hcl
                have hcb := of_decide_eq_true hca
                have hwv : v < E.length + h.length := hws.h
                have hwx : wfO (E.length + h.length) (.inl (3, y.1, (i.toNatClampNeg, .ref v) :: y.2)) := by
                  intro z hz
                  rcases List.mem_cons.mp hz with e1 | e1
                  · rw [e1]; exact hwv
                  · exact wf_get hw hg2 z e1
                have he : (mW cy ad E.length h).set (q - E.length) (ad q, .inl (cy 3, y.1, .inr (.inr (.inr (.inr (va_up (fun j => (mupR y.2 j).map ad) i.toNatClampNeg (some (ad v)))))))) = mW cy ad E.length (h.set (q - E.length) (.inl (3, y.1, (i.toNatClampNeg, .ref v) :: y.2))) := by
                  rw [← mset_W hg2]
                  simp only [trO, mdecA, mupR_c]
                have kk' : ∀ (H1 : Heap) (locs1 : List Loc), va_P D mCl ((mW cy ad E.length h).set (q - E.length) (ad q, .inl (cy 3, y.1, .inr (.inr (.inr (.inr (va_up (fun j => (mupR y.2 j).map ad) i.toNatClampNeg (some (ad v))))))))) H1 → va_D A ((mW cy ad E.length h).set (q - E.length) (ad q, .inl (cy 3, y.1, .inr (.inr (.inr (.inr (va_up (fun j => (mupR y.2 j).map ad) i.toNatClampNeg (some (ad v))))))))) → va_S A s.heap H1 locs1 → W p l e R s m args below meth c H1 locs1 nc ns Q (F0 m (pc + 1) ls (st'.map (trV ad))) := by
                  intro H1 locs1 hP1 hD1 hS1
                  rw [he] at hP1 hD1
                  exact kk ad H1 locs1 agr.rf hP1 hD1 hS1 (wfH.set hw hwx) (by rw [List.length_set]; exact hws.t.t.t) (by rw [List.length_set]; exact Nat.le_refl _)
                have hcell : ∃ cell : Cell, H[ad v]? = some cell ∧ cell.vm.isStatics = false ∧ s.vm.findClass cl.1 = some cell.cls := by
                  rcases mobjE_or hv with ⟨hl9, hoE⟩ | hoW
                  · exact mEx_recv hK hS (hE.1 v _ hoE) hcl
                  · exact va_recv hK hP hcl (mget_W (cy := cy) (ad := ad) hoW)
                obtain ⟨cellV, g1, g3, g4⟩ := hcell
                have hlt : i.toNatClampNeg < y.1 := Nat.not_le.mp fun q9 => hin (Or.inr q9)
                have h0 : ¬ i < 0 := fun q9 => hin (Or.inl q9)
                have hgW : (mW cy ad E.length h)[q - E.length]? = some (ad q, .inl (cy 3, y.1, .inr (.inr (.inr (.inr (fun j => (mupR y.2 j).map ad)))))) := mget_W (cy := cy) (ad := ad) hg2
                have hcls := (hK.1 o.1 cl hcl).2
                obtain ⟨kA, comp, k1, k2, k3, -⟩ := (hK.2 3 _ (mT_get (cy := cy) hty)).2
                obtain ⟨kE, hkE, -⟩ := Vm.findClass_spec k3
                obtain ⟨c0, t1, f1, f2, f3⟩ := Cond.castable_spec (va_Nw.use (A := args) rfl (hN.1 _ hcb))
                have g2 : cellV.cls = D.1 o.1 := Option.some.inj (g4.symm.trans hcls.1)
                cases hcls.1.symm.trans f1
                cases k3.symm.trans f2
                obtain ⟨kC, hkC, -⟩ := hcls.2
                refine W.aast hx hb (hP _ _ hgW) (fun q9 h9 => by cases h9) (fun h9 => by cases h9) k1 k2 rfl hkE ⟨h0, by show _ < (arrV _ _ _).slots.size; rw [arrV_size]; exact hlt⟩ g1 (fun q9 h9 => by rw [h9] at g3; cases g3) (by rw [g2]; exact hkC) (by rw [g2]; exact f3) rfl rfl hd fun H1 e9 z9 oq => ?_
                refine kk' H1 _ (hP.set hD hgW ?_ oq) (hD.set hgW) (hS.put z9 oq (hD.2 _ _ hgW))
                show H1[ad q]? = some (vp_cell _ _)
                rw [e9]
                rw [vp_cell_q, vp_cell_q, arrV_store]
                congr 2
                funext j
                by_cases hj : j = i.toNatClampNeg
                · subst hj
                  simp [updV, va_up, va_rf]
                · simp [updV, va_up, hj]
              · cases hca
          · exact hfalse hs
        · exact hfalse hs
      · exact hfalse hs
    · exact hfalse hs
  case arraylength =>
    simp only [mheap] at hs; split at hs
    · rename_i q r
      have hwr : ∀ z : Int32, wfL (E.length + h.length) (.int z :: r) := fun z => hws.t.c trivial
      split at hs
      · split at hs
        · rename_i x hoE; split at hs
          · rename_i ty hty; cases hs
            have h9 := hE.1 q _ hoE
            obtain ⟨t, N, f | f | f | f | f⟩ := x
            · exact va_tlen hx hb (h9 ty hty) hS rfl hd (kk ad H locs agr.rf hP hD hS hw (hwr _) (Nat.le_refl _))
            · exact h9.elim
            · exact h9.elim
            · exact h9.elim
            · exact va_tlen hx hb (h9 ty (mETys_of hty)) hS rfl hd (kk ad H locs agr.rf hP hD hS hw (hwr _) (Nat.le_refl _))
          · exact hfalse hs
        · exact hfalse hs
      · split at hs
        · rename_i x hoW; split at hs
          · split at hs
            · rename_i ty hty; cases hs
              exact va_alen hx hb hK hP _ x.1 (x := mdecA ad x.1 x.2.1 x.2.2) (mget_W (cy := cy) (ad := ad) hoW) (mT_get hty) (by rw [mdecA_len]) hd (kk ad H locs agr.rf hP hD hS hw (hwr _) (Nat.le_refl _))
            · exact hfalse hs
          · exact hfalse hs
        · exact hfalse hs
    · exact hfalse hs
  case new idx =>
    simp only [mheap] at hs; split at hs
    · rename_i cl hcl; cases hs
      obtain ⟨C, T, N⟩ := cl
      obtain ⟨h1, h2, h3, h4, h5⟩ := mCl_ok hcl
      simp only [mchk, hcl, decide_eq_true_eq] at hck
      refine va_new (ci := a) hx hb hts h1 (mfty a) h2 hown (hts _ (mTBL_of hck rfl)) (hts _ h4) (hts _ h5) hK hP hD hS hA hcl (fs := mdef a N) (fun j hj => mdef_v hj) hR.1 hR.2 hd (fun q H1 hP1 hD1 hS1 => ?_)
      have hag : agr (E.length + h.length) ad (fun j => if j = E.length + h.length then q else ad j) := fun j hj => if_neg (by omega)
      have he : mW cy ad E.length h ++ [(q, .inr (a, mdef a N))] = mW cy (fun j => if j = E.length + h.length then q else ad j) E.length (h ++ [.inr (a, mdef a N)]) := by
        rw [mW_push, mW_agr hw hag]
        simp only [trO, mdef_tr, if_true]
      rw [he] at hP1 hD1
      have hk := kk _ H1 locs hag hP1 hD1 hS1 (wfH.push hw mdef_wf) (by
        rw [List.length_append, List.length_singleton]
        intro y hy
        rcases List.mem_cons.mp hy with e1 | e1
        · rw [e1]; show E.length + h.length < E.length + (h.length + 1); omega
        · exact (hws y e1).up (by omega)) (by rw [List.length_append]; exact Nat.le_add_right _ _)
      rw [List.map_cons, map_agr hws hag] at hk
      simpa only [trV, if_true] using hk
    · exact hfalse hs
  case newarray ty =>
    simp only [mheap] at hs; split at hs
    · rename_i z r; split at hs
      · exact hfalse hs
      · rename_i hz; split at hs
        · rename_i hz8; obtain ⟨hz8, ha2⟩ := hz8
          split at hs
          · rename_i hty; cases hs
            have hN9 : ∀ cA : ClassId, vp_cell cA (mdecA ad a z.toNatClampNeg []) = arrV cA z.toNatClampNeg (fun _ => defaultValue (newarray.typeOf ty)) := by
              intro cA
              match a, ha2, hty with
              | 0, _, hty => rw [← Option.some.inj hty]; rfl
              | 1, _, hty => exact absurd hty (by simp [mTys])
              | 2, _, hty => exact absurd hty (by simp [mTys])
            have htr : ∀ ad' : Nat → Nat, mdecA ad' a z.toNatClampNeg [] = mdecA ad a z.toNatClampNeg [] := by
              intro ad'
              match a, ha2 with
              | 0, _ => rfl
              | 1, _ => rfl
              | 2, _ => rfl
            have hwr : wfL (E.length + h.length) r := hws.t
            refine va_newa hx hb (harr a _ ha2 hty) rfl hK hP hD hS hA hN9 hz rfl ?_ hR.1 hR.2 hd (fun q cA H1 hK1 hP1 hD1 hS1 => ?_)
            · have hcb : componentBytes (newarray.typeOf ty) ≤ 8 := by cases ty <;> decide
              exact Nat.le_trans (Nat.mul_le_mul_left _ hcb) hz8
            · have hcA : cA = cy a := by
                have e1 := (hK1.2 (mT cy).length (cA, newarray.typeOf ty) (by rw [List.getElem?_append_right (Nat.le_refl _), Nat.sub_self]; rfl)).2
                have e2 := (hK.2 a _ (mT_get (cy := cy) hty)).2
                cases ty <;> exact Option.some.inj ((show s.vm.findClass _ = some cA from e1).symm.trans e2)
              subst hcA
              have hag : agr (E.length + h.length) ad (fun j => if j = E.length + h.length then q else ad j) := fun j hj => if_neg (by omega)
              have he : mW cy ad E.length h ++ [(q, .inl (cy a, mdecA ad a z.toNatClampNeg []))] = mW cy (fun j => if j = E.length + h.length then q else ad j) E.length (h ++ [.inl (a, z.toNatClampNeg, [])]) := by
                rw [mW_push, mW_agr hw hag]
                simp only [trO, htr, if_true]
              rw [he] at hP1 hD1
              have hk := kk _ H1 locs hag hP1 hD1 hS1 (wfH.push hw (fun q9 h9 => by cases h9)) (by
                rw [List.length_append, List.length_singleton]
                intro y hy
                rcases List.mem_cons.mp hy with e1 | e1
                · rw [e1]; show E.length + h.length < E.length + (h.length + 1); omega
                · exact (hwr y e1).up (by omega)) (by rw [List.length_append]; exact Nat.le_add_right _ _)
              rw [List.map_cons, map_agr hwr hag] at hk
              simpa only [trV, if_true] using hk
          · exact hfalse hs
        · exact hfalse hs
    · exact hfalse hs
  case ldc idx =>
    simp only [mheap] at hs; split at hs
    · rename_i h0; cases hs
      simp only [mchk, h0, if_true, decide_eq_true_eq] at hck
      exact lv_ldc hx hb hown (hts _ (mTBL_of hck rfl)) hd (kk ad H locs agr.rf hP hD hS hw (fun y hy => by
        rcases List.mem_cons.mp hy with e1 | e1
        · rw [e1]; trivial
        · exact hws y e1) (Nat.le_refl _))
    · rename_i h0; split at hs
      · rename_i h1; split at hs
        · rename_i z hz; cases hs
          simp only [mchk, h1, if_true, hz, decide_eq_true_eq, if_neg (show ¬ (1 : Nat) = 0 by decide)] at hck
          have hzm := List.mem_of_getElem? hz
          exact va_ldcM hx hb hown (hts _ (mTBL_of hck rfl)) (hE.2.2 z hzm) hd (kk ad H locs agr.rf hP hD hS hw (fun y hy => by
            rcases List.mem_cons.mp hy with e1 | e1
            · rw [e1]; exact Nat.lt_of_lt_of_le (hEw.2.2 z hzm) (Nat.le_add_right _ _)
            · exact hws y e1) (Nat.le_refl _))
        · exact hfalse hs
      · exact hfalse hs
  case invokevirtual idx =>
    simp only [mheap] at hs; split at hs
    · rename_i h0; split at hs
      · rename_i q r; split at hs
        · rename_i x z hg hz; split at hs
          · rename_i hcond; obtain ⟨hty, hz1, hmw⟩ := hcond
            cases hs
            have hNt := mNat_ok hty
            simp only [mNatOk, Bool.and_eq_true, decide_eq_true_eq] at hNt
            obtain ⟨n1, n2, n3, n4, n5, n6, n7⟩ := hNt
            simp only [mchk, h0, if_true, decide_eq_true_eq] at hck
            have hzm := List.mem_of_getElem? hz
            have hM := hE.2.2 z hzm
            rw [hz1] at hM
            obtain ⟨hr1, hr2⟩ := hRm (by simp [mneedR, h0])
            have hgW := mget_W (cy := cy) (ad := ad) (mrow_of hg)
            have hcy := va_nmO (hK.2 3 _ (mT_get (cy := cy) hty)).2 (nm := "[Ljava/lang/Object;") rfl
            have hmw2 := mwords_tr0 ad r
            refine va_getC hx hb hml hown (hts _ (mTBL_of hck rfl)) (va_Nw.use rfl (hN.1 _ n7)) (hts _ (mTBL_of n1 rfl)) (hts _ (mTBL_of n2 rfl)) (hts _ (mTBL_of n3 rfl)) hM ⟨_, hP _ _ hgW, rfl, hcy⟩ hr1 (by omega) hd ?_
            exact kk ad H locs agr.rf hP hD hS hw (fun y hy => by
              rcases List.mem_cons.mp hy with e1 | e1
              · rw [e1]; exact Nat.lt_of_lt_of_le (hEw.2.2 z hzm) (Nat.le_add_right _ _)
              · exact hws.t y e1) (Nat.le_refl _)
          · exact hfalse hs
        · exact hfalse hs
      · exact hfalse hs
    · exact hfalse hs
  case invokestatic idx =>
    simp only [mheap] at hs; split at hs
    · rename_i h0; split at hs
      · rename_i nn dp q sp u r; split at hs
        · rename_i x y hgx hgy; split at hs
          · exact hfalse hs
          · rename_i hin; split at hs
            · rename_i hcond; obtain ⟨hty, hca, hall⟩ := hcond
              cases hs
              have hNt := mNat_ok hty
              simp only [mNatOk, Bool.and_eq_true, decide_eq_true_eq] at hNt
              obtain ⟨n1, n2, n3, n4, n5, n6, n7⟩ := hNt
              simp only [mchk, h0, if_true, decide_eq_true_eq] at hck
              obtain ⟨hr1, hr2⟩ := hRm (by simp [mneedR, h0])
              have hg2 := mrow_of hgy
              have hgW := mget_W (cy := cy) (ad := ad) (mrow_of hgx)
              have hgW2 := mget_W (cy := cy) (ad := ad) hg2
              have hmw2 := mwords_tr0 ad st'
              unfold mcast at hca
              split at hca
              · rename_i cl hcl
                have hcb := of_decide_eq_true hca
                have hwx : wfO (E.length + h.length) (.inl (3, y.1, mcpW x.2 sp.toNatClampNeg dp.toNatClampNeg nn.toNatClampNeg ++ y.2)) := by
                  intro z hz
                  rcases List.mem_append.mp hz with e1 | e1
                  · obtain ⟨i9, -, rfl⟩ := List.mem_map.mp e1
                    show wfV _ (va_rf (mupR x.2 (sp.toNatClampNeg + i9)))
                    cases hf : mupR x.2 (sp.toNatClampNeg + i9) with
                    | none => trivial
                    | some z9 => exact mupR_wf (wf_get hw (mrow_of hgx)) hf
                  · exact wf_get hw hg2 z e1
                have he : (mW cy ad E.length h).set (q - E.length) (ad q, .inl (cy 3, y.1, .inr (.inr (.inr (.inr (va_cpy (fun j => (mupR x.2 j).map ad) (fun j => (mupR y.2 j).map ad) sp.toNatClampNeg dp.toNatClampNeg nn.toNatClampNeg)))))) = mW cy ad E.length (h.set (q - E.length) (.inl (3, y.1, mcpW x.2 sp.toNatClampNeg dp.toNatClampNeg nn.toNatClampNeg ++ y.2))) := by
                  rw [← mset_W hg2, ← mcpW_up]
                  rfl
                refine va_copyq (C := cl.1) hx hb hml hown (hts _ (mTBL_of hck rfl)) (hts _ (mTBL_of n4 rfl)) (hts _ (mTBL_of n5 rfl)) (hts _ (mTBL_of n6 rfl)) hK hP hD hS _ _ 3 3 (f := fun j => (mupR x.2 j).map ad) (g := fun j => (mupR y.2 j).map ad) hgW hgW2 (mT_get (cy := cy) hty) (mT_get (cy := cy) hty) (fun z => hin (Or.inl (Or.inl z))) (fun z => hin (Or.inl (Or.inr (Or.inl z)))) (fun z => hin (Or.inl (Or.inr (Or.inr z)))) (Nat.not_lt.mp fun z => hin (Or.inr (Or.inl (Or.inl z)))) (Nat.not_lt.mp fun z => hin (Or.inr (Or.inl (Or.inr z)))) ?_ ?_ hr1 (by
                  have h9 : nativeFrameWords "java/lang/System" "arraycopy" 5 = 7 := by decide
                  have h8 : ¬ 8 < mwords st' := fun z => hin (Or.inr (Or.inr z))
                  omega) hd (fun H1 locs1 hP1 hD1 hS1 => ?_)
                · intro i9 hi9 y9 hy9
                  have h9 := List.all_eq_true.mp hall i9 (List.mem_range.mpr hi9)
                  obtain ⟨z9, hz9, rfl⟩ := Option.map_eq_some_iff.mp hy9
                  simp only [mcpO, hz9] at h9
                  split at h9
                  · rename_i o ho
                    have h0c := of_decide_eq_true h9
                    rcases mobjE_or ho with ⟨-, hoE⟩ | hoW
                    · exact mEx_recv hK hS (hE.1 z9 _ hoE) (by rw [h0c]; exact hcl)
                    · exact va_recv hK hP (by rw [h0c]; exact hcl) (mget_W (cy := cy) (ad := ad) hoW)
                  · cases h9
                · intro comp c0 f2 f1
                  obtain ⟨c0', t1, f1', f2', f3⟩ := Cond.castable_spec (va_Nw.use (A := args) rfl (hN.1 _ hcb))
                  cases f1.symm.trans f1'
                  cases f2.symm.trans f2'
                  exact f3
                · rw [he] at hP1 hD1
                  exact kk ad H1 locs1 agr.rf hP1 hD1 hS1 (wfH.set hw hwx) (by rw [List.length_set]; exact hws.t.t.t.t.t) (by rw [List.length_set]; exact Nat.le_refl _)
              · cases hca
            · exact hfalse hs
        · exact hfalse hs
      · exact hfalse hs
    · exact hfalse hs
  case ldc2_w idx =>
    simp only [mheap] at hs; split at hs
    · rename_i h0; cases hs
      simp only [mchk, h0, if_true, decide_eq_true_eq] at hck
      exact lv_ldc2 hx hb hown (hts _ (mTBL_of hck rfl)) hd (kk ad H locs agr.rf hP hD hS hw (fun y hy => by
        rcases List.mem_cons.mp hy with e1 | e1
        · rw [e1]; trivial
        · exact hws y e1) (Nat.le_refl _))
    · exact hfalse hs
  case anewarray idx =>
    simp only [mheap] at hs; split at hs
    · rename_i z r; split at hs
      · exact hfalse hs
      · rename_i hz; split at hs
        · rename_i hz8; obtain ⟨hz8, ha3⟩ := hz8
          subst ha3
          split at hs
          · rename_i C hty; split at hs
            · rename_i hao; cases hs
              simp only [mchk, hty, decide_eq_true_eq] at hck
              have hwr : wfL (E.length + h.length) r := hws.t
              refine va_newq hx hb hown (hts _ (mTBL_of hck rfl)) (hN.1 _ hao) hK hP hD hS hA hz rfl (by omega) hR.1 hR.2 hd (fun q cA H1 hK1 hP1 hD1 hS1 => ?_)
              have hcA : cA = cy 3 := by
                obtain ⟨-, -, -, -, -, e1⟩ := (hK1.2 (mT cy).length (cA, .object C) (by rw [List.getElem?_append_right (Nat.le_refl _), Nat.sub_self]; rfl)).2
                obtain ⟨-, -, -, -, -, e2⟩ := (hK.2 3 _ (mT_get (cy := cy) hty)).2
                exact Option.some.inj (e1.symm.trans e2)
              subst hcA
              have hag : agr (E.length + h.length) ad (fun j => if j = E.length + h.length then q else ad j) := fun j hj => if_neg (by omega)
              have he : mW cy ad E.length h ++ [(q, .inl (cy 3, z.toNatClampNeg, .inr (.inr (.inr (.inr (fun _ => none))))))] = mW cy (fun j => if j = E.length + h.length then q else ad j) E.length (h ++ [.inl (3, z.toNatClampNeg, [])]) := by
                rw [mW_push, mW_agr hw hag]
                simp only [trO, if_true]
                rfl
              rw [he] at hP1 hD1
              have hk := kk _ H1 locs hag hP1 hD1 hS1 (wfH.push hw (fun q9 h9 => by cases h9)) (by
                rw [List.length_append, List.length_singleton]
                intro y hy
                rcases List.mem_cons.mp hy with e1 | e1
                · rw [e1]; show E.length + h.length < E.length + (h.length + 1); omega
                · exact (hwr y e1).up (by omega)) (by rw [List.length_append]; exact Nat.le_add_right _ _)
              rw [List.map_cons, map_agr hwr hag] at hk
              simpa only [trV, if_true] using hk
            · exact hfalse hs
          · exact hfalse hs
        · exact hfalse hs
    · exact hfalse hs
  case getstatic idx =>
    simp only [mheap] at hs; split at hs
    · rename_i z hz; split at hs
      · rename_i h0; cases hs
        simp only [mchk, hz, h0, if_true, decide_eq_true_eq] at hck
        have hzm := List.mem_of_getElem? hz
        exact va_gets hx hb (hE.2.1 z hzm) hS hown (hts _ (mTBL_of hck rfl)) (fun _ h9 => h9) hd (kk ad H locs agr.rf hP hD hS hw (hws.c ((hEw.2.1 z hzm).up (Nat.le_add_right _ _))) (Nat.le_refl _))
      · exact hfalse hs
    · exact hfalse hs
  all_goals (simp only [mheap] at hs; exact hfalse hs)
end MH
end
section
/-! ===== the small machine runs: instructions, calls, returns ===== -/
/-- an end: a return, or where an exception is made and thrown -/
def mterm (e : mIns) : Bool := match e.2.1 with
  | .ireturn | .lreturn | .dreturn | .areturn | .return_ => true
  | .new _ => decide (e.2.2.2.1 = 995)
  | _ => false
def minv (e : mIns) : Bool := match e.2.1 with
  | .invokevirtual _ => decide (e.2.2.2.1 ≠ 994)
  | .invokestatic _ => decide (e.2.2.2.1 ≠ 993)
  | .invokespecial _ => true
  | _ => false
/-- what a place at a return answers -/
def mretv (S : mS) : Option (Option Value) := match mlook (mcode S.1.1) S.1.2.1, mmeth S.1.1 with
  | some e, some y => match e.2.1, S.1.2.2.2, y.2.2.2.1 with
    | .ireturn, [.int x], some ty => if narrow ty (.int x) = .int x then some (some (.int x)) else none
    | .lreturn, [.long x], some .long => some (some (.long x))
    | .dreturn, [.double x], some .double => some (some (.double x))
    | .areturn, [.ref x], some (.object _) => some (some (.ref x))
    | .areturn, [.ref x], some (.array _) => some (some (.ref x))
    | .return_, [], none => some none
    | _, _, _ => none
  | _, _ => none
/-- what is thrown at a place -/
def mthrown (S : mS) : Option Nat := match mlook (mcode S.1.1) S.1.2.1 with
  | some e => (match e.2.1 with
    | .new _ => if e.2.2.2.1 = 995 then some e.2.2.2.2.1 else none
    | _ => none)
  | none => none
/-- a call: the called method, what it takes, what stays on the stack -/
def mcallee (E : mE) (e : mIns) (st : List Value) (h : List mO) : Option (Nat × List Value × List Value) := match mPos[e.2.2.2.1]?, mmeth e.2.2.2.1 with
  | some q, some y => if q.1 = 99999 then none else (if st.length < q.2.2.2.2.2 then none else (match e.2.1 with
    | .invokestatic _ => if q.2.2.2.2.1 = true ∧ e.2.2.1 ≤ 1 ∧ mwords (st.drop q.2.2.2.2.2) ≤ 8 ∧ (lg_sl (st.take q.2.2.2.2.2).reverse).length ≤ y.2.2.1 then some (e.2.2.2.1, (st.take q.2.2.2.2.2).reverse, st.drop q.2.2.2.2.2) else none
    | .invokespecial _ => (match st.drop q.2.2.2.2.2 with
      | .ref a :: r => if q.2.2.2.2.1 = false ∧ y.1.name = "<init>" ∧ y.2.2.2.1 = none ∧ mwords r ≤ 8 ∧ (lg_sl (.ref a :: (st.take q.2.2.2.2.2).reverse)).length ≤ y.2.2.1 then some (e.2.2.2.1, .ref a :: (st.take q.2.2.2.2.2).reverse, r) else none
      | _ => none)
    | .invokevirtual _ => (match st.drop q.2.2.2.2.2 with
      | .ref a :: r => (match mobjE E h a with
        | some o => (match mCl[o.1]? with
          | some cl => if q.2.2.2.2.1 = false ∧ q.2.2.1 ≠ 99999 ∧ e.2.2.1 = 0 ∧ cl.1 = y.1.cls ∧ mwords r ≤ 8 ∧ (lg_sl (.ref a :: (st.take q.2.2.2.2.2).reverse)).length ≤ y.2.2.1 then some (e.2.2.2.1, .ref a :: (st.take q.2.2.2.2.2).reverse, r) else none
          | none => none)
        | none => none)
      | _ => none)
    | _ => none))
  | _, _ => none
/-- Object.<init>, Math.min, Math.max -/
def mspec (j : Nat) (e : mIns) (st : List Value) : Option (Nat × List Value) := match mmeth j with
  | some y => (match e.2.1, st with
    | .invokespecial _, .ref _ :: r => if e.2.2.2.1 = 998 ∧ 1 ≤ y.2.2.2.2.2.1 ∧ mwords r + 12 ≤ y.2.2.2.2.2.2 then some (e.1 + 3, r) else none
    | .invokestatic _, .int b :: .int a :: r => if 1 ≤ y.2.2.2.2.2.1 ∧ mwords r + 13 ≤ y.2.2.2.2.2.2 then (if e.2.2.2.1 = 997 ∧ mMathPos.2.2.1 ≠ 99999 then some (e.1 + 3, .int (if b < a then b else a) :: r) else (if e.2.2.2.1 = 996 ∧ mMathPos.1 ≠ 99999 then some (e.1 + 3, .int (if a < b then b else a) :: r) else none)) else none
    | _, _ => none)
  | none => none
def mstep (E : mE) (e : mIns) (S : mS) : Option mS := match mmeth S.1.1 with
  | some y => match mpure y.2.2.1 e S.1.2.2.1 S.1.2.2.2 with
    | some r => some ((S.1.1, r.1, r.2.1, r.2.2), S.2)
    | none => match mheap E e S.1.2.2.2 S.2 with
      | some r => some ((S.1.1, r.1, S.1.2.2.1, r.2.1), r.2.2)
      | none => none
  | none => none
/-- room: what the called one nests and itself, within what the caller nests -/
def mfits (j k : Nat) : Bool := match mmeth j, mmeth k with
  | some x, some y => decide (y.2.2.2.2.2.1 + 1 ≤ x.2.2.2.2.2.1) && decide (8 + (y.2.2.1 + 11) + y.2.2.2.2.2.2 ≤ x.2.2.2.2.2.2)
  | _, _ => false
def ment (k : Nat) (as : List Value) (h : List mO) : mS := ((k, 0, lv_args 0 as, []), (h, 0, 0))
def mrunF (E : mE) (call : Nat → mS → Option mS) : Nat → mS → Option mS
  | 0, _ => none
  | n + 1, S => match mlook (mcode S.1.1) S.1.2.1 with
    | none => none
    | some e => if mterm e = true then some S else (if minv e = true then (if 990 < e.2.2.2.1 then (match mspec S.1.1 e S.1.2.2.2 with
        | none => none
        | some r => mrunF E call n ((S.1.1, r.1, S.1.2.2.1, r.2), S.2)) else (match mcallee E e S.1.2.2.2 S.2.1 with
        | none => none
        | some r => if mfits S.1.1 r.1 = true then (match call n (ment r.1 r.2.1 S.2.1) with
          | none => none
          | some S1 => (match mretv S1 with
            | none => none
            | some v => mrunF E call n ((S.1.1, e.1 + 3, S.1.2.2.1, v.toList ++ r.2.2), (S1.2.1, S.2.2.1 + S1.2.2.1, S.2.2.2 + S1.2.2.2)))) else none)) else (match mstep E e S with
        | none => none
        | some S1 => mrunF E call n S1))
def mexec (E : mE) : Nat → Nat → mS → Option mS
  | 0 => fun _ _ => none
  | d + 1 => mrunF E (mexec E d)
/-! what the tables say of the methods -/
def mMP (k : Nat) (y : mMth) (q : Nat × Nat × Nat × Nat × Bool × Nat) : Prop :=
  Cond.code y.1 y.2.1 y.2.2.1 y.2.2.2.1 ∈ mTBL ∧ (if q.2.2.2.2.1 = true then Cond.static y.1 ∈ mTBL else Cond.instanceMethod y.1 ∈ mTBL) ∧ (q.2.2.1 ≠ 99999 → Cond.selects y.1.cls y.1 y.1 ∈ mTBL) ∧ Cond.initialized y.1.cls ∈ mTBL ∧ plainName y.1.cls = true ∧
    (y.1.cls ≠ "java/lang/invoke/MethodHandle" ∧ y.1.cls ≠ "java/lang/invoke/VarHandle" ∧ (parseMethodDescriptor y.1.desc).map (fun d => d.parameters.length) = some q.2.2.2.2.2) ∧ y.2.2.2.2.1 = y.1.cls
def mchkP (k : Nat) : Bool := match mmeth k, mPos[k]? with
  | some y, some q => if q.1 = 99999 then true else decide (lw_tbl[q.1]? = some (.code y.1 y.2.1 y.2.2.1 y.2.2.2.1)) && ((if q.2.2.2.2.1 = true then decide (lw_tbl[q.2.1]? = some (.static y.1)) else decide (lw_tbl[q.2.1]? = some (.instanceMethod y.1))) && ((decide (q.2.2.1 = 99999) || decide (lw_tbl[q.2.2.1]? = some (.selects y.1.cls y.1 y.1))) && (decide (lw_tbl[q.2.2.2.1]? = some (.initialized y.1.cls)) && (plainName y.1.cls && (decide (y.1.cls ≠ "java/lang/invoke/MethodHandle" ∧ y.1.cls ≠ "java/lang/invoke/VarHandle" ∧ (parseMethodDescriptor y.1.desc).map (fun d => d.parameters.length) = some q.2.2.2.2.2) && decide (y.2.2.2.2.1 = y.1.cls))))))
  | _, _ => true
/-- what a call's instruction links -/
def mchkI (own : String) (e : mIns) : Bool := match e.2.1 with
  | .invokevirtual idx => match mmeth e.2.2.2.1 with
    | some y => if e.2.2.1 = 0 then decide (lw_tbl[e.2.2.2.2.2]? = some (.methodLink own idx y.1)) else true
    | none => true
  | .invokestatic idx => if e.2.2.2.1 = 997 then decide (lw_tbl[e.2.2.2.2.2]? = some (.methodLink own idx Lib.Math.min.name)) else (if e.2.2.2.1 = 996 then decide (lw_tbl[e.2.2.2.2.2]? = some (.methodLink own idx Lib.Math.max.name)) else (match mmeth e.2.2.2.1 with
    | some y => if e.2.2.1 = 0 then decide (lw_tbl[e.2.2.2.2.2]? = some (.methodLink own idx y.1)) else (match mXw[e.2.2.2.2.2]? with
      | some (.methodLinkNest o i z _) => decide (o = own ∧ i = idx ∧ z = y.1)
      | _ => false)
    | none => true))
  | .invokespecial idx => if e.2.2.2.1 = 998 then decide (lw_tbl[e.2.2.2.2.2]? = some (.methodLink own idx objectInit)) else (match mmeth e.2.2.2.1 with
    | some y => if e.2.2.1 = 0 then decide (lw_tbl[e.2.2.2.2.2]? = some (.methodLink own idx y.1)) else (match mXw[e.2.2.2.2.2]? with
      | some (.methodLinkNest o i z _) => decide (o = own ∧ i = idx ∧ z = y.1)
      | _ => false)
    | none => true)
  | _ => true
def mchkMI (j : Nat) : Bool := match mmeth j with
  | some y => (mcode j).all (fun e => mchkI y.2.2.2.2.1 e && (mchk y.2.2.2.2.1 (decide (y.1.name = "<init>")) e && (!(mneedR e) || (decide (1 ≤ y.2.2.2.2.2.1) && decide (40 ≤ y.2.2.2.2.2.2)))))
  | none => true
def mchkD (j : Nat) : Bool := match mmeth j with
  | some y => (mcode j).all (fun e => decide (decode y.2.1 e.1 = .ok (e.2.1, mlen e.2.1 e.2.2.1)))
  | none => true
end
section
/-! ===== the checks of the tables, method by method ===== -/
set_option maxRecDepth 100000 in
theorem mkP_0 : mchkP 0 = true := by decide +kernel
set_option maxRecDepth 100000 in
theorem mkI_0 : mchkMI 0 = true := by decide +kernel
set_option maxRecDepth 100000 in
theorem mkD_0 : mchkD 0 = true := by decide +kernel
set_option maxRecDepth 100000 in
theorem mkP_1 : mchkP 1 = true := by decide +kernel
set_option maxRecDepth 100000 in
theorem mkI_1 : mchkMI 1 = true := by decide +kernel
set_option maxRecDepth 100000 in
theorem mkD_1 : mchkD 1 = true := by decide +kernel
set_option maxRecDepth 100000 in
theorem mkP_2 : mchkP 2 = true := by decide +kernel
set_option maxRecDepth 100000 in
theorem mkI_2 : mchkMI 2 = true := by decide +kernel
set_option maxRecDepth 100000 in
theorem mkD_2 : mchkD 2 = true := by decide +kernel
set_option maxRecDepth 100000 in
theorem mkP_3 : mchkP 3 = true := by decide +kernel
set_option maxRecDepth 100000 in
theorem mkI_3 : mchkMI 3 = true := by decide +kernel
set_option maxRecDepth 100000 in
theorem mkD_3 : mchkD 3 = true := by decide +kernel
set_option maxRecDepth 100000 in
theorem mkP_4 : mchkP 4 = true := by decide +kernel
set_option maxRecDepth 100000 in
theorem mkI_4 : mchkMI 4 = true := by decide +kernel
set_option maxRecDepth 100000 in
theorem mkD_4 : mchkD 4 = true := by decide +kernel
set_option maxRecDepth 100000 in
theorem mkP_5 : mchkP 5 = true := by decide +kernel
set_option maxRecDepth 100000 in
theorem mkI_5 : mchkMI 5 = true := by decide +kernel
set_option maxRecDepth 100000 in
theorem mkD_5 : mchkD 5 = true := by decide +kernel
set_option maxRecDepth 100000 in
theorem mkP_6 : mchkP 6 = true := by decide +kernel
set_option maxRecDepth 100000 in
theorem mkI_6 : mchkMI 6 = true := by decide +kernel
set_option maxRecDepth 100000 in
theorem mkD_6 : mchkD 6 = true := by decide +kernel
set_option maxRecDepth 100000 in
theorem mkP_7 : mchkP 7 = true := by decide +kernel
set_option maxRecDepth 100000 in
theorem mkI_7 : mchkMI 7 = true := by decide +kernel
set_option maxRecDepth 100000 in
theorem mkD_7 : mchkD 7 = true := by decide +kernel
set_option maxRecDepth 100000 in
theorem mkP_8 : mchkP 8 = true := by decide +kernel
set_option maxRecDepth 100000 in
theorem mkI_8 : mchkMI 8 = true := by decide +kernel
set_option maxRecDepth 100000 in
theorem mkD_8 : mchkD 8 = true := by decide +kernel
set_option maxRecDepth 100000 in
theorem mkP_9 : mchkP 9 = true := by decide +kernel
set_option maxRecDepth 100000 in
theorem mkI_9 : mchkMI 9 = true := by decide +kernel
set_option maxRecDepth 100000 in
theorem mkD_9 : mchkD 9 = true := by decide +kernel
set_option maxRecDepth 100000 in
theorem mkP_10 : mchkP 10 = true := by decide +kernel
set_option maxRecDepth 100000 in
theorem mkI_10 : mchkMI 10 = true := by decide +kernel
set_option maxRecDepth 100000 in
theorem mkD_10 : mchkD 10 = true := by decide +kernel
set_option maxRecDepth 100000 in
theorem mkP_11 : mchkP 11 = true := by decide +kernel
set_option maxRecDepth 100000 in
theorem mkI_11 : mchkMI 11 = true := by decide +kernel
set_option maxRecDepth 100000 in
theorem mkD_11 : mchkD 11 = true := by decide +kernel
set_option maxRecDepth 100000 in
theorem mkP_12 : mchkP 12 = true := by decide +kernel
set_option maxRecDepth 100000 in
theorem mkI_12 : mchkMI 12 = true := by decide +kernel
set_option maxRecDepth 100000 in
theorem mkD_12 : mchkD 12 = true := by decide +kernel
set_option maxRecDepth 100000 in
theorem mkP_13 : mchkP 13 = true := by decide +kernel
set_option maxRecDepth 100000 in
theorem mkI_13 : mchkMI 13 = true := by decide +kernel
set_option maxRecDepth 100000 in
theorem mkD_13 : mchkD 13 = true := by decide +kernel
set_option maxRecDepth 100000 in
theorem mkP_14 : mchkP 14 = true := by decide +kernel
set_option maxRecDepth 100000 in
theorem mkI_14 : mchkMI 14 = true := by decide +kernel
set_option maxRecDepth 100000 in
theorem mkD_14 : mchkD 14 = true := by decide +kernel
set_option maxRecDepth 100000 in
theorem mkP_15 : mchkP 15 = true := by decide +kernel
set_option maxRecDepth 100000 in
theorem mkI_15 : mchkMI 15 = true := by decide +kernel
set_option maxRecDepth 100000 in
theorem mkD_15 : mchkD 15 = true := by decide +kernel
set_option maxRecDepth 100000 in
theorem mkP_16 : mchkP 16 = true := by decide +kernel
set_option maxRecDepth 100000 in
theorem mkI_16 : mchkMI 16 = true := by decide +kernel
set_option maxRecDepth 100000 in
theorem mkD_16 : mchkD 16 = true := by decide +kernel
set_option maxRecDepth 100000 in
theorem mkP_17 : mchkP 17 = true := by decide +kernel
set_option maxRecDepth 100000 in
theorem mkI_17 : mchkMI 17 = true := by decide +kernel
set_option maxRecDepth 100000 in
theorem mkD_17 : mchkD 17 = true := by decide +kernel
set_option maxRecDepth 100000 in
theorem mkP_18 : mchkP 18 = true := by decide +kernel
set_option maxRecDepth 100000 in
theorem mkI_18 : mchkMI 18 = true := by decide +kernel
set_option maxRecDepth 100000 in
theorem mkD_18 : mchkD 18 = true := by decide +kernel
set_option maxRecDepth 100000 in
theorem mkP_19 : mchkP 19 = true := by decide +kernel
set_option maxRecDepth 100000 in
theorem mkI_19 : mchkMI 19 = true := by decide +kernel
set_option maxRecDepth 100000 in
theorem mkD_19 : mchkD 19 = true := by decide +kernel
set_option maxRecDepth 100000 in
theorem mkP_20 : mchkP 20 = true := by decide +kernel
set_option maxRecDepth 100000 in
theorem mkI_20 : mchkMI 20 = true := by decide +kernel
set_option maxRecDepth 100000 in
theorem mkD_20 : mchkD 20 = true := by decide +kernel
set_option maxRecDepth 100000 in
theorem mkP_21 : mchkP 21 = true := by decide +kernel
set_option maxRecDepth 100000 in
theorem mkI_21 : mchkMI 21 = true := by decide +kernel
set_option maxRecDepth 100000 in
theorem mkD_21 : mchkD 21 = true := by decide +kernel
set_option maxRecDepth 100000 in
theorem mkP_22 : mchkP 22 = true := by decide +kernel
set_option maxRecDepth 100000 in
theorem mkI_22 : mchkMI 22 = true := by decide +kernel
set_option maxRecDepth 100000 in
theorem mkD_22 : mchkD 22 = true := by decide +kernel
set_option maxRecDepth 100000 in
theorem mkP_23 : mchkP 23 = true := by decide +kernel
set_option maxRecDepth 100000 in
theorem mkI_23 : mchkMI 23 = true := by decide +kernel
set_option maxRecDepth 100000 in
theorem mkD_23 : mchkD 23 = true := by decide +kernel
set_option maxRecDepth 100000 in
theorem mkP_24 : mchkP 24 = true := by decide +kernel
set_option maxRecDepth 100000 in
theorem mkI_24 : mchkMI 24 = true := by decide +kernel
set_option maxRecDepth 100000 in
theorem mkD_24 : mchkD 24 = true := by decide +kernel
set_option maxRecDepth 100000 in
theorem mkP_25 : mchkP 25 = true := by decide +kernel
set_option maxRecDepth 100000 in
theorem mkI_25 : mchkMI 25 = true := by decide +kernel
set_option maxRecDepth 100000 in
theorem mkD_25 : mchkD 25 = true := by decide +kernel
set_option maxRecDepth 100000 in
theorem mkP_26 : mchkP 26 = true := by decide +kernel
set_option maxRecDepth 100000 in
theorem mkI_26 : mchkMI 26 = true := by decide +kernel
set_option maxRecDepth 100000 in
theorem mkD_26 : mchkD 26 = true := by decide +kernel
set_option maxRecDepth 100000 in
theorem mkP_27 : mchkP 27 = true := by decide +kernel
set_option maxRecDepth 100000 in
theorem mkI_27 : mchkMI 27 = true := by decide +kernel
set_option maxRecDepth 100000 in
theorem mkD_27 : mchkD 27 = true := by decide +kernel
set_option maxRecDepth 100000 in
theorem mkP_28 : mchkP 28 = true := by decide +kernel
set_option maxRecDepth 100000 in
theorem mkI_28 : mchkMI 28 = true := by decide +kernel
set_option maxRecDepth 100000 in
theorem mkD_28 : mchkD 28 = true := by decide +kernel
set_option maxRecDepth 100000 in
theorem mkP_29 : mchkP 29 = true := by decide +kernel
set_option maxRecDepth 100000 in
theorem mkI_29 : mchkMI 29 = true := by decide +kernel
set_option maxRecDepth 100000 in
theorem mkD_29 : mchkD 29 = true := by decide +kernel
set_option maxRecDepth 100000 in
theorem mkP_30 : mchkP 30 = true := by decide +kernel
set_option maxRecDepth 100000 in
theorem mkI_30 : mchkMI 30 = true := by decide +kernel
set_option maxRecDepth 100000 in
theorem mkD_30 : mchkD 30 = true := by decide +kernel
set_option maxRecDepth 100000 in
theorem mkP_31 : mchkP 31 = true := by decide +kernel
set_option maxRecDepth 100000 in
theorem mkI_31 : mchkMI 31 = true := by decide +kernel
set_option maxRecDepth 100000 in
theorem mkD_31 : mchkD 31 = true := by decide +kernel
set_option maxRecDepth 100000 in
theorem mkP_32 : mchkP 32 = true := by decide +kernel
set_option maxRecDepth 100000 in
theorem mkI_32 : mchkMI 32 = true := by decide +kernel
set_option maxRecDepth 100000 in
theorem mkD_32 : mchkD 32 = true := by decide +kernel
set_option maxRecDepth 100000 in
theorem mkP_33 : mchkP 33 = true := by decide +kernel
set_option maxRecDepth 100000 in
theorem mkI_33 : mchkMI 33 = true := by decide +kernel
set_option maxRecDepth 100000 in
theorem mkD_33 : mchkD 33 = true := by decide +kernel
set_option maxRecDepth 100000 in
theorem mkP_34 : mchkP 34 = true := by decide +kernel
set_option maxRecDepth 100000 in
theorem mkI_34 : mchkMI 34 = true := by decide +kernel
set_option maxRecDepth 100000 in
theorem mkD_34 : mchkD 34 = true := by decide +kernel
set_option maxRecDepth 100000 in
theorem mkP_35 : mchkP 35 = true := by decide +kernel
set_option maxRecDepth 100000 in
theorem mkI_35 : mchkMI 35 = true := by decide +kernel
set_option maxRecDepth 100000 in
theorem mkD_35 : mchkD 35 = true := by decide +kernel
set_option maxRecDepth 100000 in
theorem mkP_36 : mchkP 36 = true := by decide +kernel
set_option maxRecDepth 100000 in
theorem mkI_36 : mchkMI 36 = true := by decide +kernel
set_option maxRecDepth 100000 in
theorem mkD_36 : mchkD 36 = true := by decide +kernel
set_option maxRecDepth 100000 in
theorem mkP_37 : mchkP 37 = true := by decide +kernel
set_option maxRecDepth 100000 in
theorem mkI_37 : mchkMI 37 = true := by decide +kernel
set_option maxRecDepth 100000 in
theorem mkD_37 : mchkD 37 = true := by decide +kernel
set_option maxRecDepth 100000 in
theorem mkP_38 : mchkP 38 = true := by decide +kernel
set_option maxRecDepth 100000 in
theorem mkI_38 : mchkMI 38 = true := by decide +kernel
set_option maxRecDepth 100000 in
theorem mkD_38 : mchkD 38 = true := by decide +kernel
set_option maxRecDepth 100000 in
theorem mkP_39 : mchkP 39 = true := by decide +kernel
set_option maxRecDepth 100000 in
theorem mkI_39 : mchkMI 39 = true := by decide +kernel
set_option maxRecDepth 100000 in
theorem mkD_39 : mchkD 39 = true := by decide +kernel
set_option maxRecDepth 100000 in
theorem mkP_40 : mchkP 40 = true := by decide +kernel
set_option maxRecDepth 100000 in
theorem mkI_40 : mchkMI 40 = true := by decide +kernel
set_option maxRecDepth 100000 in
theorem mkD_40 : mchkD 40 = true := by decide +kernel
set_option maxRecDepth 100000 in
theorem mkP_41 : mchkP 41 = true := by decide +kernel
set_option maxRecDepth 100000 in
theorem mkI_41 : mchkMI 41 = true := by decide +kernel
set_option maxRecDepth 100000 in
theorem mkD_41 : mchkD 41 = true := by decide +kernel
set_option maxRecDepth 100000 in
theorem mkP_42 : mchkP 42 = true := by decide +kernel
set_option maxRecDepth 100000 in
theorem mkI_42 : mchkMI 42 = true := by decide +kernel
set_option maxRecDepth 100000 in
theorem mkD_42 : mchkD 42 = true := by decide +kernel
set_option maxRecDepth 100000 in
theorem mkP_43 : mchkP 43 = true := by decide +kernel
set_option maxRecDepth 100000 in
theorem mkI_43 : mchkMI 43 = true := by decide +kernel
set_option maxRecDepth 100000 in
theorem mkD_43 : mchkD 43 = true := by decide +kernel
set_option maxRecDepth 100000 in
theorem mkP_44 : mchkP 44 = true := by decide +kernel
set_option maxRecDepth 100000 in
theorem mkI_44 : mchkMI 44 = true := by decide +kernel
set_option maxRecDepth 100000 in
theorem mkD_44 : mchkD 44 = true := by decide +kernel
end
section
set_option maxRecDepth 100000 in
theorem mkP_45 : mchkP 45 = true := by decide +kernel
set_option maxRecDepth 100000 in
theorem mkI_45 : mchkMI 45 = true := by decide +kernel
set_option maxRecDepth 100000 in
theorem mkD_45 : mchkD 45 = true := by decide +kernel
set_option maxRecDepth 100000 in
theorem mkP_46 : mchkP 46 = true := by decide +kernel
set_option maxRecDepth 100000 in
theorem mkI_46 : mchkMI 46 = true := by decide +kernel
set_option maxRecDepth 100000 in
theorem mkD_46 : mchkD 46 = true := by decide +kernel
set_option maxRecDepth 100000 in
theorem mkP_47 : mchkP 47 = true := by decide +kernel
set_option maxRecDepth 100000 in
theorem mkI_47 : mchkMI 47 = true := by decide +kernel
set_option maxRecDepth 100000 in
theorem mkD_47 : mchkD 47 = true := by decide +kernel
set_option maxRecDepth 100000 in
theorem mkP_48 : mchkP 48 = true := by decide +kernel
set_option maxRecDepth 100000 in
theorem mkI_48 : mchkMI 48 = true := by decide +kernel
set_option maxRecDepth 100000 in
theorem mkD_48 : mchkD 48 = true := by decide +kernel
set_option maxRecDepth 100000 in
theorem mkP_49 : mchkP 49 = true := by decide +kernel
set_option maxRecDepth 100000 in
theorem mkI_49 : mchkMI 49 = true := by decide +kernel
set_option maxRecDepth 100000 in
theorem mkD_49 : mchkD 49 = true := by decide +kernel
set_option maxRecDepth 100000 in
theorem mkP_50 : mchkP 50 = true := by decide +kernel
set_option maxRecDepth 100000 in
theorem mkI_50 : mchkMI 50 = true := by decide +kernel
set_option maxRecDepth 100000 in
theorem mkD_50 : mchkD 50 = true := by decide +kernel
set_option maxRecDepth 100000 in
theorem mkP_51 : mchkP 51 = true := by decide +kernel
set_option maxRecDepth 100000 in
theorem mkI_51 : mchkMI 51 = true := by decide +kernel
set_option maxRecDepth 100000 in
theorem mkD_51 : mchkD 51 = true := by decide +kernel
set_option maxRecDepth 100000 in
theorem mkP_52 : mchkP 52 = true := by decide +kernel
set_option maxRecDepth 100000 in
theorem mkI_52 : mchkMI 52 = true := by decide +kernel
set_option maxRecDepth 100000 in
theorem mkD_52 : mchkD 52 = true := by decide +kernel
set_option maxRecDepth 100000 in
theorem mkP_53 : mchkP 53 = true := by decide +kernel
set_option maxRecDepth 100000 in
theorem mkI_53 : mchkMI 53 = true := by decide +kernel
set_option maxRecDepth 100000 in
theorem mkD_53 : mchkD 53 = true := by decide +kernel
set_option maxRecDepth 100000 in
theorem mkP_54 : mchkP 54 = true := by decide +kernel
set_option maxRecDepth 100000 in
theorem mkI_54 : mchkMI 54 = true := by decide +kernel
set_option maxRecDepth 100000 in
theorem mkD_54 : mchkD 54 = true := by decide +kernel
set_option maxRecDepth 100000 in
theorem mkP_55 : mchkP 55 = true := by decide +kernel
set_option maxRecDepth 100000 in
theorem mkI_55 : mchkMI 55 = true := by decide +kernel
set_option maxRecDepth 100000 in
theorem mkD_55 : mchkD 55 = true := by decide +kernel
set_option maxRecDepth 100000 in
theorem mkP_56 : mchkP 56 = true := by decide +kernel
set_option maxRecDepth 100000 in
theorem mkI_56 : mchkMI 56 = true := by decide +kernel
set_option maxRecDepth 100000 in
theorem mkD_56 : mchkD 56 = true := by decide +kernel
set_option maxRecDepth 100000 in
theorem mkP_57 : mchkP 57 = true := by decide +kernel
set_option maxRecDepth 100000 in
theorem mkI_57 : mchkMI 57 = true := by decide +kernel
set_option maxRecDepth 100000 in
theorem mkD_57 : mchkD 57 = true := by decide +kernel
set_option maxRecDepth 100000 in
theorem mkP_58 : mchkP 58 = true := by decide +kernel
set_option maxRecDepth 100000 in
theorem mkI_58 : mchkMI 58 = true := by decide +kernel
set_option maxRecDepth 100000 in
theorem mkD_58 : mchkD 58 = true := by decide +kernel
set_option maxRecDepth 100000 in
theorem mkP_59 : mchkP 59 = true := by decide +kernel
set_option maxRecDepth 100000 in
theorem mkI_59 : mchkMI 59 = true := by decide +kernel
set_option maxRecDepth 100000 in
theorem mkD_59 : mchkD 59 = true := by decide +kernel
set_option maxRecDepth 100000 in
theorem mkP_60 : mchkP 60 = true := by decide +kernel
set_option maxRecDepth 100000 in
theorem mkI_60 : mchkMI 60 = true := by decide +kernel
set_option maxRecDepth 100000 in
theorem mkD_60 : mchkD 60 = true := by decide +kernel
set_option maxRecDepth 100000 in
theorem mkP_61 : mchkP 61 = true := by decide +kernel
set_option maxRecDepth 100000 in
theorem mkI_61 : mchkMI 61 = true := by decide +kernel
set_option maxRecDepth 100000 in
theorem mkD_61 : mchkD 61 = true := by decide +kernel
set_option maxRecDepth 100000 in
theorem mkP_62 : mchkP 62 = true := by decide +kernel
set_option maxRecDepth 100000 in
theorem mkI_62 : mchkMI 62 = true := by decide +kernel
set_option maxRecDepth 100000 in
theorem mkD_62 : mchkD 62 = true := by decide +kernel
set_option maxRecDepth 100000 in
theorem mkP_63 : mchkP 63 = true := by decide +kernel
set_option maxRecDepth 100000 in
theorem mkI_63 : mchkMI 63 = true := by decide +kernel
set_option maxRecDepth 100000 in
theorem mkD_63 : mchkD 63 = true := by decide +kernel
set_option maxRecDepth 100000 in
theorem mkP_64 : mchkP 64 = true := by decide +kernel
set_option maxRecDepth 100000 in
theorem mkI_64 : mchkMI 64 = true := by decide +kernel
set_option maxRecDepth 100000 in
theorem mkD_64 : mchkD 64 = true := by decide +kernel
set_option maxRecDepth 100000 in
theorem mkP_65 : mchkP 65 = true := by decide +kernel
set_option maxRecDepth 100000 in
theorem mkI_65 : mchkMI 65 = true := by decide +kernel
set_option maxRecDepth 100000 in
theorem mkD_65 : mchkD 65 = true := by decide +kernel
set_option maxRecDepth 100000 in
theorem mkP_66 : mchkP 66 = true := by decide +kernel
set_option maxRecDepth 100000 in
theorem mkI_66 : mchkMI 66 = true := by decide +kernel
set_option maxRecDepth 100000 in
theorem mkD_66 : mchkD 66 = true := by decide +kernel
set_option maxRecDepth 100000 in
theorem mkP_67 : mchkP 67 = true := by decide +kernel
set_option maxRecDepth 100000 in
theorem mkI_67 : mchkMI 67 = true := by decide +kernel
set_option maxRecDepth 100000 in
theorem mkD_67 : mchkD 67 = true := by decide +kernel
set_option maxRecDepth 100000 in
theorem mkP_68 : mchkP 68 = true := by decide +kernel
set_option maxRecDepth 100000 in
theorem mkI_68 : mchkMI 68 = true := by decide +kernel
set_option maxRecDepth 100000 in
theorem mkD_68 : mchkD 68 = true := by decide +kernel
set_option maxRecDepth 100000 in
theorem mkP_69 : mchkP 69 = true := by decide +kernel
set_option maxRecDepth 100000 in
theorem mkI_69 : mchkMI 69 = true := by decide +kernel
set_option maxRecDepth 100000 in
theorem mkD_69 : mchkD 69 = true := by decide +kernel
set_option maxRecDepth 100000 in
theorem mkP_70 : mchkP 70 = true := by decide +kernel
set_option maxRecDepth 100000 in
theorem mkI_70 : mchkMI 70 = true := by decide +kernel
set_option maxRecDepth 100000 in
theorem mkD_70 : mchkD 70 = true := by decide +kernel
set_option maxRecDepth 100000 in
theorem mkP_71 : mchkP 71 = true := by decide +kernel
set_option maxRecDepth 100000 in
theorem mkI_71 : mchkMI 71 = true := by decide +kernel
set_option maxRecDepth 100000 in
theorem mkD_71 : mchkD 71 = true := by decide +kernel
set_option maxRecDepth 100000 in
theorem mkP_72 : mchkP 72 = true := by decide +kernel
set_option maxRecDepth 100000 in
theorem mkI_72 : mchkMI 72 = true := by decide +kernel
set_option maxRecDepth 100000 in
theorem mkD_72 : mchkD 72 = true := by decide +kernel
set_option maxRecDepth 100000 in
theorem mkP_73 : mchkP 73 = true := by decide +kernel
set_option maxRecDepth 100000 in
theorem mkI_73 : mchkMI 73 = true := by decide +kernel
set_option maxRecDepth 100000 in
theorem mkD_73 : mchkD 73 = true := by decide +kernel
set_option maxRecDepth 100000 in
theorem mkP_74 : mchkP 74 = true := by decide +kernel
set_option maxRecDepth 100000 in
theorem mkI_74 : mchkMI 74 = true := by decide +kernel
set_option maxRecDepth 100000 in
theorem mkD_74 : mchkD 74 = true := by decide +kernel
set_option maxRecDepth 100000 in
theorem mkP_75 : mchkP 75 = true := by decide +kernel
set_option maxRecDepth 100000 in
theorem mkI_75 : mchkMI 75 = true := by decide +kernel
set_option maxRecDepth 100000 in
theorem mkD_75 : mchkD 75 = true := by decide +kernel
set_option maxRecDepth 100000 in
theorem mkP_76 : mchkP 76 = true := by decide +kernel
set_option maxRecDepth 100000 in
theorem mkI_76 : mchkMI 76 = true := by decide +kernel
set_option maxRecDepth 100000 in
theorem mkD_76 : mchkD 76 = true := by decide +kernel
set_option maxRecDepth 100000 in
theorem mkP_77 : mchkP 77 = true := by decide +kernel
set_option maxRecDepth 100000 in
theorem mkI_77 : mchkMI 77 = true := by decide +kernel
set_option maxRecDepth 100000 in
theorem mkD_77 : mchkD 77 = true := by decide +kernel
set_option maxRecDepth 100000 in
theorem mkP_78 : mchkP 78 = true := by decide +kernel
set_option maxRecDepth 100000 in
theorem mkI_78 : mchkMI 78 = true := by decide +kernel
set_option maxRecDepth 100000 in
theorem mkD_78 : mchkD 78 = true := by decide +kernel
set_option maxRecDepth 100000 in
theorem mkP_79 : mchkP 79 = true := by decide +kernel
set_option maxRecDepth 100000 in
theorem mkI_79 : mchkMI 79 = true := by decide +kernel
set_option maxRecDepth 100000 in
theorem mkD_79 : mchkD 79 = true := by decide +kernel
set_option maxRecDepth 100000 in
theorem mkP_80 : mchkP 80 = true := by decide +kernel
set_option maxRecDepth 100000 in
theorem mkI_80 : mchkMI 80 = true := by decide +kernel
set_option maxRecDepth 100000 in
theorem mkD_80 : mchkD 80 = true := by decide +kernel
set_option maxRecDepth 100000 in
theorem mkP_81 : mchkP 81 = true := by decide +kernel
set_option maxRecDepth 100000 in
theorem mkI_81 : mchkMI 81 = true := by decide +kernel
set_option maxRecDepth 100000 in
theorem mkD_81 : mchkD 81 = true := by decide +kernel
set_option maxRecDepth 100000 in
theorem mkP_82 : mchkP 82 = true := by decide +kernel
set_option maxRecDepth 100000 in
theorem mkI_82 : mchkMI 82 = true := by decide +kernel
set_option maxRecDepth 100000 in
theorem mkD_82 : mchkD 82 = true := by decide +kernel
set_option maxRecDepth 100000 in
theorem mkP_83 : mchkP 83 = true := by decide +kernel
set_option maxRecDepth 100000 in
theorem mkI_83 : mchkMI 83 = true := by decide +kernel
set_option maxRecDepth 100000 in
theorem mkD_83 : mchkD 83 = true := by decide +kernel
set_option maxRecDepth 100000 in
theorem mkP_84 : mchkP 84 = true := by decide +kernel
set_option maxRecDepth 100000 in
theorem mkI_84 : mchkMI 84 = true := by decide +kernel
set_option maxRecDepth 100000 in
theorem mkD_84 : mchkD 84 = true := by decide +kernel
set_option maxRecDepth 100000 in
theorem mkP_85 : mchkP 85 = true := by decide +kernel
set_option maxRecDepth 100000 in
theorem mkI_85 : mchkMI 85 = true := by decide +kernel
set_option maxRecDepth 100000 in
theorem mkD_85 : mchkD 85 = true := by decide +kernel
set_option maxRecDepth 100000 in
theorem mkP_86 : mchkP 86 = true := by decide +kernel
set_option maxRecDepth 100000 in
theorem mkI_86 : mchkMI 86 = true := by decide +kernel
set_option maxRecDepth 100000 in
theorem mkD_86 : mchkD 86 = true := by decide +kernel
set_option maxRecDepth 100000 in
theorem mkP_87 : mchkP 87 = true := by decide +kernel
set_option maxRecDepth 100000 in
theorem mkI_87 : mchkMI 87 = true := by decide +kernel
set_option maxRecDepth 100000 in
theorem mkD_87 : mchkD 87 = true := by decide +kernel
set_option maxRecDepth 100000 in
theorem mkP_88 : mchkP 88 = true := by decide +kernel
set_option maxRecDepth 100000 in
theorem mkI_88 : mchkMI 88 = true := by decide +kernel
set_option maxRecDepth 100000 in
theorem mkD_88 : mchkD 88 = true := by decide +kernel
set_option maxRecDepth 100000 in
theorem mkP_89 : mchkP 89 = true := by decide +kernel
set_option maxRecDepth 100000 in
theorem mkI_89 : mchkMI 89 = true := by decide +kernel
set_option maxRecDepth 100000 in
theorem mkD_89 : mchkD 89 = true := by decide +kernel
set_option maxRecDepth 100000 in
theorem mkP_90 : mchkP 90 = true := by decide +kernel
set_option maxRecDepth 100000 in
theorem mkI_90 : mchkMI 90 = true := by decide +kernel
set_option maxRecDepth 100000 in
theorem mkD_90 : mchkD 90 = true := by decide +kernel
set_option maxRecDepth 100000 in
theorem mkP_91 : mchkP 91 = true := by decide +kernel
set_option maxRecDepth 100000 in
theorem mkI_91 : mchkMI 91 = true := by decide +kernel
set_option maxRecDepth 100000 in
theorem mkD_91 : mchkD 91 = true := by decide +kernel
set_option maxRecDepth 100000 in
theorem mkP_92 : mchkP 92 = true := by decide +kernel
set_option maxRecDepth 100000 in
theorem mkI_92 : mchkMI 92 = true := by decide +kernel
set_option maxRecDepth 100000 in
theorem mkD_92 : mchkD 92 = true := by decide +kernel
set_option maxRecDepth 100000 in
theorem mkP_93 : mchkP 93 = true := by decide +kernel
set_option maxRecDepth 100000 in
theorem mkI_93 : mchkMI 93 = true := by decide +kernel
set_option maxRecDepth 100000 in
theorem mkD_93 : mchkD 93 = true := by decide +kernel
set_option maxRecDepth 100000 in
theorem mkP_94 : mchkP 94 = true := by decide +kernel
set_option maxRecDepth 100000 in
theorem mkI_94 : mchkMI 94 = true := by decide +kernel
set_option maxRecDepth 100000 in
theorem mkD_94 : mchkD 94 = true := by decide +kernel
set_option maxRecDepth 100000 in
theorem mkP_95 : mchkP 95 = true := by decide +kernel
set_option maxRecDepth 100000 in
theorem mkI_95 : mchkMI 95 = true := by decide +kernel
set_option maxRecDepth 100000 in
theorem mkD_95 : mchkD 95 = true := by decide +kernel
set_option maxRecDepth 100000 in
theorem mkP_96 : mchkP 96 = true := by decide +kernel
set_option maxRecDepth 100000 in
theorem mkI_96 : mchkMI 96 = true := by decide +kernel
set_option maxRecDepth 100000 in
theorem mkD_96 : mchkD 96 = true := by decide +kernel
set_option maxRecDepth 100000 in
theorem mkP_97 : mchkP 97 = true := by decide +kernel
set_option maxRecDepth 100000 in
theorem mkI_97 : mchkMI 97 = true := by decide +kernel
set_option maxRecDepth 100000 in
theorem mkD_97 : mchkD 97 = true := by decide +kernel
set_option maxRecDepth 100000 in
theorem mkP_98 : mchkP 98 = true := by decide +kernel
set_option maxRecDepth 100000 in
theorem mkI_98 : mchkMI 98 = true := by decide +kernel
set_option maxRecDepth 100000 in
theorem mkD_98 : mchkD 98 = true := by decide +kernel
set_option maxRecDepth 100000 in
theorem mkP_99 : mchkP 99 = true := by decide +kernel
set_option maxRecDepth 100000 in
theorem mkI_99 : mchkMI 99 = true := by decide +kernel
set_option maxRecDepth 100000 in
theorem mkD_99 : mchkD 99 = true := by decide +kernel
end
section
theorem mk_chunks {α : Type} (f : α → Bool) (l : List α) : ∀ n : Nat, (∀ k, k < n → ((l.drop (64 * k)).take 64).all f = true) → (l.take (64 * n)).all f = true := by
  intro n
  induction n with
  | zero => intro _; rfl
  | succ n ih =>
    intro h
    have e : 64 * (n + 1) = 64 * n + 64 := by omega
    rw [e, List.take_add, List.all_append, ih (fun k hk => h k (by omega)), h n (by omega)]
    rfl
def mdecO (y : mMth) (e : mIns) : Bool := decide (decode y.2.1 e.1 = .ok (e.2.1, mlen e.2.1 e.2.2.1))
set_option maxRecDepth 100000 in
theorem mkP_100 : mchkP 100 = true := by decide +kernel
set_option maxRecDepth 100000 in
theorem mkI_100 : mchkMI 100 = true := by decide +kernel
set_option maxRecDepth 100000 in
theorem mkD_100 : mchkD 100 = true := by decide +kernel
set_option maxRecDepth 100000 in
theorem mkP_101 : mchkP 101 = true := by decide +kernel
set_option maxRecDepth 100000 in
theorem mkI_101 : mchkMI 101 = true := by decide +kernel
set_option maxRecDepth 100000 in
theorem mkD_101 : mchkD 101 = true := by decide +kernel
set_option maxRecDepth 100000 in
theorem mkP_102 : mchkP 102 = true := by decide +kernel
set_option maxRecDepth 100000 in
theorem mkI_102 : mchkMI 102 = true := by decide +kernel
set_option maxRecDepth 100000 in
theorem mkD_102 : mchkD 102 = true := by decide +kernel
set_option maxRecDepth 100000 in
theorem mkP_103 : mchkP 103 = true := by decide +kernel
set_option maxRecDepth 100000 in
theorem mkI_103 : mchkMI 103 = true := by decide +kernel
set_option maxRecDepth 100000 in
theorem mkD_103 : mchkD 103 = true := by decide +kernel
set_option maxRecDepth 100000 in
theorem mkP_104 : mchkP 104 = true := by decide +kernel
set_option maxRecDepth 100000 in
theorem mkI_104 : mchkMI 104 = true := by decide +kernel
set_option maxRecDepth 100000 in
theorem mkD_104 : mchkD 104 = true := by decide +kernel
set_option maxRecDepth 100000 in
theorem mkP_105 : mchkP 105 = true := by decide +kernel
set_option maxRecDepth 100000 in
theorem mkI_105 : mchkMI 105 = true := by decide +kernel
set_option maxRecDepth 100000 in
theorem mkD_105 : mchkD 105 = true := by decide +kernel
set_option maxRecDepth 100000 in
theorem mkP_106 : mchkP 106 = true := by decide +kernel
set_option maxRecDepth 100000 in
theorem mkI_106 : mchkMI 106 = true := by decide +kernel
set_option maxRecDepth 100000 in
theorem mkD_106 : mchkD 106 = true := by decide +kernel
set_option maxRecDepth 100000 in
theorem mkP_107 : mchkP 107 = true := by decide +kernel
set_option maxRecDepth 100000 in
theorem mkI_107 : mchkMI 107 = true := by decide +kernel
set_option maxRecDepth 100000 in
theorem mkD_107 : mchkD 107 = true := by decide +kernel
set_option maxRecDepth 100000 in
theorem mkP_108 : mchkP 108 = true := by decide +kernel
set_option maxRecDepth 100000 in
theorem mkI_108 : mchkMI 108 = true := by decide +kernel
set_option maxRecDepth 100000 in
theorem mkD_108 : mchkD 108 = true := by decide +kernel
set_option maxRecDepth 100000 in
theorem mkP_109 : mchkP 109 = true := by decide +kernel
set_option maxRecDepth 100000 in
theorem mkI_109 : mchkMI 109 = true := by decide +kernel
set_option maxRecDepth 100000 in
theorem mkD_109 : mchkD 109 = true := by decide +kernel
set_option maxRecDepth 100000 in
theorem mkP_110 : mchkP 110 = true := by decide +kernel
set_option maxRecDepth 100000 in
theorem mkI_110 : mchkMI 110 = true := by decide +kernel
set_option maxRecDepth 100000 in
theorem mkD_110 : mchkD 110 = true := by decide +kernel
set_option maxRecDepth 100000 in
theorem mkP_111 : mchkP 111 = true := by decide +kernel
set_option maxRecDepth 100000 in
theorem mkI_111 : mchkMI 111 = true := by decide +kernel
set_option maxRecDepth 100000 in
theorem mkD_111 : mchkD 111 = true := by decide +kernel
set_option maxRecDepth 100000 in
theorem mkP_112 : mchkP 112 = true := by decide +kernel
set_option maxRecDepth 100000 in
theorem mkI_112 : mchkMI 112 = true := by decide +kernel
set_option maxRecDepth 100000 in
theorem mkD_112 : mchkD 112 = true := by decide +kernel
set_option maxRecDepth 100000 in
theorem mkP_113 : mchkP 113 = true := by decide +kernel
set_option maxRecDepth 100000 in
theorem mkI_113 : mchkMI 113 = true := by decide +kernel
set_option maxRecDepth 100000 in
theorem mkD_113 : mchkD 113 = true := by decide +kernel
set_option maxRecDepth 100000 in
theorem mkP_114 : mchkP 114 = true := by decide +kernel
set_option maxRecDepth 100000 in
theorem mkI_114 : mchkMI 114 = true := by decide +kernel
set_option maxRecDepth 100000 in
theorem mkD_114 : mchkD 114 = true := by decide +kernel
set_option maxRecDepth 100000 in
theorem mkP_115 : mchkP 115 = true := by decide +kernel
set_option maxRecDepth 100000 in
theorem mkI_115 : mchkMI 115 = true := by decide +kernel
set_option maxRecDepth 100000 in
theorem mkD_115 : mchkD 115 = true := by decide +kernel
set_option maxRecDepth 100000 in
theorem mkP_116 : mchkP 116 = true := by decide +kernel
set_option maxRecDepth 100000 in
theorem mkI_116 : mchkMI 116 = true := by decide +kernel
def mLrow : mMth := (yL_law, cL_law, 21, (some .boolean), RL, 8, 188)
theorem mL_row : mmeth 116 = some mLrow := by rfl
set_option maxRecDepth 100000 in
theorem mkD_116_0 : (((mcode 116).drop (64 * 0)).take 64).all (mdecO mLrow) = true := by decide +kernel
set_option maxRecDepth 100000 in
theorem mkD_116_1 : (((mcode 116).drop (64 * 1)).take 64).all (mdecO mLrow) = true := by decide +kernel
set_option maxRecDepth 100000 in
theorem mkD_116_2 : (((mcode 116).drop (64 * 2)).take 64).all (mdecO mLrow) = true := by decide +kernel
set_option maxRecDepth 100000 in
theorem mkD_116_3 : (((mcode 116).drop (64 * 3)).take 64).all (mdecO mLrow) = true := by decide +kernel
set_option maxRecDepth 100000 in
theorem mkD_116_4 : (((mcode 116).drop (64 * 4)).take 64).all (mdecO mLrow) = true := by decide +kernel
set_option maxRecDepth 100000 in
theorem mkD_116_5 : (((mcode 116).drop (64 * 5)).take 64).all (mdecO mLrow) = true := by decide +kernel
set_option maxRecDepth 100000 in
theorem mkD_116_6 : (((mcode 116).drop (64 * 6)).take 64).all (mdecO mLrow) = true := by decide +kernel
set_option maxRecDepth 100000 in
theorem mkD_116_7 : (((mcode 116).drop (64 * 7)).take 64).all (mdecO mLrow) = true := by decide +kernel
set_option maxRecDepth 100000 in
theorem mkD_116_8 : (((mcode 116).drop (64 * 8)).take 64).all (mdecO mLrow) = true := by decide +kernel
set_option maxRecDepth 100000 in
theorem mkD_116_9 : (((mcode 116).drop (64 * 9)).take 64).all (mdecO mLrow) = true := by decide +kernel
set_option maxRecDepth 100000 in
theorem mkD_116_10 : (((mcode 116).drop (64 * 10)).take 64).all (mdecO mLrow) = true := by decide +kernel
set_option maxRecDepth 100000 in
theorem mkD_116_11 : (((mcode 116).drop (64 * 11)).take 64).all (mdecO mLrow) = true := by decide +kernel
theorem mkD_116 : mchkD 116 = true := by
  have h1 := mk_chunks (mdecO mLrow) (mcode 116) 12 (lt_s (lt_s (lt_s (lt_s (lt_s (lt_s (lt_s (lt_s (lt_s (lt_s (lt_s (lt_s (lt_0) mkD_116_0) mkD_116_1) mkD_116_2) mkD_116_3) mkD_116_4) mkD_116_5) mkD_116_6) mkD_116_7) mkD_116_8) mkD_116_9) mkD_116_10) mkD_116_11)
  rw [List.take_of_length_le (by decide +kernel)] at h1
  unfold mchkD
  rw [mL_row]
  exact h1
theorem mkP_to20 : ∀ k, k < 20 → mchkP k = true := lt_s (lt_s (lt_s (lt_s (lt_s (lt_s (lt_s (lt_s (lt_s (lt_s (lt_s (lt_s (lt_s (lt_s (lt_s (lt_s (lt_s (lt_s (lt_s (lt_s (lt_0) mkP_0) mkP_1) mkP_2) mkP_3) mkP_4) mkP_5) mkP_6) mkP_7) mkP_8) mkP_9) mkP_10) mkP_11) mkP_12) mkP_13) mkP_14) mkP_15) mkP_16) mkP_17) mkP_18) mkP_19
theorem mkP_to40 : ∀ k, k < 40 → mchkP k = true := lt_s (lt_s (lt_s (lt_s (lt_s (lt_s (lt_s (lt_s (lt_s (lt_s (lt_s (lt_s (lt_s (lt_s (lt_s (lt_s (lt_s (lt_s (lt_s (lt_s (mkP_to20) mkP_20) mkP_21) mkP_22) mkP_23) mkP_24) mkP_25) mkP_26) mkP_27) mkP_28) mkP_29) mkP_30) mkP_31) mkP_32) mkP_33) mkP_34) mkP_35) mkP_36) mkP_37) mkP_38) mkP_39
theorem mkP_to60 : ∀ k, k < 60 → mchkP k = true := lt_s (lt_s (lt_s (lt_s (lt_s (lt_s (lt_s (lt_s (lt_s (lt_s (lt_s (lt_s (lt_s (lt_s (lt_s (lt_s (lt_s (lt_s (lt_s (lt_s (mkP_to40) mkP_40) mkP_41) mkP_42) mkP_43) mkP_44) mkP_45) mkP_46) mkP_47) mkP_48) mkP_49) mkP_50) mkP_51) mkP_52) mkP_53) mkP_54) mkP_55) mkP_56) mkP_57) mkP_58) mkP_59
theorem mkP_to80 : ∀ k, k < 80 → mchkP k = true := lt_s (lt_s (lt_s (lt_s (lt_s (lt_s (lt_s (lt_s (lt_s (lt_s (lt_s (lt_s (lt_s (lt_s (lt_s (lt_s (lt_s (lt_s (lt_s (lt_s (mkP_to60) mkP_60) mkP_61) mkP_62) mkP_63) mkP_64) mkP_65) mkP_66) mkP_67) mkP_68) mkP_69) mkP_70) mkP_71) mkP_72) mkP_73) mkP_74) mkP_75) mkP_76) mkP_77) mkP_78) mkP_79
theorem mkP_to100 : ∀ k, k < 100 → mchkP k = true := lt_s (lt_s (lt_s (lt_s (lt_s (lt_s (lt_s (lt_s (lt_s (lt_s (lt_s (lt_s (lt_s (lt_s (lt_s (lt_s (lt_s (lt_s (lt_s (lt_s (mkP_to80) mkP_80) mkP_81) mkP_82) mkP_83) mkP_84) mkP_85) mkP_86) mkP_87) mkP_88) mkP_89) mkP_90) mkP_91) mkP_92) mkP_93) mkP_94) mkP_95) mkP_96) mkP_97) mkP_98) mkP_99
theorem mkP_to117 : ∀ k, k < 117 → mchkP k = true := lt_s (lt_s (lt_s (lt_s (lt_s (lt_s (lt_s (lt_s (lt_s (lt_s (lt_s (lt_s (lt_s (lt_s (lt_s (lt_s (lt_s (mkP_to100) mkP_100) mkP_101) mkP_102) mkP_103) mkP_104) mkP_105) mkP_106) mkP_107) mkP_108) mkP_109) mkP_110) mkP_111) mkP_112) mkP_113) mkP_114) mkP_115) mkP_116
theorem mkP_all {k : Nat} {y : mMth} (h : mmeth k = some y) : mchkP k = true := mkP_to117 k (Nat.lt_of_lt_of_le (List.getElem?_eq_some_iff.mp h).1 (by decide +kernel))
theorem mkI_to20 : ∀ k, k < 20 → mchkMI k = true := lt_s (lt_s (lt_s (lt_s (lt_s (lt_s (lt_s (lt_s (lt_s (lt_s (lt_s (lt_s (lt_s (lt_s (lt_s (lt_s (lt_s (lt_s (lt_s (lt_s (lt_0) mkI_0) mkI_1) mkI_2) mkI_3) mkI_4) mkI_5) mkI_6) mkI_7) mkI_8) mkI_9) mkI_10) mkI_11) mkI_12) mkI_13) mkI_14) mkI_15) mkI_16) mkI_17) mkI_18) mkI_19
theorem mkI_to40 : ∀ k, k < 40 → mchkMI k = true := lt_s (lt_s (lt_s (lt_s (lt_s (lt_s (lt_s (lt_s (lt_s (lt_s (lt_s (lt_s (lt_s (lt_s (lt_s (lt_s (lt_s (lt_s (lt_s (lt_s (mkI_to20) mkI_20) mkI_21) mkI_22) mkI_23) mkI_24) mkI_25) mkI_26) mkI_27) mkI_28) mkI_29) mkI_30) mkI_31) mkI_32) mkI_33) mkI_34) mkI_35) mkI_36) mkI_37) mkI_38) mkI_39
theorem mkI_to60 : ∀ k, k < 60 → mchkMI k = true := lt_s (lt_s (lt_s (lt_s (lt_s (lt_s (lt_s (lt_s (lt_s (lt_s (lt_s (lt_s (lt_s (lt_s (lt_s (lt_s (lt_s (lt_s (lt_s (lt_s (mkI_to40) mkI_40) mkI_41) mkI_42) mkI_43) mkI_44) mkI_45) mkI_46) mkI_47) mkI_48) mkI_49) mkI_50) mkI_51) mkI_52) mkI_53) mkI_54) mkI_55) mkI_56) mkI_57) mkI_58) mkI_59
theorem mkI_to80 : ∀ k, k < 80 → mchkMI k = true := lt_s (lt_s (lt_s (lt_s (lt_s (lt_s (lt_s (lt_s (lt_s (lt_s (lt_s (lt_s (lt_s (lt_s (lt_s (lt_s (lt_s (lt_s (lt_s (lt_s (mkI_to60) mkI_60) mkI_61) mkI_62) mkI_63) mkI_64) mkI_65) mkI_66) mkI_67) mkI_68) mkI_69) mkI_70) mkI_71) mkI_72) mkI_73) mkI_74) mkI_75) mkI_76) mkI_77) mkI_78) mkI_79
theorem mkI_to100 : ∀ k, k < 100 → mchkMI k = true := lt_s (lt_s (lt_s (lt_s (lt_s (lt_s (lt_s (lt_s (lt_s (lt_s (lt_s (lt_s (lt_s (lt_s (lt_s (lt_s (lt_s (lt_s (lt_s (lt_s (mkI_to80) mkI_80) mkI_81) mkI_82) mkI_83) mkI_84) mkI_85) mkI_86) mkI_87) mkI_88) mkI_89) mkI_90) mkI_91) mkI_92) mkI_93) mkI_94) mkI_95) mkI_96) mkI_97) mkI_98) mkI_99
theorem mkI_to117 : ∀ k, k < 117 → mchkMI k = true := lt_s (lt_s (lt_s (lt_s (lt_s (lt_s (lt_s (lt_s (lt_s (lt_s (lt_s (lt_s (lt_s (lt_s (lt_s (lt_s (lt_s (mkI_to100) mkI_100) mkI_101) mkI_102) mkI_103) mkI_104) mkI_105) mkI_106) mkI_107) mkI_108) mkI_109) mkI_110) mkI_111) mkI_112) mkI_113) mkI_114) mkI_115) mkI_116
theorem mkI_all {k : Nat} {y : mMth} (h : mmeth k = some y) : mchkMI k = true := mkI_to117 k (Nat.lt_of_lt_of_le (List.getElem?_eq_some_iff.mp h).1 (by decide +kernel))
theorem mkD_to20 : ∀ k, k < 20 → mchkD k = true := lt_s (lt_s (lt_s (lt_s (lt_s (lt_s (lt_s (lt_s (lt_s (lt_s (lt_s (lt_s (lt_s (lt_s (lt_s (lt_s (lt_s (lt_s (lt_s (lt_s (lt_0) mkD_0) mkD_1) mkD_2) mkD_3) mkD_4) mkD_5) mkD_6) mkD_7) mkD_8) mkD_9) mkD_10) mkD_11) mkD_12) mkD_13) mkD_14) mkD_15) mkD_16) mkD_17) mkD_18) mkD_19
theorem mkD_to40 : ∀ k, k < 40 → mchkD k = true := lt_s (lt_s (lt_s (lt_s (lt_s (lt_s (lt_s (lt_s (lt_s (lt_s (lt_s (lt_s (lt_s (lt_s (lt_s (lt_s (lt_s (lt_s (lt_s (lt_s (mkD_to20) mkD_20) mkD_21) mkD_22) mkD_23) mkD_24) mkD_25) mkD_26) mkD_27) mkD_28) mkD_29) mkD_30) mkD_31) mkD_32) mkD_33) mkD_34) mkD_35) mkD_36) mkD_37) mkD_38) mkD_39
theorem mkD_to60 : ∀ k, k < 60 → mchkD k = true := lt_s (lt_s (lt_s (lt_s (lt_s (lt_s (lt_s (lt_s (lt_s (lt_s (lt_s (lt_s (lt_s (lt_s (lt_s (lt_s (lt_s (lt_s (lt_s (lt_s (mkD_to40) mkD_40) mkD_41) mkD_42) mkD_43) mkD_44) mkD_45) mkD_46) mkD_47) mkD_48) mkD_49) mkD_50) mkD_51) mkD_52) mkD_53) mkD_54) mkD_55) mkD_56) mkD_57) mkD_58) mkD_59
theorem mkD_to80 : ∀ k, k < 80 → mchkD k = true := lt_s (lt_s (lt_s (lt_s (lt_s (lt_s (lt_s (lt_s (lt_s (lt_s (lt_s (lt_s (lt_s (lt_s (lt_s (lt_s (lt_s (lt_s (lt_s (lt_s (mkD_to60) mkD_60) mkD_61) mkD_62) mkD_63) mkD_64) mkD_65) mkD_66) mkD_67) mkD_68) mkD_69) mkD_70) mkD_71) mkD_72) mkD_73) mkD_74) mkD_75) mkD_76) mkD_77) mkD_78) mkD_79
theorem mkD_to100 : ∀ k, k < 100 → mchkD k = true := lt_s (lt_s (lt_s (lt_s (lt_s (lt_s (lt_s (lt_s (lt_s (lt_s (lt_s (lt_s (lt_s (lt_s (lt_s (lt_s (lt_s (lt_s (lt_s (lt_s (mkD_to80) mkD_80) mkD_81) mkD_82) mkD_83) mkD_84) mkD_85) mkD_86) mkD_87) mkD_88) mkD_89) mkD_90) mkD_91) mkD_92) mkD_93) mkD_94) mkD_95) mkD_96) mkD_97) mkD_98) mkD_99
theorem mkD_to117 : ∀ k, k < 117 → mchkD k = true := lt_s (lt_s (lt_s (lt_s (lt_s (lt_s (lt_s (lt_s (lt_s (lt_s (lt_s (lt_s (lt_s (lt_s (lt_s (lt_s (lt_s (mkD_to100) mkD_100) mkD_101) mkD_102) mkD_103) mkD_104) mkD_105) mkD_106) mkD_107) mkD_108) mkD_109) mkD_110) mkD_111) mkD_112) mkD_113) mkD_114) mkD_115) mkD_116
theorem mkD_all {k : Nat} {y : mMth} (h : mmeth k = some y) : mchkD k = true := mkD_to117 k (Nat.lt_of_lt_of_le (List.getElem?_eq_some_iff.mp h).1 (by decide +kernel))
end
section
theorem mMeth_ok {k : Nat} {y : mMth} {q : Nat × Nat × Nat × Nat × Bool × Nat} (h : mmeth k = some y) (hq : mPos[k]? = some q) (hg : q.1 ≠ 99999) : mMP k y q := by
  have h1 := mkP_all h
  simp only [mchkP, h, hq, if_neg hg, Bool.and_eq_true, Bool.or_eq_true, decide_eq_true_eq] at h1
  obtain ⟨a1, a2, a3, a4, a5, a6, a7⟩ := h1
  refine ⟨mTBL_of a1 rfl, ?_, fun h9 => ?_, mTBL_of a4 rfl, a5, a6, a7⟩
  · by_cases hs : q.2.2.2.2.1 = true
    · rw [if_pos hs] at a2 ⊢
      exact mTBL_of (of_decide_eq_true a2) rfl
    · rw [if_neg hs] at a2 ⊢
      exact mTBL_of (of_decide_eq_true a2) rfl
  · rcases a3 with a3 | a3
    · exact absurd a3 h9
    · exact mTBL_of a3 rfl
theorem mlook_mem {l : List mIns} {pc : Nat} {e : mIns} (h : mlook l pc = some e) : e ∈ l ∧ e.1 = pc := by
  induction l with
  | nil => cases h
  | cons x r ih =>
    unfold mlook at h
    split at h
    · rename_i hx
      cases h
      exact ⟨List.mem_cons_self, hx⟩
    · exact ⟨List.mem_cons_of_mem _ (ih h).1, (ih h).2⟩
theorem mIns_ok {j pc : Nat} {y : mMth} {e : mIns} (hy : mmeth j = some y) (he : mlook (mcode j) pc = some e) : mchkI y.2.2.2.2.1 e = true ∧ mchk y.2.2.2.2.1 (decide (y.1.name = "<init>")) e = true ∧ decode y.2.1 e.1 = .ok (e.2.1, mlen e.2.1 e.2.2.1) := by
  have h1 := mkI_all hy
  simp only [mchkMI, hy] at h1
  have h2 := List.all_eq_true.mp h1 e (mlook_mem he).1
  simp only [Bool.and_eq_true] at h2
  have h3 := mkD_all hy
  simp only [mchkD, hy] at h3
  have h4 := List.all_eq_true.mp h3 e (mlook_mem he).1
  exact ⟨h2.1, h2.2.1, of_decide_eq_true h4⟩
theorem mIns_room {j pc : Nat} {y : mMth} {e : mIns} (hy : mmeth j = some y) (he : mlook (mcode j) pc = some e) (hn : mneedR e = true) : 1 ≤ y.2.2.2.2.2.1 ∧ 40 ≤ y.2.2.2.2.2.2 := by
  have h1 := mkI_all hy
  simp only [mchkMI, hy] at h1
  have h2 := List.all_eq_true.mp h1 e (mlook_mem he).1
  simp only [Bool.and_eq_true, Bool.or_eq_true, Bool.not_eq_true', decide_eq_true_eq] at h2
  rcases h2.2.2 with h3 | h3
  · rw [hn] at h3; cases h3
  · exact h3
set_option maxRecDepth 100000 in
theorem mObj_ok : Cond.instanceMethod objectInit ∈ mTBL ∧ Cond.code objectInit ⟨#[0xb1]⟩ 1 none ∈ mTBL := ⟨mTBL_of (k := mObjPos.1) (by decide +kernel) rfl, mTBL_of (k := mObjPos.2) (by decide +kernel) rfl⟩
/-! what is made is never unmade -/
theorem mheap_mono {E : mE} {e : mIns} {st : List Value} {h : mH} {r : Nat × List Value × mH} (hs : mheap E e st h = some r) : h.2.1 ≤ r.2.2.2.1 ∧ h.2.2 ≤ r.2.2.2.2 := by
  obtain ⟨pc, i, n, a, b, k⟩ := e
  obtain ⟨h, nc, ns⟩ := h
  cases i
  all_goals simp only [mheap] at hs
  all_goals first
    | exact hfalse hs
    | (repeat' (split at hs)) <;> first
      | exact hfalse hs
      | (cases hs; exact ⟨Nat.le_refl _, Nat.le_refl _⟩)
      | (cases hs; exact ⟨Nat.le_add_right _ _, Nat.le_add_right _ _⟩)
theorem mrun_mono {E : mE} {call : Nat → mS → Option mS} : ∀ (n : Nat) (S S' : mS), mrunF E call n S = some S' → S.2.2.1 ≤ S'.2.2.1 ∧ S.2.2.2 ≤ S'.2.2.2 := by
  intro n
  induction n with
  | zero => intro S S' h; cases h
  | succ n ih =>
    intro S S' h
    unfold mrunF at h
    split at h
    · exact hfalse h
    · rename_i e he; split at h
      · cases h; exact ⟨Nat.le_refl _, Nat.le_refl _⟩
      · split at h
        · split at h
          · split at h
            · exact hfalse h
            · have h1 := ih _ _ h
              exact h1
          · split at h
            · exact hfalse h
            · split at h
              · split at h
                · exact hfalse h
                · split at h
                  · exact hfalse h
                  · have h1 := ih _ _ h
                    dsimp only at h1
                    exact ⟨by omega, by omega⟩
              · exact hfalse h
        · split at h
          · exact hfalse h
          · rename_i S1 hS1
            have h1 := ih _ _ h
            have h2 : S.2.2.1 ≤ S1.2.2.1 ∧ S.2.2.2 ≤ S1.2.2.2 := by
              unfold mstep at hS1
              split at hS1
              · split at hS1
                · cases hS1; exact ⟨Nat.le_refl _, Nat.le_refl _⟩
                · split at hS1
                  · rename_i r hr; cases hS1; exact mheap_mono hr
                  · exact hfalse hS1
              · exact hfalse hS1
            exact ⟨Nat.le_trans h2.1 h1.1, Nat.le_trans h2.2 h1.2⟩
def mMathOk : Bool := (decide (mMathPos.1 = 99999) || (decide (lw_tbl[mMathPos.1]? = some (.static Lib.Math.max.name)) && decide (lw_tbl[mMathPos.2.1]? = some (.code Lib.Math.max.name Lib.Math.max.code 2 (some .int))))) && ((decide (mMathPos.2.2.1 = 99999) || (decide (lw_tbl[mMathPos.2.2.1]? = some (.static Lib.Math.min.name)) && decide (lw_tbl[mMathPos.2.2.2.1]? = some (.code Lib.Math.min.name Lib.Math.min.code 2 (some .int))))) && decide (lw_tbl[mMathPos.2.2.2.2]? = some (.initialized "java/lang/Math")))
set_option maxRecDepth 100000 in
theorem mMath_ok : mMathOk = true := by decide +kernel
def mTyChk (i : Nat) : Bool := match mTys[i]?, mTyPos[i]? with
  | some ty, some k => decide (lw_tbl[k]? = some (.arrayClass ty))
  | none, _ => true
  | _, _ => false
set_option maxRecDepth 100000 in
theorem mTys_chk : (List.range 3).all mTyChk = true := by decide +kernel
theorem mTys_ok (t : Nat) (ty : FieldType) (ht : t ≤ 2) (hty : mTys[t]? = some ty) : Cond.arrayClass ty ∈ mTBL := by
  have h1 := List.all_eq_true.mp mTys_chk t (List.mem_range.mpr (by omega))
  unfold mTyChk at h1
  rw [hty] at h1
  split at h1
  · rename_i a b ha hb
    cases ha
    exact mTBL_of (of_decide_eq_true h1) rfl
  · rename_i ha
    cases ha
  · cases h1
end
section
/-! ===== the small machine's runs are the true machine's ===== -/
def mws (y : mMth) : List Cond := Cond.code y.1 y.2.1 y.2.2.1 y.2.2.2.1 :: mTBL
def mrm (y : mMth) (mc ms : Nat) : Room := { frames := y.2.2.2.2.2.1, cells := mc, slots := ms, locals := y.2.2.2.2.2.2 }
theorem mws_in {big : List Cond} (hb : ∀ w ∈ mTBL, w ∈ big) {y : mMth} (hc : Cond.code y.1 y.2.1 y.2.2.1 y.2.2.2.1 ∈ mTBL) : GoodIn big (mws y) := by
  intro w hw
  rcases List.mem_cons.mp hw with e1 | e1
  · subst e1
    exact ⟨hb _ hc, good_of_word (List.mem_filter.mp hc).2⟩
  · exact ⟨hb _ e1, good_of_word (List.mem_filter.mp e1).2⟩
theorem mgood_cons {big : List Cond} {w : Cond} {ws : List Cond} (h : w ∈ mTBL) (hb : ∀ w ∈ mTBL, w ∈ big) (hw : GoodIn big ws) : GoodIn big (w :: ws) := by
  intro x hx
  rcases List.mem_cons.mp hx with e1 | e1
  · subst e1
    exact ⟨hb _ h, good_of_word (List.mem_filter.mp h).2⟩
  · exact hw x e1
/-- a method's start: the whole list lies in the heap -/
def mWo (D : va_G) (cy : Nat → ClassId) (E : mE) (ad : Nat → Nat) (h : List mO) (sz : Nat) (U : State) : Prop :=
  U.heap.size = sz ∧ va_P D mCl (mW cy ad E.length h) U.heap ∧ va_K D mCl (mT cy) U ∧ va_D (fun _ => True) (mW cy ad E.length h) ∧ mEx D E ad (va_A (mW cy ad E.length h) sz) U U.heap ∧ mNs U
def mPc (D : va_G) (cy : Nat → ClassId) (E : mE) (ad : Nat → Nat) (as : List Value) (h : List mO) (sz : Nat) : Array Value → State → Prop := va_Pc (as.map (trV ad)) (mWo D cy E ad h sz)
theorem mPc_blind {D : va_G} {cy : Nat → ClassId} {E : mE} {ad : Nat → Nat} {as : List Value} {h : List mO} {sz : Nat} : FrameBlind (mPc D cy E ad as h sz) := by
  intro a U g mk q
  obtain ⟨q1, q2, q3, q4, q5, q6, q7⟩ := q
  exact ⟨q1, q2, q3, va_K.moved (u := U) (U := U.calling g mk a) (Vm.Alike.refl U.vm) q4, q5, mEx.moved (u := U) (U := U.calling g mk a) (Vm.Alike.refl U.vm) q6, mNs.same (u := U) (U := U.calling g mk a) rfl q7⟩
/-- a method's end -/
def mQc (D : va_G) (cy : Nat → ClassId) (E : mE) (ad : Nat → Nat) (h : List mO) (sz : Nat) (h' : List mO) (v : Option Value) : Array Value → State → Outcome → State → Prop := fun _ st oc t =>
  (∃ ad' : Nat → Nat, agr (E.length + h.length) ad ad' ∧ oc = .returned (v.map (trV ad')) ∧ va_P D mCl (mW cy ad' E.length h') t.heap ∧ va_D (va_A (mW cy ad E.length h) sz) (mW cy ad' E.length h')) ∧
  (h.length ≤ h'.length ∧ wfH E.length h' ∧ ∀ x, v = some x → wfV (E.length + h'.length) x) ∧ va_F (va_A (mW cy ad E.length h) sz) st t
/-- every run of 'call' is a contract -/
def mCallOk (l : Launch) (D : va_G) (cy : Nat → ClassId) (E : mE) (call : Nat → mS → Option mS) : Prop :=
  ∀ (n k : Nat) (y : mMth) (q : Nat × Nat × Nat × Nat × Bool × Nat) (as : List Value) (h : List mO) (S1 : mS) (v : Option Value), mmeth k = some y → mPos[k]? = some q → q.1 ≠ 99999 → (lg_sl as).length ≤ y.2.2.1 → wfL (E.length + h.length) as → wfH E.length h → call n (ment k as h) = some S1 → mretv S1 = some v →
    ∀ (ad : Nat → Nat) (sz : Nat), Met l y.1 (mws y) (mrm y S1.2.2.1 S1.2.2.2) (mPc D cy E ad as h sz) (mQc D cy E ad h sz S1.2.1 v) S1.2.2.1 S1.2.2.2 (va_A (mW cy ad E.length h) sz)
theorem lg_sl_tr (ad : Nat → Nat) (as : List Value) : (lg_sl (as.map (trV ad))).length = (lg_sl as).length := by
  induction as with
  | nil => rfl
  | cons v r ih =>
    simp only [lg_sl, List.map_cons, List.flatMap_cons, List.length_append] at ih ⊢
    rw [ih, trV_cat]
    split <;> rfl
theorem lv_args_tr (ad : Nat → Nat) (as : List Value) : ∀ i : Nat, lv_args i (as.map (trV ad)) = trL ad (lv_args i as) := by
  induction as with
  | nil => intro i; rfl
  | cons v r ih =>
    intro i
    simp only [List.map_cons, lv_args, trL, trV_cat]
    rw [ih]
    rfl
theorem lv_args_wf {n : Nat} {as : List Value} (h : wfL n as) : ∀ i : Nat, wfLv n (lv_args i as) := by
  induction as with
  | nil => intro i q hq; cases hq
  | cons v r ih =>
    intro i q hq
    rcases List.mem_cons.mp hq with e1 | e1
    · rw [e1]; exact h.h
    · exact ih h.t _ q e1
theorem mwords_tr (ad : Nat → Nat) (st : List Value) : ((st.map (trV ad)).map fun v => v.category).sum = mwords st := by
  unfold mwords
  rw [List.map_map]
  congr 1
  apply List.map_congr_left
  intro v _
  exact trV_cat ad v
section MC
variable {p : Program} {l : Launch} {e : Env} {R : Room} {s : State} {m : MethodId} {args : Array Value} {below : List Frame} {meth : Method} {c : Code} {H : Heap} {locs : List Loc} {cells slots : Nat} {Q : State → Prop}
/-- behind a call -/
theorem m_back {D : va_G} {cy : Nat → ClassId} {E : mE} {ad : Nat → Nat} {h h' : List mO} {v : Option Value} {a : Array Value} {A : Nat → Prop} {mc ms pc : Nat} {ls : Array Slot} {st0 rest : List Value} (hw : wfH E.length h)
    (hr : va_Run p l e R s m args below meth c H locs cells slots mc ms (F0 m pc ls st0) rest (mQc D cy E ad h H.size h' v a) (va_A (mW cy ad E.length h) H.size)) (hS : va_S A s.heap H locs) (hAA : ∀ q, va_A (mW cy ad E.length h) H.size q → A q)
    (kk : ∀ (ad' : Nat → Nat) (H1 : Heap) (locs1 : List Loc), agr (E.length + h.length) ad ad' → va_P D mCl (mW cy ad' E.length h') H1 → va_D A (mW cy ad' E.length h') → va_S A s.heap H1 locs1 → h.length ≤ h'.length → wfH E.length h' → (∀ x, v = some x → wfV (E.length + h'.length) x) → W p l e R s m args below meth c H1 locs1 (cells + mc) (slots + ms) Q (F0 m (pc + 3) ls ((v.map (trV ad')).toList ++ rest))) : W p l e R s m args below meth c H locs cells slots Q (F0 m pc ls st0) := by
  intro T hT X
  obtain ⟨v0, st₀, t, T', L, h0, X', hL, e1, e2, ⟨⟨ad', g1, g2, g3, g4⟩, ⟨g5, g6, g7⟩, hz, hk⟩, st⟩ := hr T hT X
  cases g2
  rw [h0] at hz hk
  obtain ⟨t2, a1, b1⟩ := kk ad' T'.heap (locs ++ L) g1 (by rw [e1]; exact g3) (g4.weaken (fun k q _ hq => hAA q.1 hq))
    ⟨Nat.le_trans hS.1 (by rw [e1]; exact hz), fun q h1 h2 => by rw [e1, hk q (Nat.lt_of_lt_of_le h1 hS.1) (fun z => h2 (hAA q z))]; exact hS.2.1 q h1 h2, fun q hq => by
      rcases List.mem_append.mp hq with h9 | h9
      · exact hS.2.2 q h9
      · exact hAA _ (hL q h9)⟩ g5 g6 g7 T' rfl X'
  exact ⟨t2, st t2 a1, b1⟩
theorem m_AA {cy : Nat → ClassId} {E : mE} {ad : Nat → Nat} {h : List mO} {A : Nat → Prop} (hD : va_D A (mW cy ad E.length h)) (hS : va_S A s.heap H locs) (hA : ∀ q, s.heap.size ≤ q → A q) : ∀ q, va_A (mW cy ad E.length h) H.size q → A q := by
  intro q hq
  rcases hq with ⟨k, z, hz⟩ | hq
  · exact hD.2 k _ hz
  · exact hA q (Nat.le_trans hS.1 hq)
/-- the called method's start holds -/
theorem m_pre {D : va_G} {cy : Nat → ClassId} {E : mE} {ad : Nat → Nat} {h : List mO} {A : Nat → Prop} (hK : va_K D mCl (mT cy) s) (hP : va_P D mCl (mW cy ad E.length h) H) (hD : va_D A (mW cy ad E.length h)) (hS : va_S A s.heap H locs) (hA : ∀ q, s.heap.size ≤ q → A q) (hE : mEx D E ad A s s.heap) (hN : mNs s) (as : List Value) :
    ∀ U : State, U.heap = H → s.WarmedH U.vm → mPc D cy E ad as h H.size (as.map (trV ad)).toArray U := by
  intro U hU hW
  refine ⟨rfl, by rw [hU], by rw [hU]; exact hP, va_K.moved hW.alike hK, hD.weaken (fun _ _ _ _ => trivial), ?_, hN.warm hW⟩
  rw [hU]
  exact ((hE.kept hS.2.1).moved hW.alike).narrow (m_AA hD hS hA)
theorem mk_split {ad : Nat → Nat} {st r : List Value} {n : Nat} {a : Nat} (h : st.drop n = .ref a :: r) : st.map (trV ad) = (((st.take n).reverse.map (trV ad))).reverse ++ .ref (ad a) :: r.map (trV ad) := by
  rw [List.map_reverse, List.reverse_reverse]
  have h1 : st = st.take n ++ .ref a :: r := by rw [← h, List.take_append_drop]
  conv => lhs; rw [h1]
  rw [List.map_append]
  rfl
theorem mk_split0 {ad : Nat → Nat} {st : List Value} {n : Nat} : st.map (trV ad) = (((st.take n).reverse.map (trV ad))).reverse ++ (st.drop n).map (trV ad) := by
  rw [List.map_reverse, List.reverse_reverse, ← List.map_append, List.take_append_drop]
set_option maxHeartbeats 4000000 in
/-- a call of the small machine, seen from the true one -/
theorem m_run {cc : ByteArray} {nL : Nat} {D : va_G} {cy : Nat → ClassId} {E : mE} {call : Nat → mS → Option mS} (hcall : mCallOk l D cy E call) (hx : p.tables.exec = Jvm.exec) (hb : c.code = cc) (hml : c.maxLocals = nL) (hts : ∀ w ∈ mTBL, w.before args s = true) {own : String} (hown : s.vm.findClass own = some m.cls)
    {ad : Nat → Nat} {A : Nat → Prop} {i : mIns} {st : List Value} {h : List mO} {ls : Array Slot} {x : mMth} {j k n : Nat} {as rest : List Value} {S1 : mS} {v : Option Value} (hsz : ls.size = nL) (hck : mchkI own i = true) (hd : decode cc i.1 = .ok (i.2.1, mlen i.2.1 i.2.2.1))
    (hK : va_K D mCl (mT cy) s) (hP : va_P D mCl (mW cy ad E.length h) H) (hD : va_D A (mW cy ad E.length h)) (hS : va_S A s.heap H locs) (hA : ∀ q, s.heap.size ≤ q → A q) (hE : mEx D E ad A s s.heap) (hN : mNs s) (hw : wfH E.length h) (hws : wfL (E.length + h.length) st)
    (hi : i.2.2.2.1 ≤ 990) (hx0 : mmeth j = some x) (hR1 : x.2.2.2.2.2.1 ≤ R.frames) (hR2 : x.2.2.2.2.2.2 ≤ R.locals)
    (hc : mcallee E i st h = some (k, as, rest)) (hf : mfits j k = true) (hrun : call n (ment k as h) = some S1) (hret : mretv S1 = some v) (hR : cells + S1.2.2.1 ≤ R.cells ∧ slots + S1.2.2.2 ≤ R.slots) :
    wfL (E.length + h.length) rest ∧ ∃ a : Array Value, va_Run p l e R s m args below meth c H locs cells slots S1.2.2.1 S1.2.2.2 (F0 m i.1 ls (st.map (trV ad))) (rest.map (trV ad)) (mQc D cy E ad h H.size S1.2.1 v a) (va_A (mW cy ad E.length h) H.size) := by
  have hin : ∀ w ∈ mTBL, w ∈ mTBL := fun _ h9 => h9
  unfold mcallee at hc
  split at hc
  · rename_i q y hq hy
    split at hc
    · exact hfalse hc
    · rename_i hq1
      obtain ⟨b1, b2, b3, b4, b5, b6, b7⟩ := mMeth_ok hy hq hq1
      split at hc
      · exact hfalse hc
      · rename_i hlen
        have htk : (st.take q.2.2.2.2.2).length = q.2.2.2.2.2 := by rw [List.length_take]; omega
        have hwt : wfL (E.length + h.length) (st.take q.2.2.2.2.2).reverse := fun v9 h9 => hws v9 (List.mem_of_mem_take (List.mem_reverse.mp h9))
        have hwd : wfL (E.length + h.length) (st.drop q.2.2.2.2.2) := fun v9 h9 => hws v9 (List.mem_of_mem_drop h9)
        have hAn : ((st.take q.2.2.2.2.2).reverse.map (trV ad)).length = q.2.2.2.2.2 := by rw [List.length_map, List.length_reverse, htk]
        obtain ⟨pc, ins, n9, a9, b9, k9⟩ := i
        dsimp only at *
        split at hc
        · rename_i idx
          split at hc
          · rename_i hcond; obtain ⟨c1, c2, c3, c4⟩ := hcond
            cases hc
            refine ⟨hwd, ((st.take q.2.2.2.2.2).reverse.map (trV ad)).toArray, ?_⟩
            have hRy : y.2.2.2.2.2.1 + 1 ≤ R.frames ∧ 8 + (y.2.2.1 + 11) + y.2.2.2.2.2.2 ≤ R.locals := by
              simp only [mfits, hx0, hy, Bool.and_eq_true, decide_eq_true_eq] at hf
              exact ⟨by omega, by omega⟩
            have hM := hcall _ _ y q _ _ _ _ hy hq hq1 c4 hwt hw hrun hret ad H.size
            rw [if_pos c1] at b2
            simp only [mchkI, hy, if_neg (show ¬ k = 997 by omega), if_neg (show ¬ k = 996 by omega)] at hck
            by_cases hn9 : n9 = 0
            · simp only [hn9, if_true, decide_eq_true_eq] at hck
              exact va_runS (Ts := mTBL) ⟨hx, hb, hml, hown, hts⟩ hM (va_cwS q.2.2.2.2.2 hts (mgood_cons (mTBL_of hck rfl) hin (mgood_cons b2 hin (mgood_cons b4 hin (mws_in hin b1)))) rfl rfl rfl b6 hRy) ⟨mPc_blind, m_pre hK hP hD hS hA hE hN _⟩ rfl hAn hsz mk_split0 (lv_room (by rw [mwords_tr]; exact c3)) hd hR
            · simp only [if_neg hn9] at hck
              split at hck
              · rename_i o i2 z host hnst
                obtain ⟨rfl, rfl, rfl⟩ := of_decide_eq_true hck
                exact va_runSN (Ts := mTBL) ⟨hx, hb, hml, hown, hts⟩ hM ⟨va_cnB q.2.2.2.2.2 hts (mws_in hin b1) rfl rfl rfl (hN.1 _ (List.mem_of_getElem? hnst)) (hts _ b4) b6 hRy, hts _ b2, trivial⟩ ⟨mPc_blind, m_pre hK hP hD hS hA hE hN _⟩ rfl hAn hsz mk_split0 (lv_room (by rw [mwords_tr]; exact c3)) hd hR
              · cases hck
          · exact hfalse hc
        · rename_i idx
          split at hc
          · rename_i a r hdr
            split at hc
            · rename_i hcond; obtain ⟨c1, c2, c3, c4, c5⟩ := hcond
              have hwd2 : wfL (E.length + h.length) (.ref a :: r) := by rw [← hdr]; exact hwd
              cases hc
              refine ⟨hwd2.t, (.ref (ad a) :: (st.take q.2.2.2.2.2).reverse.map (trV ad)).toArray, ?_⟩
              have hRy : y.2.2.2.2.2.1 + 1 ≤ R.frames ∧ 8 + (y.2.2.1 + 11) + y.2.2.2.2.2.2 ≤ R.locals := by
                simp only [mfits, hx0, hy, Bool.and_eq_true, decide_eq_true_eq] at hf
                exact ⟨by omega, by omega⟩
              have hM := hcall _ _ y q _ _ _ _ hy hq hq1 c5 (hwt.c hwd2.h) hw hrun hret ad H.size
              rw [if_neg (by rw [c1]; decide)] at b2
              obtain ⟨y1, y2, y3, y4, y5⟩ := y
              dsimp only at *
              subst c3
              simp only [mchkI, hy, if_neg (show ¬ k = 998 by omega)] at hck
              by_cases hn9 : n9 = 0
              · simp only [hn9, if_true, decide_eq_true_eq] at hck
                exact va_runI (Ts := mTBL) ⟨hx, hb, hml, hown, hts⟩ hM (cwI q.2.2.2.2.2 hts (mws_in hin b1) rfl rfl rfl (hts _ b4) (hts _ (mTBL_of hck rfl)) (hts _ b2) c2 b6 hRy) ⟨mPc_blind, m_pre hK hP hD hS hA hE hN _⟩ rfl hAn hsz (mk_split hdr) (lv_room (by rw [mwords_tr]; exact c4)) hd hR
              · simp only [if_neg hn9] at hck
                split at hck
                · rename_i o i2 z host hnst
                  obtain ⟨rfl, rfl, rfl⟩ := of_decide_eq_true hck
                  exact va_runIN (Ts := mTBL) ⟨hx, hb, hml, hown, hts⟩ hM ⟨va_cnB q.2.2.2.2.2 hts (mws_in hin b1) rfl rfl rfl (hN.1 _ (List.mem_of_getElem? hnst)) (hts _ b4) b6 hRy, c2, hts _ b2⟩ ⟨mPc_blind, m_pre hK hP hD hS hA hE hN _⟩ rfl hAn hsz (mk_split hdr) (lv_room (by rw [mwords_tr]; exact c4)) hd hR
                · cases hck
            · exact hfalse hc
          · exact hfalse hc
        · rename_i idx
          split at hc
          · rename_i a r hdr
            split at hc
            · rename_i o ho
              split at hc
              · rename_i cl hcl
                split at hc
                · rename_i hcond; obtain ⟨c1, c2, c3, c4, c5, c6⟩ := hcond
                  have hwd2 : wfL (E.length + h.length) (.ref a :: r) := by rw [← hdr]; exact hwd
                  cases hc
                  refine ⟨hwd2.t, (.ref (ad a) :: (st.take q.2.2.2.2.2).reverse.map (trV ad)).toArray, ?_⟩
                  have hRy : y.2.2.2.2.2.1 + 1 ≤ R.frames ∧ 8 + (y.2.2.1 + 11) + y.2.2.2.2.2.2 ≤ R.locals := by
                    simp only [mfits, hx0, hy, Bool.and_eq_true, decide_eq_true_eq] at hf
                    exact ⟨by omega, by omega⟩
                  have hM := hcall _ _ y q _ _ _ _ hy hq hq1 c6 (hwt.c hwd2.h) hw hrun hret ad H.size
                  rw [if_neg (by rw [c1]; decide)] at b2
                  simp only [mchkI, hy, c3, if_true, decide_eq_true_eq] at hck
                  refine va_runV (Ts := mTBL) (C := y.1.cls) ⟨hx, hb, hml, hown, hts⟩ hM (cwV q.2.2.2.2.2 hts (mgood_cons (mTBL_of hck rfl) hin (mgood_cons b2 hin (mgood_cons (b3 c2) hin (mgood_cons b4 hin (mws_in hin b1))))) rfl rfl rfl ⟨rfl, b6⟩ hRy) ⟨mPc_blind, ?_, m_pre hK hP hD hS hA hE hN _⟩ rfl hAn hsz (mk_split hdr) (lv_room (by rw [mwords_tr]; exact c5)) hd hR
                  have h9 : ∃ cell : Cell, H[ad a]? = some cell ∧ cell.vm.isStatics = false ∧ s.vm.findClass cl.1 = some cell.cls := by
                    rcases mobjE_or ho with ⟨-, hoE⟩ | hoW
                    · exact mEx_recv hK hS (hE.1 a _ hoE) hcl
                    · exact va_recv hK hP hcl (mget_W (cy := cy) (ad := ad) hoW)
                  rw [c4] at h9
                  exact h9
                · exact hfalse hc
              · exact hfalse hc
            · exact hfalse hc
          · exact hfalse hc
        · exact hfalse hc
  · exact hfalse hc
end MC
end
section
/-! ===== whole runs ===== -/
section MR
variable {p : Program} {l : Launch} {e : Env} {R : Room} {s : State} {m : MethodId} {args : Array Value} {below : List Frame} {meth : Method} {c : Code} {Q : State → Prop}
theorem spec_ok {cc : ByteArray} (hx : p.tables.exec = Jvm.exec) (hb : c.code = cc) {ls : Array Slot} (hml : c.maxLocals = ls.size) (hts : ∀ w ∈ mTBL, w.before args s = true) {own : String} (hown : s.vm.findClass own = some m.cls) {H : Heap} {locs : List Loc} {cells slots : Nat} {ad : Nat → Nat} {i : mIns} {st st' : List Value} {j pc' n : Nat} {y : mMth} (hy : mmeth j = some y) (hR1 : y.2.2.2.2.2.1 ≤ R.frames) (hR2 : y.2.2.2.2.2.2 ≤ R.locals) (hc : cells ≤ R.cells) (hs : slots ≤ R.slots)
    (hck : mchkI own i = true) (hd : decode cc i.1 = .ok (i.2.1, mlen i.2.1 i.2.2.1)) (hp : mspec j i st = some (pc', st')) (hw : wfL n st) (kk : wfL n st' → W p l e R s m args below meth c H locs cells slots Q (F0 m pc' ls (st'.map (trV ad)))) : W p l e R s m args below meth c H locs cells slots Q (F0 m i.1 ls (st.map (trV ad))) := by
  obtain ⟨pc, ins, n9, a9, b9, k9⟩ := i
  have hM := mMath_ok
  simp only [mMathOk, Bool.and_eq_true, Bool.or_eq_true, decide_eq_true_eq] at hM
  obtain ⟨hM1, hM2, hM3⟩ := hM
  simp only [mspec, hy] at hp
  split at hp
  · rename_i idx q r
    split at hp
    · rename_i hcond; obtain ⟨c1, c2, c3⟩ := hcond
      cases hp
      simp only [mchkI, c1, if_true, decide_eq_true_eq] at hck
      refine W.objInit hx hb hown (hts _ (mTBL_of hck rfl)) (hts _ mObj_ok.1) (hts _ mObj_ok.2) rfl hml.symm rfl hd (Nat.le_trans c2 hR1) ?_ (kk hw.t)
      have h1 := mwords_tr ad st'
      show 2 * 0 + _ + 12 ≤ _
      omega
    · exact hfalse hp
  · rename_i idx b a r
    split at hp
    · rename_i hcond; obtain ⟨c2, c3⟩ := hcond
      have h1 := mwords_tr ad r
      have hw2 : ∀ z : Int32, wfL n (.int z :: r) := fun z => hw.t.t.c trivial
      split at hp
      · rename_i h0; obtain ⟨c1, c4⟩ := h0
        cases hp
        simp only [mchkI, c1, if_true, decide_eq_true_eq] at hck
        rcases hM2 with hM2 | hM2
        · exact absurd hM2 c4
        · exact va_mmin hx hb hml hown (hts _ (mTBL_of hck rfl)) (hts _ (mTBL_of hM2.1 rfl)) (hts _ (mTBL_of hM3 rfl)) (hts _ (mTBL_of hM2.2 rfl)) (Nat.le_trans c2 hR1) (by omega) hc hs hd (kk (hw2 _))
      · split at hp
        · rename_i h0; obtain ⟨c1, c4⟩ := h0
          cases hp
          simp only [mchkI, c1, if_neg (show ¬ (996 : Nat) = 997 by decide), if_true, decide_eq_true_eq] at hck
          rcases hM1 with hM1 | hM1
          · exact absurd hM1 c4
          · exact va_mmax hx hb hml hown (hts _ (mTBL_of hck rfl)) (hts _ (mTBL_of hM1.1 rfl)) (hts _ (mTBL_of hM3 rfl)) (hts _ (mTBL_of hM1.2 rfl)) (Nat.le_trans c2 hR1) (by omega) hc hs hd (kk (hw2 _))
        · exact hfalse hp
    · exact hfalse hp
  · exact hfalse hp
set_option maxHeartbeats 4000000 in
theorem sim_run {D : va_G} {cy : Nat → ClassId} {E : mE} {call : Nat → mS → Option mS} (hEw : mEw E) (hcall : mCallOk l D cy E call) {A : Nat → Prop} {y : mMth} (hx : p.tables.exec = Jvm.exec) (hb : c.code = y.2.1) (hml : c.maxLocals = y.2.2.1) (hts : ∀ w ∈ mTBL, w.before args s = true) (hown : s.vm.findClass y.2.2.2.2.1 = some m.cls) (hnm : meth.name = y.1.name) (hR1 : y.2.2.2.2.2.1 ≤ R.frames) (hR2 : y.2.2.2.2.2.2 ≤ R.locals)
    (hK : va_K D mCl (mT cy) s) (hA : ∀ q, s.heap.size ≤ q → A q) (hN : mNs s) : ∀ (n : Nat) (S S' : mS), mrunF E call n S = some S' → mmeth S.1.1 = some y → S'.2.2.1 ≤ R.cells → S'.2.2.2 ≤ R.slots → ∀ (H : Heap) (locs : List Loc) (ls : Array Slot) (ad : Nat → Nat), mEx D E ad A s s.heap → va_P D mCl (mW cy ad E.length S.2.1) H → va_D A (mW cy ad E.length S.2.1) → va_S A s.heap H locs → wfH E.length S.2.1 → wfLv (E.length + S.2.1.length) S.1.2.2.1 → wfL (E.length + S.2.1.length) S.1.2.2.2 → lv_has ls y.2.2.1 (trL ad S.1.2.2.1) →
    (∀ (ad' : Nat → Nat) (H' : Heap) (locs' : List Loc) (ls' : Array Slot) (e' : mIns), agr (E.length + S.2.1.length) ad ad' → va_P D mCl (mW cy ad' E.length S'.2.1) H' → va_D A (mW cy ad' E.length S'.2.1) → va_S A s.heap H' locs' → wfH E.length S'.2.1 → wfL (E.length + S'.2.1.length) S'.1.2.2.2 → S.2.1.length ≤ S'.2.1.length → S'.1.1 = S.1.1 → mlook (mcode S'.1.1) S'.1.2.1 = some e' → mterm e' = true → lv_has ls' y.2.2.1 (trL ad' S'.1.2.2.1) → W p l e R s m args below meth c H' locs' S'.2.2.1 S'.2.2.2 Q (F0 m S'.1.2.1 ls' (S'.1.2.2.2.map (trV ad')))) →
    W p l e R s m args below meth c H locs S.2.2.1 S.2.2.2 Q (F0 m S.1.2.1 ls (S.1.2.2.2.map (trV ad))) := by
  intro n
  induction n with
  | zero => intro S S' h; cases h
  | succ n ih =>
    intro S S' h hy hc9 hs9 H locs ls ad hE hP hD hS hw hwl hws hl land
    obtain ⟨⟨j, pc, lv, st⟩, h0, nc, ns⟩ := S
    dsimp only at *
    have hmono := mrun_mono _ _ _ h
    dsimp only at hmono
    unfold mrunF at h
    split at h
    · exact hfalse h
    · rename_i i hi
      dsimp only at hi h
      obtain ⟨k1, k2, k3⟩ := mIns_ok hy hi
      have hpc : i.1 = pc := (mlook_mem hi).2
      subst hpc
      split at h
      · rename_i ht
        cases h
        exact land ad H locs ls i agr.rf hP hD hS hw hws (Nat.le_refl _) rfl hi ht hl
      · split at h
        · split at h
          · rename_i h990
            split at h
            · exact hfalse h
            · rename_i r hr
              obtain ⟨pc2, st2⟩ := r
              exact spec_ok hx hb (hml.trans hl.1.symm) hts hown hy hR1 hR2 (Nat.le_trans hmono.1 hc9) (Nat.le_trans hmono.2 hs9) k1 k3 hr hws (fun hws2 => ih _ _ h hy hc9 hs9 H locs ls ad hE hP hD hS hw hwl hws2 hl land)
          · rename_i h990
            split at h
            · exact hfalse h
            · rename_i r hr
              obtain ⟨k, as, rest⟩ := r
              split at h
              · rename_i hf
                split at h
                · exact hfalse h
                · rename_i S1 hS1
                  split at h
                  · exact hfalse h
                  · rename_i v hv
                    have hm2 := mrun_mono _ _ _ h
                    dsimp only at hm2
                    obtain ⟨hwr, a, hrun⟩ := m_run hcall hx hb hml hts hown hl.1 k1 k3 hK hP hD hS hA hE hN hw hws (by omega) hy hR1 hR2 hr hf hS1 hv ⟨Nat.le_trans hm2.1 hc9, Nat.le_trans hm2.2 hs9⟩
                    refine m_back hw hrun hS (m_AA hD hS hA) (fun ad' H1 locs1 hag hP1 hD1 hS1' hlen hw1 hwv => ?_)
                    have hk := ih _ _ h hy hc9 hs9 H1 locs1 ls ad' (hE.agr hEw (fun q hq => hag q (by omega))) hP1 hD1 hS1' hw1 (hwl.up (by dsimp only; omega)) (by
                      intro x hx9
                      rcases List.mem_append.mp hx9 with e1 | e1
                      · cases v with
                        | none => cases e1
                        | some z =>
                          rw [List.mem_singleton.mp (show x ∈ [z] from e1)]
                          exact hwv z rfl
                      · exact (hwr x e1).up (by dsimp only; omega)) (by rw [trL_agr hwl hag]; exact hl)
                      (fun ad2 H2 locs2 ls2 e2 g1 g2 g3 g4 g5 g6 g7 g8 g9 g10 g11 => land ad2 H2 locs2 ls2 e2 (hag.tr (by dsimp only; omega) g1) g2 g3 g4 g5 g6 (Nat.le_trans hlen g7) g8 g9 g10 g11)
                    dsimp only at hk
                    rw [List.map_append, map_agr hwr hag] at hk
                    have hv9 : v.toList.map (trV ad') = (v.map (trV ad')).toList := by cases v <;> rfl
                    rw [hv9] at hk
                    exact hk
              · exact hfalse h
        · split at h
          · exact hfalse h
          · rename_i S1 hS1
            have hm2 := mrun_mono _ _ _ h
            unfold mstep at hS1
            dsimp only at hS1
            rw [hy] at hS1
            dsimp only at hS1
            split at hS1
            · rename_i r hr
              cases hS1
              obtain ⟨pc2, lv2, st2⟩ := r
              obtain ⟨w1, w2⟩ := pure_wf hr hwl hws
              exact sd_pure hx hb hr k3 hl (fun ls' hl' => ih _ _ h hy hc9 hs9 H locs ls' ad hE hP hD hS hw w1 w2 hl' land)
            · split at hS1
              · rename_i r hr
                cases hS1
                obtain ⟨pc2, st2, h2⟩ := r
                dsimp only at hm2
                refine sd_heap (h := (h0, nc, ns)) (init := decide (y.1.name = "<init>")) hx hb hts hown (fun hh => hnm.trans (of_decide_eq_true hh)) hEw k2 k3 hK hP hD hS hA hE hw hws hr ⟨Nat.le_trans hm2.1 hc9, Nat.le_trans hm2.2 hs9⟩ (fun t9 ty ht9 hty => hts _ (mTys_ok t9 ty ht9 hty)) hN (hml.trans hl.1.symm) (fun hn9 => ⟨Nat.le_trans (mIns_room hy hi hn9).1 hR1, Nat.le_trans (mIns_room hy hi hn9).2 hR2⟩) (fun ad' H' locs' hag hP' hD' hS' hw' hws' hlen => ?_)
                exact ih _ _ h hy hc9 hs9 H' locs' ls ad' (hE.agr hEw (fun q hq => hag q (by omega))) hP' hD' hS' hw' (hwl.up (by dsimp only at hlen ⊢; omega)) hws' (by rw [trL_agr hwl hag]; exact hl)
                  (fun ad2 H2 locs2 ls2 e2 g1 g2 g3 g4 g5 g6 g7 g8 g9 g10 g11 => land ad2 H2 locs2 ls2 e2 (hag.tr (by dsimp only at hlen ⊢; omega) g1) g2 g3 g4 g5 g6 (Nat.le_trans hlen g7) g8 g9 g10 g11)
              · exact hfalse hS1
end MR
set_option maxHeartbeats 4000000 in
/-- a machine whose calls are contracts: its runs are contracts -/
theorem met_of_run {l : Launch} {D : va_G} {cy : Nat → ClassId} {E : mE} {call : Nat → mS → Option mS} (hEw : mEw E) (hcall : mCallOk l D cy E call) : mCallOk l D cy E (mrunF E call) := by
  intro n k y q as h S1 v hy hq hq1 hlen hwa hwh hrun hret ad sz
  obtain ⟨b1, b2, b3, b4, b5, b6, b7⟩ := mMeth_ok hy hq hq1
  refine Met.ofW (cc := y.2.1) (maxL := y.2.2.1) (ret := y.2.2.2.1) b5 rfl ?_
  intro p e s m args below meth c s₁ B hml hv
  obtain ⟨rfl, hsz, hP, hK, hD0, hE, hN⟩ := hv
  have hts0 := atoms_spec (ws := mws y) B.pre
  have hts : ∀ w ∈ mTBL, w.before (as.map (trV ad)).toArray s = true := fun w hw => hts0 w (List.mem_cons_of_mem _ hw)
  have hown : s.vm.findClass y.1.cls = some m.cls := findClass_of_methodNamed B.named
  have hnm : meth.name = y.1.name := (name_of_methodNamed B.named B.method).1
  have hlocks := B.notSynchronized
  have hr := B.returns
  subst hsz
  have hD := hD0.self (sz := s.heap.size)
  have hA : ∀ q : Nat, s.heap.size ≤ q → va_A (mW cy ad E.length h) s.heap.size q := fun q hq9 => Or.inr hq9
  have hl := lv_entry (as.map (trV ad)) (n := y.2.2.1) (by rw [lg_sl_tr]; exact hlen)
  rw [lg_entry_eq]
  generalize (lg_sl (as.map (trV ad)) ++ List.replicate (y.2.2.1 - (lg_sl (as.map (trV ad))).length) Slot.unset).toArray = ls at hl ⊢
  rw [lv_args_tr] at hl
  refine sim_run (R := (headSpec (mws y) (mrm y S1.2.2.1 S1.2.2.2)).room) (A := va_A (mW cy ad E.length h) s.heap.size) hEw hcall B.exec B.bytes hml hts (b7 ▸ hown) hnm (Nat.le_refl _) (Nat.le_refl _) hK hA hN n _ S1 hrun hy (Nat.le_refl _) (Nat.le_refl _) s.heap [] ls ad hE hP hD va_S.rf hwh (lv_args_wf hwa 0) (fun v hv => by cases hv) hl ?_
  intro ad' H' locs' ls' e' hag hP' hD' hS' hw' hws' hlen' hj he' ht' hl'
  have hjk : S1.1.1 = k := hj
  obtain ⟨-, -, hd⟩ := mIns_ok (by rw [hjk]; exact hy) he'
  have hpc : e'.1 = S1.1.2.1 := (mlook_mem he').2
  rw [hpc] at hd
  unfold mretv at hret
  rw [he', hjk, hy] at hret
  dsimp only at hret
  obtain ⟨⟨j1, pc1, lv1, st1⟩, h1, nc1, ns1⟩ := S1
  obtain ⟨pc2, i2, n2, a2, bb2, k2⟩ := e'
  obtain ⟨y1, y2, y3, y4, y5⟩ := y
  dsimp only at *
  have hq9 : ∀ v9 : Option Value, (∀ x, v9 = some x → wfV (E.length + h1.length) x) → ∀ t : State, t.heap = H' → s.WarmedH t.vm → mQc D cy E ad h s.heap.size h1 v9 (as.map (trV ad)).toArray s (.returned (v9.map (trV ad'))) t := by
    intro v9 hwv t ht hW
    exact ⟨⟨ad', hag, rfl, by rw [ht]; exact hP', hD'⟩, ⟨hlen', hw', hwv⟩, hS'.F ht⟩
  split at hret
  · rename_i x ty
    split at hret
    · rename_i hn; cases hret
      exact W.zret B.exec B.bytes hr hn (hq9 (some (.int x)) (fun z hz => by cases hz; trivial)) hS'.2.2 hd
    · exact hfalse hret
  · rename_i x
    cases hret
    exact W.lret B.exec B.bytes hr (hq9 (some (.long x)) (fun z hz => by cases hz; trivial)) hS'.2.2 hd
  · rename_i x
    cases hret
    exact W.dret B.exec B.bytes hr (hq9 (some (.double x)) (fun z hz => by cases hz; trivial)) hS'.2.2 hd
  · rename_i x o
    cases hret
    exact W.aret B.exec B.bytes hr (Or.inl ⟨_, rfl⟩) (Or.inr ⟨_, rfl⟩) (hq9 (some (.ref x)) (fun z hz => by cases hz; exact hws'.h)) hS'.2.2 hd
  · rename_i x o
    cases hret
    exact W.aret B.exec B.bytes hr (Or.inr ⟨_, rfl⟩) (Or.inr ⟨_, rfl⟩) (hq9 (some (.ref x)) (fun z hz => by cases hz; exact hws'.h)) hS'.2.2 hd
  · cases hret
    exact W.vret B.exec B.bytes hr (hq9 none (fun z hz => by cases hz)) hS'.2.2 hd
  · exact hfalse hret
/-- EVERY RUN OF THE SMALL MACHINE IS A CONTRACT OF THE TRUE ONE -/
theorem mexec_ok {l : Launch} {D : va_G} {cy : Nat → ClassId} {E : mE} (hEw : mEw E) : ∀ d : Nat, mCallOk l D cy E (mexec E d) := by
  intro d
  induction d with
  | zero =>
    intro n k y q as h S1 v hy hq hq1 hlen hwa hwh hrun
    cases hrun
  | succ d ih => exact met_of_run hEw ih
end
section
/-! ===== a run that ends where an exception is made and thrown is a contract that throws ===== -/
abbrev mXr : Type := String × String × Nat × Nat × Nat × Nat
def mXnm : List String := ["java/lang/RuntimeException", "java/lang/Exception"]
def mXl : List Cond := mXsub.filterMap (fun k => lw_tbl[k]?)
theorem mXl_in {w : Cond} (h : w ∈ mXl) (hg : goodWord w = true) : w ∈ mTBL := by
  obtain ⟨k, -, hk⟩ := List.mem_filterMap.mp h
  exact mTBL_of hk hg
def mXat (r : mXr) : List Cond := vx_atS r.1 r.2.2.2.1 r.2.1 mXnm
/-- those that a call moves by rows of their own -/
def mXb (r : mXr) : List Cond := (mXat r).filter (fun w => !goodWord w)
def mXbk (w : Cond) : Bool := match w with
  | .castable _ _ => true
  | .declares _ => true
  | _ => false
def mXk1 (r : mXr) : Bool := decide (lw_tbl[r.2.2.2.2.1]? = some (.classLink r.1 r.2.2.1 r.2.1)) && decide (lw_tbl[r.2.2.2.2.2]? = some (.initialized r.2.1))
def mXk2 (r : mXr) : Bool := ((mXat r).filter goodWord).all (fun w => decide (w ∈ mXl))
def mXk3 (r : mXr) : Bool := (mXb r).all mXbk
def mXk4 (r : mXr) : Bool := (mXat r).all vx_ot && Bundle.fit r.2.1
set_option maxRecDepth 100000 in
theorem mXk1_ok : mXcls.all mXk1 = true := by decide +kernel
set_option maxRecDepth 100000 in
theorem mXk2_ok : mXcls.all mXk2 = true := by decide +kernel
set_option maxRecDepth 100000 in
theorem mXk3_ok : mXcls.all mXk3 = true := by decide +kernel
set_option maxRecDepth 100000 in
theorem mXk4_ok : mXcls.all mXk4 = true := by decide +kernel
theorem mXnm_ok : ∀ n ∈ mXnm, Bundle.fit n = true := by decide +kernel
theorem mXbk_tab {w : Cond} (h : mXbk w = true) : w.onTables = true := by
  unfold mXbk at h
  split at h
  · rfl
  · rfl
  · cases h
/-- what stands behind an exception's 'new' -/
def mXseq (j : Nat) (y : mMth) (e : mIns) : Bool := match e.2.1 with
  | .new ik => if e.2.2.2.1 = 995 then (match mThr[e.2.2.2.2.1]? with
    | some t => (match mXcls[t.1]? with
      | some r => decide (y.2.2.2.2.1 = r.1 ∧ ik = r.2.2.1 ∧ 6 ≤ y.2.2.2.2.2.1 ∧ 82 ≤ y.2.2.2.2.2.2) && (decide ((mlook (mcode j) (e.1 + 3)).map (fun z => z.2.1) = some .dup) && (decide ((mlook (mcode j) (e.1 + 4)).map (fun z => z.2.1) = some (.ldc t.2.1)) && (decide ((mlook (mcode j) (e.1 + 6)).map (fun z => z.2.1) = some (.invokespecial r.2.2.2.1)) && decide ((mlook (mcode j) (e.1 + 9)).map (fun z => z.2.1) = some .athrow))))
      | none => false)
    | none => false) else true
  | _ => true
def mXm (j : Nat) : Bool := match mmeth j with
  | some y => (mcode j).all (mXseq j y)
  | none => true
set_option maxRecDepth 100000 in
theorem mXm_ok : (List.range 200).all mXm = true := by decide +kernel
theorem mXm_all {j : Nat} {y : mMth} (h : mmeth j = some y) : mXm j = true := by
  have h1 : j < mMeths.length := (List.getElem?_eq_some_iff.mp h).1
  have h2 : mMeths.length ≤ 200 := by decide +kernel
  exact List.all_eq_true.mp mXm_ok j (List.mem_range.mpr (Nat.lt_of_lt_of_le h1 h2))
theorem mdec_at {j pc : Nat} {y : mMth} (hy : mmeth j = some y) {i : Instr} (h : (mlook (mcode j) pc).map (fun z => z.2.1) = some i) : ∃ n : Nat, decode y.2.1 pc = .ok (i, mlen i n) := by
  obtain ⟨e, he, hi⟩ := Option.map_eq_some_iff.mp h
  have h1 := (mIns_ok hy he).2.2
  rw [(mlook_mem he).2, hi] at h1
  exact ⟨_, h1⟩
/-- the strings and the statics that throws read -/
def mXs (A : Nat → Prop) (s : State) : Prop := (∀ (x : Nat) (t : Nat × Nat × String) (r : mXr), mThr[x]? = some t → mXcls[t.1]? = some r → ∃ sa : Nat, vk_R r.1 t.2.1 t.2.2 sa s) ∧ (∀ r ∈ mXcls, ∀ w ∈ mXb r, va_Nw w s) ∧ vx_Zq Bundle.tN "UNASSIGNED_STACK" Bundle.steD A s s.heap ∧ vx_Zq Bundle.tN "SUPPRESSED_SENTINEL" Bundle.listD A s s.heap
/-- where a method has thrown -/
def mXC (D : va_G) (cy : Nat → ClassId) (E : mE) (ad : Nat → Nat) (h : List mO) (sz : Nat) (h' : List mO) (X : String) : String → State → State → Prop := fun X9 st t =>
  X9 = X ∧ (∃ ad' : Nat → Nat, agr (E.length + h.length) ad ad' ∧ va_P D mCl (mW cy ad' E.length h') t.heap ∧ va_D (va_A (mW cy ad E.length h) sz) (mW cy ad' E.length h')) ∧ (h.length ≤ h'.length ∧ wfH E.length h') ∧ va_F (va_A (mW cy ad E.length h) sz) st t
set_option maxHeartbeats 4000000 in
theorem met_of_throw {l : Launch} (htr : l.stackTraces = false) {D : va_G} {cy : Nat → ClassId} {E : mE} {call : Nat → mS → Option mS} (hEw : mEw E) (hcall : mCallOk l D cy E call) {n k x : Nat} {y : mMth} {q : Nat × Nat × Nat × Nat × Bool × Nat} {as : List Value} {h : List mO} {S1 : mS} {tx : Nat × Nat × String} {r : mXr}
    (hy : mmeth k = some y) (hq : mPos[k]? = some q) (hq1 : q.1 ≠ 99999) (hlen : (lg_sl as).length ≤ y.2.2.1) (hwa : wfL (E.length + h.length) as) (hwh : wfH E.length h) (hrun : mrunF E call n (ment k as h) = some S1) (ht : mthrown S1 = some x) (hst : S1.1.2.2.2 = []) (hx : mThr[x]? = some tx) (hr : mXcls[tx.1]? = some r) (ad : Nat → Nat) (sz : Nat) :
    vx_Met l y.1 (mws y) (mrm y (S1.2.2.1 + 1) (S1.2.2.2 + 6)) (fun a s => mPc D cy E ad as h sz a s ∧ mXs (va_A (mW cy ad E.length h) sz) s) (fun _ _ _ _ => False) (mXC D cy E ad h sz S1.2.1 r.2.1) (S1.2.2.1 + 1) (S1.2.2.2 + 6) (va_A (mW cy ad E.length h) sz) := by
  obtain ⟨b1, b2, b3, b4, b5, b6, b7⟩ := mMeth_ok hy hq hq1
  refine vx_ofW (cc := y.2.1) (maxL := y.2.2.1) (ret := y.2.2.2.1) b5 rfl ?_
  intro p e s m args below meth c s₁ B hml hno hv0
  obtain ⟨hv, hX⟩ := hv0
  obtain ⟨rfl, hsz, hP, hK, hD0, hE, hN⟩ := hv
  have hts0 := atoms_spec (ws := mws y) B.pre
  have hts : ∀ w ∈ mTBL, w.before (as.map (trV ad)).toArray s = true := fun w hw => hts0 w (List.mem_cons_of_mem _ hw)
  have hown : s.vm.findClass y.1.cls = some m.cls := findClass_of_methodNamed B.named
  have hnm : meth.name = y.1.name := (name_of_methodNamed B.named B.method).1
  have hlocks := B.notSynchronized
  subst hsz
  have hD := hD0.self (sz := s.heap.size)
  have hA : ∀ q : Nat, s.heap.size ≤ q → va_A (mW cy ad E.length h) s.heap.size q := fun q hq9 => Or.inr hq9
  have hl := lv_entry (as.map (trV ad)) (n := y.2.2.1) (by rw [lg_sl_tr]; exact hlen)
  rw [lg_entry_eq]
  generalize (lg_sl (as.map (trV ad)) ++ List.replicate (y.2.2.1 - (lg_sl (as.map (trV ad))).length) Slot.unset).toArray = ls at hl ⊢
  rw [lv_args_tr] at hl
  refine sim_run (R := (headSpec (mws y) (mrm y (S1.2.2.1 + 1) (S1.2.2.2 + 6))).room) (A := va_A (mW cy ad E.length h) s.heap.size) hEw hcall B.exec B.bytes hml hts (b7 ▸ hown) hnm (Nat.le_refl _) (Nat.le_refl _) hK hA hN n _ S1 hrun hy (Nat.le_succ _) (Nat.le_add_right _ 6) s.heap [] ls ad hE hP hD va_S.rf hwh (lv_args_wf hwa 0) (fun v hv => by cases hv) hl ?_
  intro ad' H' locs' ls' e' hag hP' hD' hS' hw' hws' hlen' hj he' ht' hl'
  have hjk : S1.1.1 = k := hj
  have hsq := List.all_eq_true.mp (show (mcode k).all (mXseq k y) = true by
    have h9 := mXm_all hy
    unfold mXm at h9
    rw [hy] at h9
    exact h9) e' (mlook_mem (by rw [← hjk]; exact he')).1
  obtain ⟨-, -, hd⟩ := mIns_ok (by rw [hjk]; exact hy) he'
  have hpc : e'.1 = S1.1.2.1 := (mlook_mem he').2
  unfold mthrown at ht
  rw [he'] at ht
  dsimp only at ht
  obtain ⟨⟨j1, pc1, lv1, st1⟩, h1, nc1, ns1⟩ := S1
  obtain ⟨pc2, i2, n2, a2, bb2, k2⟩ := e'
  dsimp only at *
  subst hpc
  subst hst
  subst hjk
  split at ht
  · rename_i ik
    split at ht
    · rename_i h995
      cases ht
      unfold mXseq at hsq
      dsimp only at hsq
      rw [if_pos h995, hx] at hsq
      dsimp only at hsq
      rw [hr] at hsq
      simp only [Bool.and_eq_true, decide_eq_true_eq] at hsq
      obtain ⟨⟨g1, g2, g3, g4⟩, g5, g6, g7, g8⟩ := hsq
      obtain ⟨n3, d3⟩ := mdec_at hy g5
      obtain ⟨n4, d4⟩ := mdec_at hy g6
      obtain ⟨n6, d6⟩ := mdec_at hy g7
      obtain ⟨n9, d9⟩ := mdec_at hy g8
      subst g2
      have hrm : r ∈ mXcls := List.mem_of_getElem? hr
      obtain ⟨x1, x2, x3, x4⟩ := hX
      obtain ⟨sa, hsa⟩ := x1 _ _ _ hx hr
      have k1 := List.all_eq_true.mp mXk1_ok r hrm
      have k2 := List.all_eq_true.mp mXk2_ok r hrm
      have k3 := List.all_eq_true.mp mXk3_ok r hrm
      have k4 := List.all_eq_true.mp mXk4_ok r hrm
      simp only [mXk1, Bool.and_eq_true, decide_eq_true_eq] at k1
      simp only [mXk4, Bool.and_eq_true] at k4
      have hat : ∀ w ∈ vx_atS r.1 r.2.2.2.1 r.2.1 mXnm, w.before (as.map (trV ad)).toArray s = true := by
        intro w hw
        by_cases g : goodWord w = true
        · exact hts w (mXl_in (of_decide_eq_true (List.all_eq_true.mp k2 w (List.mem_filter.mpr ⟨hw, g⟩))) g)
        · have g' : (!goodWord w) = true := by
            cases hgw : goodWord w
            · rfl
            · exact absurd hgw g
          have hwb : w ∈ mXb r := List.mem_filter.mpr ⟨hw, g'⟩
          exact va_Nw.use (mXbk_tab (List.all_eq_true.mp k3 w hwb)) (x2 r hrm w hwb)
      have hgood : ∀ w ∈ Cond.classLink r.1 r.2.2.1 r.2.1 :: Cond.initialized r.2.1 :: vx_atS r.1 r.2.2.2.1 r.2.1 mXnm, vx_ot w = true := by
        intro w hw
        rcases List.mem_cons.mp hw with e1 | e1
        · subst e1; rfl
        · rcases List.mem_cons.mp e1 with e2 | e2
          · subst e2; rfl
          · exact List.all_eq_true.mp k4.1 w e2
      refine vx_throwS (text := tx.2.2) (names := mXnm) (sa := sa) (A := va_A (mW cy ad E.length h) s.heap.size) B.exec B.bytes htr (own := r.1) (by rw [← g1, b7]; exact hown) k4.2 mXnm_ok (hts _ (mTBL_of k1.1 rfl)) (hts _ (mTBL_of k1.2 rfl)) hsa hat hgood x3 x4 hS' (hl'.1.trans hml.symm) hd d3 d4 d6 d9 (fun x hx9 => (hno x hx9).elim) (show 2 + 3 < y.2.2.2.2.2.1 by omega) (show 0 + (13 * (2 + 1) + 43) ≤ y.2.2.2.2.2.2 by omega) (Nat.le_refl _) (Nat.le_refl _) hlocks ?_ hS'.2.2 (Nat.le_refl _) (Nat.le_refl _)
      intro t hvm hsize hkept
      refine ⟨rfl, ⟨ad', hag, hP'.kept (fun k9 q9 hk9 => hkept q9.1 (hP' k9 q9 hk9).lt), hD'⟩, ⟨hlen', hw'⟩, ?_, ?_⟩
      · exact Nat.le_trans hS'.1 hsize
      · intro q9 h1 h2
        rw [hkept q9 (Nat.lt_of_lt_of_le h1 hS'.1)]
        exact hS'.2.1 q9 h1 h2
    · exact hfalse ht
  · exact hfalse ht
end
section
/-! ===== a call whose run ends at a throw ===== -/
theorem va_Nw_b {w : Cond} (hk : mXbk w = true) {s U : State} (hW : s.WarmedH U.vm) (h : va_Nw w s) : va_Nw w U := by
  unfold mXbk at hk
  split at hk
  · exact va_Nw.warmC hW h
  · exact va_Nw.warmD hW h
  · cases hk
theorem mXs_warm {A B : Nat → Prop} {s U : State} {H : Heap} {locs : List Loc} (hS : va_S A s.heap H locs) (hW : s.WarmedH U.vm) (hU : U.heap = H) (hAB : ∀ q, B q → A q) (h : mXs A s) : mXs B U := by
  obtain ⟨x1, x2, x3, x4⟩ := h
  refine ⟨fun x t r hx hr => ?_, fun r hr w hw => va_Nw_b (List.all_eq_true.mp (List.all_eq_true.mp mXk3_ok r hr) w hw) hW (x2 r hr w hw), ?_, ?_⟩
  · obtain ⟨sa, hsa⟩ := x1 x t r hx hr
    exact ⟨sa, vk_R.warm hW hsa⟩
  · rw [hU]
    exact ((x3.kept hS.2.1).moved hW.alike).narrow hAB
  · rw [hU]
    exact ((x4.kept hS.2.1).moved hW.alike).narrow hAB
theorem mXs_blind {D : va_G} {cy : Nat → ClassId} {E : mE} {ad : Nat → Nat} {as : List Value} {h : List mO} {sz : Nat} {A : Nat → Prop} : FrameBlind (fun a s => mPc D cy E ad as h sz a s ∧ mXs A s) := by
  intro a U g mk q
  obtain ⟨q0, x1, x2, x3, x4⟩ := q
  refine ⟨mPc_blind a U g mk q0, fun x t r hx hr => ?_, fun r hr w hw => va_Nw.same (u := U) (U := U.calling g mk a) (mXbk_tab (List.all_eq_true.mp (List.all_eq_true.mp mXk3_ok r hr) w hw)) rfl (x2 r hr w hw), vx_Zq.moved (u := U) (U := U.calling g mk a) (Vm.Alike.refl U.vm) x3, vx_Zq.moved (u := U) (U := U.calling g mk a) (Vm.Alike.refl U.vm) x4⟩
  obtain ⟨sa, hsa⟩ := x1 x t r hx hr
  exact ⟨sa, vk_R.same (u := U) (U := U.calling g mk a) rfl hsa⟩
section MCX
variable {p : Program} {l : Launch} {e : Env} {R : Room} {s : State} {m : MethodId} {args : Array Value} {below : List Frame} {meth : Method} {c : Code} {H : Heap} {locs : List Loc} {cells slots : Nat} {Q : State → Prop}
set_option maxHeartbeats 4000000 in
theorem m_thrown {cc : ByteArray} {nL : Nat} (htr : l.stackTraces = false) {D : va_G} {cy : Nat → ClassId} {E : mE} {call : Nat → mS → Option mS} (hEw : mEw E) (hcall : mCallOk l D cy E call) (hx : p.tables.exec = Jvm.exec) (hb : c.code = cc) (hml : c.maxLocals = nL) (hts : ∀ w ∈ mTBL, w.before args s = true) {own : String} (hown : s.vm.findClass own = some m.cls)
    {ad : Nat → Nat} {A : Nat → Prop} {i : mIns} {st : List Value} {h : List mO} {ls : Array Slot} {x : mMth} {j k n z : Nat} {as rest : List Value} {S1 : mS} {tx : Nat × Nat × String} {r : mXr} {idx : Nat} (hsz : ls.size = nL) (hck : mchkI own i = true) (hd : decode cc i.1 = .ok (i.2.1, mlen i.2.1 i.2.2.1)) (hiv : i.2.1 = .invokevirtual idx)
    (hK : va_K D mCl (mT cy) s) (hP : va_P D mCl (mW cy ad E.length h) H) (hD : va_D A (mW cy ad E.length h)) (hS : va_S A s.heap H locs) (hA : ∀ q, s.heap.size ≤ q → A q) (hE : mEx D E ad A s s.heap) (hN : mNs s) (hXs : mXs A s) (hw : wfH E.length h) (hws : wfL (E.length + h.length) st)
    (hx0 : mmeth j = some x) (hR1 : x.2.2.2.2.2.1 ≤ R.frames) (hR2 : x.2.2.2.2.2.2 ≤ R.locals)
    (hc : mcallee E i st h = some (k, as, rest)) (hf : mfits j k = true) (hrun : mrunF E call n (ment k as h) = some S1) (ht : mthrown S1 = some z) (hst : S1.1.2.2.2 = []) (hz : mThr[z]? = some tx) (hr : mXcls[tx.1]? = some r) (hR : cells + (S1.2.2.1 + 1) ≤ R.cells ∧ slots + (S1.2.2.2 + 6) ≤ R.slots)
    (kx : ∀ (ad' : Nat → Nat) (H1 : Heap) (locs1 : List Loc) (q9 : Addr) (ce : Cell), agr (E.length + h.length) ad ad' → va_P D mCl (mW cy ad' E.length S1.2.1) H1 → va_D A (mW cy ad' E.length S1.2.1) → va_S A s.heap H1 locs1 → h.length ≤ S1.2.1.length → wfH E.length S1.2.1 → H1[q9]? = some ce → ce.vm = .none → s.vm.findClass r.2.1 = some ce.cls → wfL (E.length + h.length) rest → vx_W p l e R s m args below meth c H1 locs1 (cells + (S1.2.2.1 + 1)) (slots + (S1.2.2.2 + 6)) Q (F0 m i.1 ls (rest.map (trV ad))) q9) :
    W p l e R s m args below meth c H locs cells slots Q (F0 m i.1 ls (st.map (trV ad))) := by
  have hin : ∀ w ∈ mTBL, w ∈ mTBL := fun _ h9 => h9
  unfold mcallee at hc
  split at hc
  · rename_i q y hq hy
    split at hc
    · exact hfalse hc
    · rename_i hq1
      obtain ⟨b1, b2, b3, b4, b5, b6, b7⟩ := mMeth_ok hy hq hq1
      split at hc
      · exact hfalse hc
      · rename_i hlen
        have htk : (st.take q.2.2.2.2.2).length = q.2.2.2.2.2 := by rw [List.length_take]; omega
        have hwt : wfL (E.length + h.length) (st.take q.2.2.2.2.2).reverse := fun v9 h9 => hws v9 (List.mem_of_mem_take (List.mem_reverse.mp h9))
        have hwd : wfL (E.length + h.length) (st.drop q.2.2.2.2.2) := fun v9 h9 => hws v9 (List.mem_of_mem_drop h9)
        have hAn : ((st.take q.2.2.2.2.2).reverse.map (trV ad)).length = q.2.2.2.2.2 := by rw [List.length_map, List.length_reverse, htk]
        obtain ⟨pc, ins, n9, a9, b9, k9⟩ := i
        dsimp only at *
        subst hiv
        dsimp only at *
        split at hc
        · rename_i a rr hdr
          split at hc
          · rename_i o ho
            split at hc
            · rename_i cl hcl
              split at hc
              · rename_i hcond; obtain ⟨c1, c2, c3, c4, c5, c6⟩ := hcond
                have hwd2 : wfL (E.length + h.length) (.ref a :: rr) := by rw [← hdr]; exact hwd
                cases hc
                have hRy : y.2.2.2.2.2.1 + 1 ≤ R.frames ∧ 8 + (y.2.2.1 + 11) + y.2.2.2.2.2.2 ≤ R.locals := by
                  simp only [mfits, hx0, hy, Bool.and_eq_true, decide_eq_true_eq] at hf
                  exact ⟨by omega, by omega⟩
                have hM := met_of_throw htr hEw hcall hy hq hq1 c6 (hwt.c hwd2.h) hw hrun ht hst hz hr ad H.size
                rw [if_neg (by rw [c1]; decide)] at b2
                simp only [mchkI, hy, c3, if_true, decide_eq_true_eq] at hck
                have h9 : ∃ cell : Cell, H[ad a]? = some cell ∧ cell.vm.isStatics = false ∧ s.vm.findClass cl.1 = some cell.cls := by
                  rcases mobjE_or ho with ⟨-, hoE⟩ | hoW
                  · exact mEx_recv hK hS (hE.1 a _ hoE) hcl
                  · exact va_recv hK hP hcl (mget_W (cy := cy) (ad := ad) hoW)
                rw [c4] at h9
                have hAA := m_AA hD hS hA
                have hpre : ∀ U : State, U.heap = H → s.WarmedH U.vm → mPc D cy E ad (.ref a :: (st.take q.2.2.2.2.2).reverse) h H.size (((.ref a :: (st.take q.2.2.2.2.2).reverse).map (trV ad)).toArray) U ∧ mXs (va_A (mW cy ad E.length h) H.size) U := fun U hU hW => ⟨m_pre hK hP hD hS hA hE hN _ U hU hW, mXs_warm hS hW hU hAA hXs⟩
                have hgo : vx_Run p l e R s m args below meth c H locs cells slots (S1.2.2.1 + 1) (S1.2.2.2 + 6) (F0 m pc ls (st.map (trV ad))) (rest.map (trV ad)) (fun _ _ _ => False) (mXC D cy E ad h H.size S1.2.1 r.2.1) (va_A (mW cy ad E.length h) H.size) := by
                  refine vx_runV (Ts := mTBL) (C := y.1.cls) (b := ad a) ⟨hx, hb, hml, hown, hts⟩ hM (cwV q.2.2.2.2.2 hts (mgood_cons (mTBL_of hck rfl) hin (mgood_cons b2 hin (mgood_cons (b3 c2) hin (mgood_cons b4 hin (mws_in hin b1))))) rfl rfl rfl ⟨rfl, b6⟩ hRy) ⟨mXs_blind, h9, hpre⟩ rfl hAn hsz (mk_split hdr) (lv_room (by rw [mwords_tr]; exact c5)) hd hR
                intro T hT X
                rcases hgo T hT X with ⟨v, st₀, t, T', L, h0, X', hL, e1, e2, hF, st9⟩ | ⟨q8, st₀, t, T', L, E8, ce, h0, X', hL, e1, e2, ⟨hE8, ⟨ad', f1, f2, f3⟩, ⟨f4, f5⟩, hz9, hk9⟩, hce, hcv, hcl8, st9⟩
                · exact hF.elim
                · rw [h0] at hz9 hk9
                  subst hE8
                  obtain ⟨t2, d1, d2⟩ := kx ad' T'.heap (locs ++ L) q8 ce f1 (by rw [e1]; exact f2) (f3.weaken (fun k q _ hq => hAA q.1 hq))
                    ⟨Nat.le_trans hS.1 (by rw [e1]; exact hz9), fun q h1 h2 => by rw [e1, hk9 q (Nat.lt_of_lt_of_le h1 hS.1) (fun z => h2 (hAA q z))]; exact hS.2.1 q h1 h2, fun q hq => by
                      rcases List.mem_append.mp hq with h9 | h9
                      · exact hS.2.2 q h9
                      · exact hAA _ (hL q h9)⟩ f4 f5 (by rw [e1]; exact hce) hcv hcl8 hwd2.t T' rfl X'
                  exact ⟨t2, st9.trans d1, d2⟩
              · exact hfalse hc
            · exact hfalse hc
          · exact hfalse hc
        · exact hfalse hc
  · exact hfalse hc
end MCX
end
section
/-! ===== methods with handlers ===== -/
def mdrop1 (l : mLv) (i : Nat) : mLv := l.filter (fun q => !(q.1 == i) && !(q.1 + 1 == i && q.2.category == 2))
theorem trL_drop {ad : Nat → Nat} {l : mLv} {i : Nat} : trL ad (mdrop1 l i) = (trL ad l).filter (fun q => !(q.1 == i) && !(q.1 + 1 == i && q.2.category == 2)) := (List.cons.inj (trL_set1 ad l i .null)).2.symm
def mhof (j : Nat) : Option (Nat × List (Nat × Nat × Nat × Nat)) := (mHds.find? (fun q => q.1 == j)).map (fun q => q.2)
def mcov (pc : Nat) (z : Nat × Nat × Nat × Nat) : Bool := decide (z.1 ≤ pc) && decide (pc < z.2.1)
def mhname (own : String) (i : Nat) : Option (String × Nat) := (mHnm.find? (fun q => decide (q.1 = own) && decide (q.2.1 = i))).map (fun q => q.2.2)
/-- the handler of an exception -/
def mhnd (own : String) (pc : Nat) (X : String) : List (Nat × Nat × Nat × Nat) → Option Nat
  | [] => none
  | z :: r => if mcov pc z = true then (match mhname own z.2.2.2 with
      | some nm => if nm.1 = X then some z.2.2.1 else (if (X, nm.1) ∈ mNc then mhnd own pc X r else none)
      | none => none) else mhnd own pc X r
/-- where a call's throw is caught: the place behind the handler's first instruction, which keeps what was caught, and in which local -/
def mcatch (j : Nat) (e : mIns) (S1 : mS) : Option (Nat × Nat) := match e.2.1, mthrown S1, mmeth j, mhof j with
  | .invokevirtual _, some z, some y, some hd => (match mThr[z]? with
    | some tx => (match mXcls[tx.1]? with
      | some r => if S1.1.2.2.2.isEmpty = true then (match mhnd y.2.2.2.2.1 e.1 r.2.1 hd.2 with
        | some hp => (match mlook (mcode j) hp with
          | some eh => (match eh.2.1 with
            | .astore_n k => if (k : Nat) < y.2.2.1 then some (hp + 1, (k : Nat)) else none
            | .astore k => if k < y.2.2.1 then some (hp + 2, k) else none
            | _ => none)
          | none => none)
        | none => none) else none
      | none => none)
    | none => none)
  | _, _, _, _ => none
theorem mcatch_ok {j : Nat} {e : mIns} {S1 : mS} {c : Nat × Nat} (h : mcatch j e S1 = some c) : ∃ (idx z : Nat) (tx : Nat × Nat × String) (r : mXr) (y : mMth) (hd : Nat × List (Nat × Nat × Nat × Nat)) (hp : Nat) (eh : mIns), e.2.1 = .invokevirtual idx ∧ mthrown S1 = some z ∧ S1.1.2.2.2 = [] ∧ mThr[z]? = some tx ∧ mXcls[tx.1]? = some r ∧ mmeth j = some y ∧ mhof j = some hd ∧ mhnd y.2.2.2.2.1 e.1 r.2.1 hd.2 = some hp ∧ mlook (mcode j) hp = some eh ∧ ((∃ k : Fin 4, eh.2.1 = .astore_n k ∧ (k : Nat) = c.2 ∧ c.1 = hp + 1) ∨ (eh.2.1 = .astore c.2 ∧ c.1 = hp + 2)) ∧ c.2 < y.2.2.1 := by
  unfold mcatch at h
  split at h
  · rename_i idx z y hd h1 h2 h3 h4
    split at h
    · rename_i tx h5
      split at h
      · rename_i r h6
        split at h
        · rename_i h7
          split at h
          · rename_i hp h8
            split at h
            · rename_i eh h9
              split at h
              · rename_i k h10
                split at h
                · rename_i h11
                  cases h
                  exact ⟨idx, z, tx, r, y, hd, hp, eh, h1, h2, List.isEmpty_iff.mp h7, h5, h6, h3, h4, h8, h9, Or.inl ⟨k, h10, rfl, rfl⟩, h11⟩
                · cases h
              · rename_i k h10
                split at h
                · rename_i h11
                  cases h
                  exact ⟨idx, z, tx, r, y, hd, hp, eh, h1, h2, List.isEmpty_iff.mp h7, h5, h6, h3, h4, h8, h9, Or.inr ⟨h10, rfl⟩, h11⟩
                · cases h
              · cases h
            · cases h
          · cases h
        · cases h
      · cases h
    · cases h
  · cases h
def mXk5 (r : mXr) : Bool := decide (Cond.castable r.2.1 r.2.1 ∈ mXb r)
set_option maxRecDepth 100000 in
theorem mXk5_ok : mXcls.all mXk5 = true := by decide +kernel
def mHk (q : String × Nat × String × Nat) : Bool := decide (q.2.1 ≠ 0) && decide (lw_tbl[q.2.2.2]? = some (.classLink q.1 q.2.1 q.2.2.1))
set_option maxRecDepth 100000 in
theorem mHk_ok : mHnm.all mHk = true := by decide +kernel
theorem mhname_ok {own : String} {i : Nat} {nm : String × Nat} (h : mhname own i = some nm) : Cond.classLink own i nm.1 ∈ mTBL ∧ i ≠ 0 := by
  unfold mhname at h
  obtain ⟨q, hq, hn⟩ := Option.map_eq_some_iff.mp h
  have h1 := List.find?_some hq
  have h2 := List.all_eq_true.mp mHk_ok q (List.mem_of_find?_eq_some hq)
  simp only [Bool.and_eq_true, decide_eq_true_eq] at h1
  simp only [mHk, Bool.and_eq_true, decide_eq_true_eq] at h2
  obtain ⟨a1, a2⟩ := h1
  subst a1
  subst a2
  subst hn
  exact ⟨mTBL_of h2.2 rfl, h2.1⟩
theorem mhnd_ok {own : String} {pc : Nat} {X : String} : ∀ (hh : List (Nat × Nat × Nat × Nat)) (hp : Nat), mhnd own pc X hh = some hp → ∃ (pre : List ExceptionTableEntry) (x : ExceptionTableEntry) (suf : List ExceptionTableEntry) (nm : String × Nat), tableOf hh = pre ++ x :: suf ∧ x.handlerPc = hp ∧ covers x pc = true ∧ mhname own x.catchType = some nm ∧ nm.1 = X ∧ ∀ z ∈ pre, covers z pc = false ∨ ∃ nz : String × Nat, mhname own z.catchType = some nz ∧ (X, nz.1) ∈ mNc := by
  intro hh
  induction hh with
  | nil => intro hp h; cases h
  | cons z r ih =>
    intro hp h
    unfold mhnd at h
    split at h
    · rename_i hc
      split at h
      · rename_i nm hnm
        split at h
        · rename_i hX
          cases h
          exact ⟨[], ⟨z.1, z.2.1, z.2.2.1, z.2.2.2⟩, tableOf r, nm, rfl, rfl, hc, hnm, hX, fun _ h9 => absurd h9 List.not_mem_nil⟩
        · split at h
          · rename_i hin
            obtain ⟨pre, x, suf, nm2, h1, h2, h3, h4, h5, h6⟩ := ih hp h
            refine ⟨⟨z.1, z.2.1, z.2.2.1, z.2.2.2⟩ :: pre, x, suf, nm2, congrArg (fun t => (⟨z.1, z.2.1, z.2.2.1, z.2.2.2⟩ : ExceptionTableEntry) :: t) h1, h2, h3, h4, h5, ?_⟩
            intro w hw
            rcases List.mem_cons.mp hw with e | e
            · subst e; exact Or.inr ⟨nm, hnm, hin⟩
            · exact h6 w e
          · cases h
      · cases h
    · rename_i hc
      obtain ⟨pre, x, suf, nm2, h1, h2, h3, h4, h5, h6⟩ := ih hp h
      refine ⟨⟨z.1, z.2.1, z.2.2.1, z.2.2.2⟩ :: pre, x, suf, nm2, congrArg (fun t => (⟨z.1, z.2.1, z.2.2.1, z.2.2.2⟩ : ExceptionTableEntry) :: t) h1, h2, h3, h4, h5, ?_⟩
      intro w hw
      rcases List.mem_cons.mp hw with e | e
      · subst e
        refine Or.inl ?_
        have h9 : ¬ covers (⟨z.1, z.2.1, z.2.2.1, z.2.2.2⟩ : ExceptionTableEntry) pc = true := hc
        exact Bool.eq_false_iff.mpr h9
      · exact h6 w e
/-- runs of methods with handlers: what they call throws, or returns -/
def mrunX (E : mE) (call : Nat → mS → Option mS) : Nat → mS → Option mS
  | 0, _ => none
  | n + 1, S => match mlook (mcode S.1.1) S.1.2.1 with
    | none => none
    | some e => if mterm e = true then some S else (if minv e = true then (if 990 < e.2.2.2.1 then (match mspec S.1.1 e S.1.2.2.2 with
        | none => none
        | some r => mrunX E call n ((S.1.1, r.1, S.1.2.2.1, r.2), S.2)) else (match mcallee E e S.1.2.2.2 S.2.1 with
        | none => none
        | some r => if mfits S.1.1 r.1 = true then (match call n (ment r.1 r.2.1 S.2.1) with
          | none => none
          | some S1 => (match mretv S1 with
            | some v => mrunX E call n ((S.1.1, e.1 + 3, S.1.2.2.1, v.toList ++ r.2.2), (S1.2.1, S.2.2.1 + S1.2.2.1, S.2.2.2 + S1.2.2.2))
            | none => (match mcatch S.1.1 e S1 with
              | none => none
              | some cx => mrunX E call n ((S.1.1, cx.1, mdrop1 S.1.2.2.1 cx.2, []), (S1.2.1, S.2.2.1 + (S1.2.2.1 + 1), S.2.2.2 + (S1.2.2.2 + 6)))))) else none)) else (match mstep E e S with
        | none => none
        | some S1 => mrunX E call n S1))
theorem mrunX_mono {E : mE} {call : Nat → mS → Option mS} : ∀ (n : Nat) (S S' : mS), mrunX E call n S = some S' → S.2.2.1 ≤ S'.2.2.1 ∧ S.2.2.2 ≤ S'.2.2.2 := by
  intro n
  induction n with
  | zero => intro S S' h; cases h
  | succ n ih =>
    intro S S' h
    unfold mrunX at h
    split at h
    · exact hfalse h
    · rename_i e he; split at h
      · cases h; exact ⟨Nat.le_refl _, Nat.le_refl _⟩
      · split at h
        · split at h
          · split at h
            · exact hfalse h
            · have h1 := ih _ _ h
              exact h1
          · split at h
            · exact hfalse h
            · split at h
              · split at h
                · exact hfalse h
                · split at h
                  · have h1 := ih _ _ h
                    dsimp only at h1
                    exact ⟨by omega, by omega⟩
                  · split at h
                    · exact hfalse h
                    · have h1 := ih _ _ h
                      dsimp only at h1
                      exact ⟨by omega, by omega⟩
              · exact hfalse h
        · split at h
          · exact hfalse h
          · rename_i S1 hS1
            have h1 := ih _ _ h
            have h2 : S.2.2.1 ≤ S1.2.2.1 ∧ S.2.2.2 ≤ S1.2.2.2 := by
              unfold mstep at hS1
              split at hS1
              · split at hS1
                · cases hS1; exact ⟨Nat.le_refl _, Nat.le_refl _⟩
                · split at hS1
                  · rename_i r hr; cases hS1; exact mheap_mono hr
                  · exact hfalse hS1
              · exact hfalse hS1
            exact ⟨Nat.le_trans h2.1 h1.1, Nat.le_trans h2.2 h1.2⟩
section MRX
variable {p : Program} {l : Launch} {e : Env} {R : Room} {s : State} {m : MethodId} {args : Array Value} {below : List Frame} {meth : Method} {c : Code} {Q : State → Prop}
set_option maxHeartbeats 4000000 in
theorem sim_runX {D : va_G} {cy : Nat → ClassId} {E : mE} {call : Nat → mS → Option mS} (htr : l.stackTraces = false) (hEw : mEw E) (hcall : mCallOk l D cy E call) {j0 : Nat} {hd0 : Nat × List (Nat × Nat × Nat × Nat)} (hho : mhof j0 = some hd0) (htb : c.exceptionTable.toList = tableOf hd0.2) {A : Nat → Prop} {y : mMth} (hx : p.tables.exec = Jvm.exec) (hb : c.code = y.2.1) (hml : c.maxLocals = y.2.2.1) (hts : ∀ w ∈ mTBL, w.before args s = true) (hown : s.vm.findClass y.2.2.2.2.1 = some m.cls) (hnm : meth.name = y.1.name) (hR1 : y.2.2.2.2.2.1 ≤ R.frames) (hR2 : y.2.2.2.2.2.2 ≤ R.locals)
    (hK : va_K D mCl (mT cy) s) (hA : ∀ q, s.heap.size ≤ q → A q) (hN : mNs s) (hXs : mXs A s) (hNc : ∀ q ∈ mNc, va_Nc q.1 q.2 s) : ∀ (n : Nat) (S S' : mS), mrunX E (mrunF E call) n S = some S' → S.1.1 = j0 → mmeth S.1.1 = some y → S'.2.2.1 ≤ R.cells → S'.2.2.2 ≤ R.slots → ∀ (H : Heap) (locs : List Loc) (ls : Array Slot) (ad : Nat → Nat), mEx D E ad A s s.heap → va_P D mCl (mW cy ad E.length S.2.1) H → va_D A (mW cy ad E.length S.2.1) → va_S A s.heap H locs → wfH E.length S.2.1 → wfLv (E.length + S.2.1.length) S.1.2.2.1 → wfL (E.length + S.2.1.length) S.1.2.2.2 → lv_has ls y.2.2.1 (trL ad S.1.2.2.1) →
    (∀ (ad' : Nat → Nat) (H' : Heap) (locs' : List Loc) (ls' : Array Slot) (e' : mIns), agr (E.length + S.2.1.length) ad ad' → va_P D mCl (mW cy ad' E.length S'.2.1) H' → va_D A (mW cy ad' E.length S'.2.1) → va_S A s.heap H' locs' → wfH E.length S'.2.1 → wfL (E.length + S'.2.1.length) S'.1.2.2.2 → S.2.1.length ≤ S'.2.1.length → S'.1.1 = S.1.1 → mlook (mcode S'.1.1) S'.1.2.1 = some e' → mterm e' = true → lv_has ls' y.2.2.1 (trL ad' S'.1.2.2.1) → W p l e R s m args below meth c H' locs' S'.2.2.1 S'.2.2.2 Q (F0 m S'.1.2.1 ls' (S'.1.2.2.2.map (trV ad')))) →
    W p l e R s m args below meth c H locs S.2.2.1 S.2.2.2 Q (F0 m S.1.2.1 ls (S.1.2.2.2.map (trV ad))) := by
  intro n
  induction n with
  | zero => intro S S' h; cases h
  | succ n ih =>
    intro S S' h hj0 hy hc9 hs9 H locs ls ad hE hP hD hS hw hwl hws hl land
    obtain ⟨⟨j, pc, lv, st⟩, h0, nc, ns⟩ := S
    dsimp only at *
    have hmono := mrunX_mono _ _ _ h
    dsimp only at hmono
    unfold mrunX at h
    split at h
    · exact hfalse h
    · rename_i i hi
      dsimp only at hi h
      obtain ⟨k1, k2, k3⟩ := mIns_ok hy hi
      have hpc : i.1 = pc := (mlook_mem hi).2
      subst hpc
      split at h
      · rename_i ht
        cases h
        exact land ad H locs ls i agr.rf hP hD hS hw hws (Nat.le_refl _) rfl hi ht hl
      · split at h
        · split at h
          · rename_i h990
            split at h
            · exact hfalse h
            · rename_i r hr
              obtain ⟨pc2, st2⟩ := r
              exact spec_ok hx hb (hml.trans hl.1.symm) hts hown hy hR1 hR2 (Nat.le_trans hmono.1 hc9) (Nat.le_trans hmono.2 hs9) k1 k3 hr hws (fun hws2 => ih _ _ h hj0 hy hc9 hs9 H locs ls ad hE hP hD hS hw hwl hws2 hl land)
          · rename_i h990
            split at h
            · exact hfalse h
            · rename_i r hr
              obtain ⟨k, as, rest⟩ := r
              split at h
              · rename_i hf
                split at h
                · exact hfalse h
                · rename_i S1 hS1
                  split at h
                  · rename_i v hv
                    have hm2 := mrunX_mono _ _ _ h
                    dsimp only at hm2
                    obtain ⟨hwr, a, hrun⟩ := m_run (met_of_run hEw hcall) hx hb hml hts hown hl.1 k1 k3 hK hP hD hS hA hE hN hw hws (by omega) hy hR1 hR2 hr hf hS1 hv ⟨Nat.le_trans hm2.1 hc9, Nat.le_trans hm2.2 hs9⟩
                    refine m_back hw hrun hS (m_AA hD hS hA) (fun ad' H1 locs1 hag hP1 hD1 hS1' hlen hw1 hwv => ?_)
                    have hk := ih _ _ h hj0 hy hc9 hs9 H1 locs1 ls ad' (hE.agr hEw (fun q hq => hag q (by omega))) hP1 hD1 hS1' hw1 (hwl.up (by dsimp only; omega)) (by
                      intro x hx9
                      rcases List.mem_append.mp hx9 with e1 | e1
                      · cases v with
                        | none => cases e1
                        | some z =>
                          rw [List.mem_singleton.mp (show x ∈ [z] from e1)]
                          exact hwv z rfl
                      · exact (hwr x e1).up (by dsimp only; omega)) (by rw [trL_agr hwl hag]; exact hl)
                      (fun ad2 H2 locs2 ls2 e2 g1 g2 g3 g4 g5 g6 g7 g8 g9 g10 g11 => land ad2 H2 locs2 ls2 e2 (hag.tr (by dsimp only; omega) g1) g2 g3 g4 g5 g6 (Nat.le_trans hlen g7) g8 g9 g10 g11)
                    dsimp only at hk
                    rw [List.map_append, map_agr hwr hag] at hk
                    have hv9 : v.toList.map (trV ad') = (v.map (trV ad')).toList := by cases v <;> rfl
                    rw [hv9] at hk
                    exact hk
                  · split at h
                    · exact hfalse h
                    · rename_i cx hcx
                      obtain ⟨pc9, k9⟩ := cx
                      have hm2 := mrunX_mono _ _ _ h
                      dsimp only at hm2
                      obtain ⟨idx, z, tx, r9, y9, hd9, hp, eh, q1, q2, q3, q4, q5, q6, q7, q8, q9, q10, q11⟩ := mcatch_ok hcx
                      rw [hj0, hho] at q7
                      cases q7
                      rw [hy] at q6
                      cases q6
                      have hrm : r9 ∈ mXcls := List.mem_of_getElem? q5
                      obtain ⟨pre, xt, suf, nm, p1, p2, p3, p4, p5, p6⟩ := mhnd_ok _ _ q8
                      subst p2
                      have hdh : decode y.2.1 eh.1 = .ok (eh.2.1, mlen eh.2.1 eh.2.2.1) := (mIns_ok hy q9).2.2
                      rw [(mlook_mem q9).2] at hdh
                      refine m_thrown htr hEw hcall hx hb hml hts hown hl.1 k1 k3 q1 hK hP hD hS hA hE hN hXs hw hws hy hR1 hR2 hr hf hS1 q2 q3 q4 q5 ⟨Nat.le_trans hm2.1 hc9, Nat.le_trans hm2.2 hs9⟩ (fun ad' H1 locs1 qa ce hag hP1 hD1 hS1' hlen hw1 hcell hcv hcl hwr => ?_)
                      refine vx_catch hown pre xt suf (htb.trans p1) (fun z hz => ?_) p3 (mhname_ok p4).2 (hts _ (mhname_ok p4).1) ?_ hcell hcv hcl ?_
                      · rcases p6 z hz with e1 | ⟨nz, e1, e2⟩
                        · exact Or.inl e1
                        · exact Or.inr ⟨(mhname_ok e1).2, nz.1, hts _ (mhname_ok e1).1, hNc _ e2⟩
                      · rw [p5]
                        exact va_Nw.use rfl (hXs.2.1 r9 hrm _ (of_decide_eq_true (List.all_eq_true.mp mXk5_ok r9 hrm)))
                      · have hl2 : lv_has ls y.2.2.1 (trL ad' lv) := by rw [trL_agr hwl hag]; exact hl
                        have hgo : ∀ ls' : Array Slot, lv_has ls' y.2.2.1 ((k9, Value.ref qa) :: (trL ad' lv).filter (fun q => !(q.1 == k9) && !(q.1 + 1 == k9 && q.2.category == 2))) → W p l e R s m args below meth c H1 locs1 (nc + (S1.2.2.1 + 1)) (ns + (S1.2.2.2 + 6)) Q (F0 m pc9 ls' []) := by
                          intro ls' hl'
                          exact ih _ _ h hj0 hy hc9 hs9 H1 locs1 ls' ad' (hE.agr hEw (fun q hq => hag q (by omega))) hP1 hD1 hS1' hw1 (fun q hq => (hwl.up (by dsimp only; omega)) q (List.mem_filter.mp hq).1) (fun v hv => by cases hv) ⟨hl'.1, hl'.2.1, fun q hq => hl'.2.2 q (List.mem_cons_of_mem _ (by rw [← trL_drop]; exact hq))⟩
                            (fun ad2 H2 locs2 ls2 e2 g1 g2 g3 g4 g5 g6 g7 g8 g9 g10 g11 => land ad2 H2 locs2 ls2 e2 (hag.tr (by dsimp only; omega) g1) g2 g3 g4 g5 g6 (Nat.le_trans hlen g7) g8 g9 g10 g11)
                        rcases q10 with ⟨kf, f1, f2, f3⟩ | ⟨f1, f3⟩
                        · subst f3
                          rw [f1] at hdh
                          exact lv_astore_n hx hb hdh f2 hl2 q11 rfl hgo
                        · subst f3
                          rw [f1] at hdh
                          exact lv_astore hx hb hdh hl2 q11 rfl hgo
              · exact hfalse h
        · split at h
          · exact hfalse h
          · rename_i S1 hS1
            have hm2 := mrunX_mono _ _ _ h
            unfold mstep at hS1
            dsimp only at hS1
            rw [hy] at hS1
            dsimp only at hS1
            split at hS1
            · rename_i r hr
              cases hS1
              obtain ⟨pc2, lv2, st2⟩ := r
              obtain ⟨w1, w2⟩ := pure_wf hr hwl hws
              exact sd_pure hx hb hr k3 hl (fun ls' hl' => ih _ _ h hj0 hy hc9 hs9 H locs ls' ad hE hP hD hS hw w1 w2 hl' land)
            · split at hS1
              · rename_i r hr
                cases hS1
                obtain ⟨pc2, st2, h2⟩ := r
                dsimp only at hm2
                refine sd_heap (h := (h0, nc, ns)) (init := decide (y.1.name = "<init>")) hx hb hts hown (fun hh => hnm.trans (of_decide_eq_true hh)) hEw k2 k3 hK hP hD hS hA hE hw hws hr ⟨Nat.le_trans hm2.1 hc9, Nat.le_trans hm2.2 hs9⟩ (fun t9 ty ht9 hty => hts _ (mTys_ok t9 ty ht9 hty)) hN (hml.trans hl.1.symm) (fun hn9 => ⟨Nat.le_trans (mIns_room hy hi hn9).1 hR1, Nat.le_trans (mIns_room hy hi hn9).2 hR2⟩) (fun ad' H' locs' hag hP' hD' hS' hw' hws' hlen => ?_)
                exact ih _ _ h hj0 hy hc9 hs9 H' locs' ls ad' (hE.agr hEw (fun q hq => hag q (by omega))) hP' hD' hS' hw' (hwl.up (by dsimp only at hlen ⊢; omega)) hws' (by rw [trL_agr hwl hag]; exact hl)
                  (fun ad2 H2 locs2 ls2 e2 g1 g2 g3 g4 g5 g6 g7 g8 g9 g10 g11 => land ad2 H2 locs2 ls2 e2 (hag.tr (by dsimp only at hlen ⊢; omega) g1) g2 g3 g4 g5 g6 (Nat.le_trans hlen g7) g8 g9 g10 g11)
              · exact hfalse hS1
end MRX
def mHdk (q : Nat × Nat × List (Nat × Nat × Nat × Nat)) : Bool := match mmeth q.1 with
  | some y => decide (lw_tbl[q.2.1]? = some (.codeWith y.1 y.2.1 y.2.2.1 y.2.2.2.1 q.2.2)) && (plainName y.1.cls && decide (y.2.2.2.2.1 = y.1.cls))
  | none => true
set_option maxRecDepth 100000 in
theorem mHdk_ok : mHds.all mHdk = true := by decide +kernel
theorem mhof_in {k : Nat} {hd0 : Nat × List (Nat × Nat × Nat × Nat)} (h : mhof k = some hd0) : (k, hd0) ∈ mHds := by
  unfold mhof at h
  obtain ⟨q, hq, hn⟩ := Option.map_eq_some_iff.mp h
  have h1 := List.find?_some hq
  have h2 := List.mem_of_find?_eq_some hq
  have h3 : q.1 = k := beq_iff_eq.mp h1
  obtain ⟨q1, q2⟩ := q
  dsimp only at h3 hn
  rw [← h3, ← hn]
  exact h2
theorem mhof_ok {k : Nat} {hd0 : Nat × List (Nat × Nat × Nat × Nat)} {y : mMth} (h : mhof k = some hd0) (hy : mmeth k = some y) : plainName y.1.cls = true ∧ y.2.2.2.2.1 = y.1.cls := by
  have h1 := List.all_eq_true.mp mHdk_ok _ (mhof_in h)
  simp only [mHdk, hy, Bool.and_eq_true, decide_eq_true_eq] at h1
  exact ⟨h1.2.1, h1.2.2⟩
def mwsX (y : mMth) (hh : List (Nat × Nat × Nat × Nat)) : List Cond := Cond.codeWith y.1 y.2.1 y.2.2.1 y.2.2.2.1 hh :: mTBL
def mPcX (D : va_G) (cy : Nat → ClassId) (E : mE) (ad : Nat → Nat) (as : List Value) (h : List mO) (sz : Nat) : Array Value → State → Prop := fun a s => mPc D cy E ad as h sz a s ∧ mXs (va_A (mW cy ad E.length h) sz) s ∧ ∀ q ∈ mNc, va_Nc q.1 q.2 s
set_option maxHeartbeats 4000000 in
theorem met_of_runX {l : Launch} (htr : l.stackTraces = false) {D : va_G} {cy : Nat → ClassId} {E : mE} {call : Nat → mS → Option mS} (hEw : mEw E) (hcall : mCallOk l D cy E call) {n k : Nat} {y : mMth} {hd0 : Nat × List (Nat × Nat × Nat × Nat)} {as : List Value} {h : List mO} {S1 : mS} {v : Option Value} (hy : mmeth k = some y) (hho : mhof k = some hd0) (hlen : (lg_sl as).length ≤ y.2.2.1) (hwa : wfL (E.length + h.length) as) (hwh : wfH E.length h) (hrun : mrunX E (mrunF E call) n (ment k as h) = some S1) (hret : mretv S1 = some v) (ad : Nat → Nat) (sz : Nat) :
    Met l y.1 (mwsX y hd0.2) (mrm y S1.2.2.1 S1.2.2.2) (mPcX D cy E ad as h sz) (mQc D cy E ad h sz S1.2.1 v) S1.2.2.1 S1.2.2.2 (va_A (mW cy ad E.length h) sz) := by
  obtain ⟨b5, b7⟩ := mhof_ok hho hy
  refine va_MetW (hh := hd0.2) (cc := y.2.1) (maxL := y.2.2.1) (ret := y.2.2.2.1) b5 rfl ?_
  intro p e s m args below meth c s₁ B hml hv
  obtain ⟨⟨rfl, hsz, hP, hK, hD0, hE, hN⟩, hXs, hNc⟩ := hv
  have hts0 := atoms_spec (ws := mwsX y hd0.2) B.pre
  have hts : ∀ w ∈ mTBL, w.before (as.map (trV ad)).toArray s = true := fun w hw => hts0 w (List.mem_cons_of_mem _ hw)
  have hown : s.vm.findClass y.1.cls = some m.cls := findClass_of_methodNamed B.named
  have hnm : meth.name = y.1.name := (name_of_methodNamed B.named B.method).1
  have hlocks := B.notSynchronized
  have hr := B.returns
  subst hsz
  have hD := hD0.self (sz := s.heap.size)
  have hA : ∀ q : Nat, s.heap.size ≤ q → va_A (mW cy ad E.length h) s.heap.size q := fun q hq9 => Or.inr hq9
  have hl := lv_entry (as.map (trV ad)) (n := y.2.2.1) (by rw [lg_sl_tr]; exact hlen)
  rw [lg_entry_eq]
  generalize (lg_sl (as.map (trV ad)) ++ List.replicate (y.2.2.1 - (lg_sl (as.map (trV ad))).length) Slot.unset).toArray = ls at hl ⊢
  rw [lv_args_tr] at hl
  have htb : c.exceptionTable.toList = tableOf hd0.2 := vx_table (x := y.1) B (hts0 _ List.mem_cons_self)
  refine sim_runX (j0 := k) (R := (headSpec (mwsX y hd0.2) (mrm y S1.2.2.1 S1.2.2.2)).room) (A := va_A (mW cy ad E.length h) s.heap.size) htr hEw hcall hho htb B.exec B.bytes hml hts (b7 ▸ hown) hnm (Nat.le_refl _) (Nat.le_refl _) hK hA hN hXs hNc n _ S1 hrun rfl hy (Nat.le_refl _) (Nat.le_refl _) s.heap [] ls ad hE hP hD va_S.rf hwh (lv_args_wf hwa 0) (fun v hv => by cases hv) hl ?_
  intro ad' H' locs' ls' e' hag hP' hD' hS' hw' hws' hlen' hj he' ht' hl'
  have hjk : S1.1.1 = k := hj
  obtain ⟨-, -, hd⟩ := mIns_ok (by rw [hjk]; exact hy) he'
  have hpc : e'.1 = S1.1.2.1 := (mlook_mem he').2
  rw [hpc] at hd
  unfold mretv at hret
  rw [he', hjk, hy] at hret
  dsimp only at hret
  obtain ⟨⟨j1, pc1, lv1, st1⟩, h1, nc1, ns1⟩ := S1
  obtain ⟨pc2, i2, n2, a2, bb2, k2⟩ := e'
  obtain ⟨y1, y2, y3, y4, y5⟩ := y
  dsimp only at *
  have hq9 : ∀ v9 : Option Value, (∀ x, v9 = some x → wfV (E.length + h1.length) x) → ∀ t : State, t.heap = H' → s.WarmedH t.vm → mQc D cy E ad h s.heap.size h1 v9 (as.map (trV ad)).toArray s (.returned (v9.map (trV ad'))) t := by
    intro v9 hwv t ht hW
    exact ⟨⟨ad', hag, rfl, by rw [ht]; exact hP', hD'⟩, ⟨hlen', hw', hwv⟩, hS'.F ht⟩
  split at hret
  · rename_i x ty
    split at hret
    · rename_i hn; cases hret
      exact W.zret B.exec B.bytes hr hn (hq9 (some (.int x)) (fun z hz => by cases hz; trivial)) hS'.2.2 hd
    · exact hfalse hret
  · rename_i x
    cases hret
    exact W.lret B.exec B.bytes hr (hq9 (some (.long x)) (fun z hz => by cases hz; trivial)) hS'.2.2 hd
  · rename_i x
    cases hret
    exact W.dret B.exec B.bytes hr (hq9 (some (.double x)) (fun z hz => by cases hz; trivial)) hS'.2.2 hd
  · rename_i x o
    cases hret
    exact W.aret B.exec B.bytes hr (Or.inl ⟨_, rfl⟩) (Or.inr ⟨_, rfl⟩) (hq9 (some (.ref x)) (fun z hz => by cases hz; exact hws'.h)) hS'.2.2 hd
  · rename_i x o
    cases hret
    exact W.aret B.exec B.bytes hr (Or.inr ⟨_, rfl⟩) (Or.inr ⟨_, rfl⟩) (hq9 (some (.ref x)) (fun z hz => by cases hz; exact hws'.h)) hS'.2.2 hd
  · cases hret
    exact W.vret B.exec B.bytes hr (hq9 none (fun z hz => by cases hz)) hS'.2.2 hd
  · exact hfalse hret
end
section
/-! ===== the law's level: static calls of methods with handlers, and all other calls ===== -/
def mHdf (q : Nat × Nat × List (Nat × Nat × Nat × Nat)) : Bool := match mmeth q.1, mPos[q.1]? with
  | some y, some z => decide (lw_tbl[q.2.1]? = some (.codeWith y.1 y.2.1 y.2.2.1 y.2.2.2.1 q.2.2)) && (decide (lw_tbl[z.2.1]? = some (.static y.1)) && (decide (lw_tbl[z.2.2.2.1]? = some (.initialized y.1.cls)) && decide (y.1.cls ≠ "java/lang/invoke/MethodHandle" ∧ y.1.cls ≠ "java/lang/invoke/VarHandle" ∧ (parseMethodDescriptor y.1.desc).map (fun d => d.parameters.length) = some z.2.2.2.2.2)))
  | _, _ => true
set_option maxRecDepth 100000 in
theorem mHdf_ok : mHds.all mHdf = true := by decide +kernel
theorem mhof_f {k : Nat} {hd0 : Nat × List (Nat × Nat × Nat × Nat)} {y : mMth} {z : Nat × Nat × Nat × Nat × Bool × Nat} (h : mhof k = some hd0) (hy : mmeth k = some y) (hz : mPos[k]? = some z) : Cond.codeWith y.1 y.2.1 y.2.2.1 y.2.2.2.1 hd0.2 ∈ mTBL ∧ Cond.static y.1 ∈ mTBL ∧ Cond.initialized y.1.cls ∈ mTBL ∧ (y.1.cls ≠ "java/lang/invoke/MethodHandle" ∧ y.1.cls ≠ "java/lang/invoke/VarHandle" ∧ (parseMethodDescriptor y.1.desc).map (fun d => d.parameters.length) = some z.2.2.2.2.2) := by
  have h1 := List.all_eq_true.mp mHdf_ok _ (mhof_in h)
  simp only [mHdf, hy, hz, Bool.and_eq_true, decide_eq_true_eq] at h1
  obtain ⟨a1, a2, a3, a4⟩ := h1
  exact ⟨mTBL_of a1 rfl, mTBL_of a2 rfl, mTBL_of a3 rfl, a4⟩
theorem mwsX_in {big : List Cond} (hb : ∀ w ∈ mTBL, w ∈ big) {y : mMth} {hh : List (Nat × Nat × Nat × Nat)} (hc : Cond.codeWith y.1 y.2.1 y.2.2.1 y.2.2.2.1 hh ∈ mTBL) : GoodIn big (mwsX y hh) := by
  intro w hw
  rcases List.mem_cons.mp hw with e1 | e1
  · subst e1
    exact ⟨hb _ hc, good_of_word (List.mem_filter.mp hc).2⟩
  · exact ⟨hb _ e1, good_of_word (List.mem_filter.mp e1).2⟩
theorem mPcX_blind {D : va_G} {cy : Nat → ClassId} {E : mE} {ad : Nat → Nat} {as : List Value} {h : List mO} {sz : Nat} : FrameBlind (mPcX D cy E ad as h sz) := by
  intro a U g mk hq
  obtain ⟨q1, q2, q3⟩ := hq
  have h1 := mXs_blind (D := D) (cy := cy) (E := E) (ad := ad) (as := as) (h := h) (sz := sz) (A := va_A (mW cy ad E.length h) sz) a U g mk ⟨q1, q2⟩
  exact ⟨h1.1, h1.2, fun z hz => va_Nc.moved (u := U) (U := U.calling g mk a) (Vm.Alike.refl U.vm) (q3 z hz)⟩
def mcalleeX (e : mIns) (st : List Value) : Option (Nat × List Value × List Value) := match e.2.1, mPos[e.2.2.2.1]?, mmeth e.2.2.2.1 with
  | .invokestatic _, some q, some y => if (mhof e.2.2.2.1).isSome = true ∧ e.2.2.1 = 0 ∧ q.2.2.2.2.2 ≤ st.length ∧ mwords (st.drop q.2.2.2.2.2) ≤ 8 ∧ (lg_sl (st.take q.2.2.2.2.2).reverse).length ≤ y.2.2.1 then some (e.2.2.2.1, (st.take q.2.2.2.2.2).reverse, st.drop q.2.2.2.2.2) else none
  | _, _, _ => none
/-- runs of the law -/
def mrunL (E : mE) (c0 : Nat → mS → Option mS) : Nat → mS → Option mS
  | 0, _ => none
  | n + 1, S => match mlook (mcode S.1.1) S.1.2.1 with
    | none => none
    | some e => if mterm e = true then some S else (if minv e = true then (if 990 < e.2.2.2.1 then (match mspec S.1.1 e S.1.2.2.2 with
        | none => none
        | some r => mrunL E c0 n ((S.1.1, r.1, S.1.2.2.1, r.2), S.2)) else (match mcalleeX e S.1.2.2.2 with
        | some r => if mfits S.1.1 r.1 = true then (match mrunX E (mrunF E c0) n (ment r.1 r.2.1 S.2.1) with
          | none => none
          | some S1 => (match mretv S1 with
            | none => none
            | some v => mrunL E c0 n ((S.1.1, e.1 + 3, S.1.2.2.1, v.toList ++ r.2.2), (S1.2.1, S.2.2.1 + S1.2.2.1, S.2.2.2 + S1.2.2.2)))) else none
        | none => (match mcallee E e S.1.2.2.2 S.2.1 with
          | none => none
          | some r => if mfits S.1.1 r.1 = true then (match mrunF E c0 n (ment r.1 r.2.1 S.2.1) with
            | none => none
            | some S1 => (match mretv S1 with
              | none => none
              | some v => mrunL E c0 n ((S.1.1, e.1 + 3, S.1.2.2.1, v.toList ++ r.2.2), (S1.2.1, S.2.2.1 + S1.2.2.1, S.2.2.2 + S1.2.2.2)))) else none))) else (match mstep E e S with
        | none => none
        | some S1 => mrunL E c0 n S1))
theorem mrunL_mono {E : mE} {c0 : Nat → mS → Option mS} : ∀ (n : Nat) (S S' : mS), mrunL E c0 n S = some S' → S.2.2.1 ≤ S'.2.2.1 ∧ S.2.2.2 ≤ S'.2.2.2 := by
  intro n
  induction n with
  | zero => intro S S' h; cases h
  | succ n ih =>
    intro S S' h
    unfold mrunL at h
    split at h
    · exact hfalse h
    · rename_i e he; split at h
      · cases h; exact ⟨Nat.le_refl _, Nat.le_refl _⟩
      · split at h
        · split at h
          · split at h
            · exact hfalse h
            · have h1 := ih _ _ h
              exact h1
          · split at h
            · split at h
              · split at h
                · exact hfalse h
                · split at h
                  · exact hfalse h
                  · have h1 := ih _ _ h
                    dsimp only at h1
                    exact ⟨by omega, by omega⟩
              · exact hfalse h
            · split at h
              · exact hfalse h
              · split at h
                · split at h
                  · exact hfalse h
                  · split at h
                    · exact hfalse h
                    · have h1 := ih _ _ h
                      dsimp only at h1
                      exact ⟨by omega, by omega⟩
                · exact hfalse h
        · split at h
          · exact hfalse h
          · rename_i S1 hS1
            have h1 := ih _ _ h
            have h2 : S.2.2.1 ≤ S1.2.2.1 ∧ S.2.2.2 ≤ S1.2.2.2 := by
              unfold mstep at hS1
              split at hS1
              · split at hS1
                · cases hS1; exact ⟨Nat.le_refl _, Nat.le_refl _⟩
                · split at hS1
                  · rename_i r hr; cases hS1; exact mheap_mono hr
                  · exact hfalse hS1
              · exact hfalse hS1
            exact ⟨Nat.le_trans h2.1 h1.1, Nat.le_trans h2.2 h1.2⟩
section MRL
variable {p : Program} {l : Launch} {e : Env} {R : Room} {s : State} {m : MethodId} {args : Array Value} {below : List Frame} {meth : Method} {c : Code} {Q : State → Prop}
set_option maxHeartbeats 4000000 in
/-- a static call of a method with handlers -/
theorem m_runX {H : Heap} {locs : List Loc} {cells slots : Nat} {cc : ByteArray} {nL : Nat} (htr : l.stackTraces = false) {D : va_G} {cy : Nat → ClassId} {E : mE} {call : Nat → mS → Option mS} (hEw : mEw E) (hcall : mCallOk l D cy E call) (hx : p.tables.exec = Jvm.exec) (hb : c.code = cc) (hml : c.maxLocals = nL) (hts : ∀ w ∈ mTBL, w.before args s = true) {own : String} (hown : s.vm.findClass own = some m.cls)
    {ad : Nat → Nat} {A : Nat → Prop} {i : mIns} {st : List Value} {h : List mO} {ls : Array Slot} {x : mMth} {j k n : Nat} {as rest : List Value} {S1 : mS} {v : Option Value} (hsz : ls.size = nL) (hck : mchkI own i = true) (hd : decode cc i.1 = .ok (i.2.1, mlen i.2.1 i.2.2.1))
    (hK : va_K D mCl (mT cy) s) (hP : va_P D mCl (mW cy ad E.length h) H) (hD : va_D A (mW cy ad E.length h)) (hS : va_S A s.heap H locs) (hA : ∀ q, s.heap.size ≤ q → A q) (hE : mEx D E ad A s s.heap) (hN : mNs s) (hXs : mXs A s) (hNc : ∀ q ∈ mNc, va_Nc q.1 q.2 s) (hw : wfH E.length h) (hws : wfL (E.length + h.length) st)
    (hi : i.2.2.2.1 ≤ 990) (hx0 : mmeth j = some x) (hR1 : x.2.2.2.2.2.1 ≤ R.frames) (hR2 : x.2.2.2.2.2.2 ≤ R.locals)
    (hc : mcalleeX i st = some (k, as, rest)) (hf : mfits j k = true) (hrun : mrunX E (mrunF E call) n (ment k as h) = some S1) (hret : mretv S1 = some v) (hR : cells + S1.2.2.1 ≤ R.cells ∧ slots + S1.2.2.2 ≤ R.slots) :
    wfL (E.length + h.length) rest ∧ ∃ a : Array Value, va_Run p l e R s m args below meth c H locs cells slots S1.2.2.1 S1.2.2.2 (F0 m i.1 ls (st.map (trV ad))) (rest.map (trV ad)) (mQc D cy E ad h H.size S1.2.1 v a) (va_A (mW cy ad E.length h) H.size) := by
  have hin : ∀ w ∈ mTBL, w ∈ mTBL := fun _ h9 => h9
  unfold mcalleeX at hc
  split at hc
  · rename_i idx q y hi9 hq hy
    split at hc
    · rename_i hcond; obtain ⟨c1, c2, hlen, c3, c4⟩ := hcond
      obtain ⟨hd0, hho⟩ := Option.isSome_iff_exists.mp c1
      obtain ⟨b1, b2, b4, b6⟩ := mhof_f hho hy hq
      have htk : (st.take q.2.2.2.2.2).length = q.2.2.2.2.2 := by rw [List.length_take]; omega
      have hwt : wfL (E.length + h.length) (st.take q.2.2.2.2.2).reverse := fun v9 h9 => hws v9 (List.mem_of_mem_take (List.mem_reverse.mp h9))
      have hwd : wfL (E.length + h.length) (st.drop q.2.2.2.2.2) := fun v9 h9 => hws v9 (List.mem_of_mem_drop h9)
      have hAn : ((st.take q.2.2.2.2.2).reverse.map (trV ad)).length = q.2.2.2.2.2 := by rw [List.length_map, List.length_reverse, htk]
      obtain ⟨pc, ins, n9, a9, b9, k9⟩ := i
      dsimp only at *
      subst hi9
      cases hc
      refine ⟨hwd, ((st.take q.2.2.2.2.2).reverse.map (trV ad)).toArray, ?_⟩
      have hRy : y.2.2.2.2.2.1 + 1 ≤ R.frames ∧ 8 + (y.2.2.1 + 11) + y.2.2.2.2.2.2 ≤ R.locals := by
        simp only [mfits, hx0, hy, Bool.and_eq_true, decide_eq_true_eq] at hf
        exact ⟨by omega, by omega⟩
      have hM := met_of_runX htr hEw hcall hy hho c4 hwt hw hrun hret ad H.size
      simp only [mchkI, hy, c2, if_true, if_neg (show ¬ k = 997 by omega), if_neg (show ¬ k = 996 by omega), decide_eq_true_eq] at hck
      have hAA := m_AA hD hS hA
      have hpre : ∀ U : State, U.heap = H → s.WarmedH U.vm → mPcX D cy E ad (st.take q.2.2.2.2.2).reverse h H.size (((st.take q.2.2.2.2.2).reverse).map (trV ad)).toArray U := fun U hU hW => ⟨m_pre hK hP hD hS hA hE hN _ U hU hW, mXs_warm hS hW hU hAA hXs, fun z hz => va_Nc.moved hW.alike (hNc z hz)⟩
      refine vx_runSW (Ts := mTBL) ⟨hx, hb, hml, hown, hts⟩ hM (vx_cwSW q.2.2.2.2.2 hts (mgood_cons (mTBL_of hck rfl) hin (mgood_cons b2 hin (mgood_cons b4 hin (mwsX_in hin b1)))) rfl rfl rfl b6 hRy) ⟨mPcX_blind, hpre⟩ rfl hAn hsz mk_split0 (lv_room (by rw [mwords_tr]; exact c3)) hd hR
    · exact hfalse hc
  · exact hfalse hc
set_option maxHeartbeats 4000000 in
theorem sim_runL {D : va_G} {cy : Nat → ClassId} {E : mE} {call : Nat → mS → Option mS} (htr : l.stackTraces = false) (hEw : mEw E) (hcall : mCallOk l D cy E call) {A : Nat → Prop} {y : mMth} (hx : p.tables.exec = Jvm.exec) (hb : c.code = y.2.1) (hml : c.maxLocals = y.2.2.1) (hts : ∀ w ∈ mTBL, w.before args s = true) (hown : s.vm.findClass y.2.2.2.2.1 = some m.cls) (hnm : meth.name = y.1.name) (hR1 : y.2.2.2.2.2.1 ≤ R.frames) (hR2 : y.2.2.2.2.2.2 ≤ R.locals)
    (hK : va_K D mCl (mT cy) s) (hA : ∀ q, s.heap.size ≤ q → A q) (hN : mNs s) (hXs : mXs A s) (hNc : ∀ q ∈ mNc, va_Nc q.1 q.2 s) : ∀ (n : Nat) (S S' : mS), mrunL E call n S = some S' → mmeth S.1.1 = some y → S'.2.2.1 ≤ R.cells → S'.2.2.2 ≤ R.slots → ∀ (H : Heap) (locs : List Loc) (ls : Array Slot) (ad : Nat → Nat), mEx D E ad A s s.heap → va_P D mCl (mW cy ad E.length S.2.1) H → va_D A (mW cy ad E.length S.2.1) → va_S A s.heap H locs → wfH E.length S.2.1 → wfLv (E.length + S.2.1.length) S.1.2.2.1 → wfL (E.length + S.2.1.length) S.1.2.2.2 → lv_has ls y.2.2.1 (trL ad S.1.2.2.1) →
    (∀ (ad' : Nat → Nat) (H' : Heap) (locs' : List Loc) (ls' : Array Slot) (e' : mIns), agr (E.length + S.2.1.length) ad ad' → va_P D mCl (mW cy ad' E.length S'.2.1) H' → va_D A (mW cy ad' E.length S'.2.1) → va_S A s.heap H' locs' → wfH E.length S'.2.1 → wfL (E.length + S'.2.1.length) S'.1.2.2.2 → S.2.1.length ≤ S'.2.1.length → S'.1.1 = S.1.1 → mlook (mcode S'.1.1) S'.1.2.1 = some e' → mterm e' = true → lv_has ls' y.2.2.1 (trL ad' S'.1.2.2.1) → W p l e R s m args below meth c H' locs' S'.2.2.1 S'.2.2.2 Q (F0 m S'.1.2.1 ls' (S'.1.2.2.2.map (trV ad')))) →
    W p l e R s m args below meth c H locs S.2.2.1 S.2.2.2 Q (F0 m S.1.2.1 ls (S.1.2.2.2.map (trV ad))) := by
  intro n
  induction n with
  | zero => intro S S' h; cases h
  | succ n ih =>
    intro S S' h hy hc9 hs9 H locs ls ad hE hP hD hS hw hwl hws hl land
    obtain ⟨⟨j, pc, lv, st⟩, h0, nc, ns⟩ := S
    dsimp only at *
    have hmono := mrunL_mono _ _ _ h
    dsimp only at hmono
    unfold mrunL at h
    split at h
    · exact hfalse h
    · rename_i i hi
      dsimp only at hi h
      obtain ⟨k1, k2, k3⟩ := mIns_ok hy hi
      have hpc : i.1 = pc := (mlook_mem hi).2
      subst hpc
      split at h
      · rename_i ht
        cases h
        exact land ad H locs ls i agr.rf hP hD hS hw hws (Nat.le_refl _) rfl hi ht hl
      · split at h
        · split at h
          · rename_i h990
            split at h
            · exact hfalse h
            · rename_i r hr
              obtain ⟨pc2, st2⟩ := r
              exact spec_ok hx hb (hml.trans hl.1.symm) hts hown hy hR1 hR2 (Nat.le_trans hmono.1 hc9) (Nat.le_trans hmono.2 hs9) k1 k3 hr hws (fun hws2 => ih _ _ h hy hc9 hs9 H locs ls ad hE hP hD hS hw hwl hws2 hl land)
          · rename_i h990
            split at h
            · rename_i r hr
              obtain ⟨k, as, rest⟩ := r
              split at h
              · rename_i hf
                split at h
                · exact hfalse h
                · rename_i S1 hS1
                  split at h
                  · exact hfalse h
                  · rename_i v hv
                    have hm2 := mrunL_mono _ _ _ h
                    dsimp only at hm2
                    obtain ⟨hwr, a, hrun⟩ := m_runX htr hEw hcall hx hb hml hts hown hl.1 k1 k3 hK hP hD hS hA hE hN hXs hNc hw hws (by omega) hy hR1 hR2 hr hf hS1 hv ⟨Nat.le_trans hm2.1 hc9, Nat.le_trans hm2.2 hs9⟩
                    refine m_back hw hrun hS (m_AA hD hS hA) (fun ad' H1 locs1 hag hP1 hD1 hS1' hlen hw1 hwv => ?_)
                    have hk := ih _ _ h hy hc9 hs9 H1 locs1 ls ad' (hE.agr hEw (fun q hq => hag q (by omega))) hP1 hD1 hS1' hw1 (hwl.up (by dsimp only; omega)) (by
                      intro x hx9
                      rcases List.mem_append.mp hx9 with e1 | e1
                      · cases v with
                        | none => cases e1
                        | some z =>
                          rw [List.mem_singleton.mp (show x ∈ [z] from e1)]
                          exact hwv z rfl
                      · exact (hwr x e1).up (by dsimp only; omega)) (by rw [trL_agr hwl hag]; exact hl)
                      (fun ad2 H2 locs2 ls2 e2 g1 g2 g3 g4 g5 g6 g7 g8 g9 g10 g11 => land ad2 H2 locs2 ls2 e2 (hag.tr (by dsimp only; omega) g1) g2 g3 g4 g5 g6 (Nat.le_trans hlen g7) g8 g9 g10 g11)
                    dsimp only at hk
                    rw [List.map_append, map_agr hwr hag] at hk
                    have hv9 : v.toList.map (trV ad') = (v.map (trV ad')).toList := by cases v <;> rfl
                    rw [hv9] at hk
                    exact hk
              · exact hfalse h
            · split at h
              · exact hfalse h
              · rename_i r hr
                obtain ⟨k, as, rest⟩ := r
                split at h
                · rename_i hf
                  split at h
                  · exact hfalse h
                  · rename_i S1 hS1
                    split at h
                    · exact hfalse h
                    · rename_i v hv
                      have hm2 := mrunL_mono _ _ _ h
                      dsimp only at hm2
                      obtain ⟨hwr, a, hrun⟩ := m_run (met_of_run hEw hcall) hx hb hml hts hown hl.1 k1 k3 hK hP hD hS hA hE hN hw hws (by omega) hy hR1 hR2 hr hf hS1 hv ⟨Nat.le_trans hm2.1 hc9, Nat.le_trans hm2.2 hs9⟩
                      refine m_back hw hrun hS (m_AA hD hS hA) (fun ad' H1 locs1 hag hP1 hD1 hS1' hlen hw1 hwv => ?_)
                      have hk := ih _ _ h hy hc9 hs9 H1 locs1 ls ad' (hE.agr hEw (fun q hq => hag q (by omega))) hP1 hD1 hS1' hw1 (hwl.up (by dsimp only; omega)) (by
                        intro x hx9
                        rcases List.mem_append.mp hx9 with e1 | e1
                        · cases v with
                          | none => cases e1
                          | some z =>
                            rw [List.mem_singleton.mp (show x ∈ [z] from e1)]
                            exact hwv z rfl
                        · exact (hwr x e1).up (by dsimp only; omega)) (by rw [trL_agr hwl hag]; exact hl)
                        (fun ad2 H2 locs2 ls2 e2 g1 g2 g3 g4 g5 g6 g7 g8 g9 g10 g11 => land ad2 H2 locs2 ls2 e2 (hag.tr (by dsimp only; omega) g1) g2 g3 g4 g5 g6 (Nat.le_trans hlen g7) g8 g9 g10 g11)
                      dsimp only at hk
                      rw [List.map_append, map_agr hwr hag] at hk
                      have hv9 : v.toList.map (trV ad') = (v.map (trV ad')).toList := by cases v <;> rfl
                      rw [hv9] at hk
                      exact hk
                · exact hfalse h
        · split at h
          · exact hfalse h
          · rename_i S1 hS1
            have hm2 := mrunL_mono _ _ _ h
            unfold mstep at hS1
            dsimp only at hS1
            rw [hy] at hS1
            dsimp only at hS1
            split at hS1
            · rename_i r hr
              cases hS1
              obtain ⟨pc2, lv2, st2⟩ := r
              obtain ⟨w1, w2⟩ := pure_wf hr hwl hws
              exact sd_pure hx hb hr k3 hl (fun ls' hl' => ih _ _ h hy hc9 hs9 H locs ls' ad hE hP hD hS hw w1 w2 hl' land)
            · split at hS1
              · rename_i r hr
                cases hS1
                obtain ⟨pc2, st2, h2⟩ := r
                dsimp only at hm2
                refine sd_heap (h := (h0, nc, ns)) (init := decide (y.1.name = "<init>")) hx hb hts hown (fun hh => hnm.trans (of_decide_eq_true hh)) hEw k2 k3 hK hP hD hS hA hE hw hws hr ⟨Nat.le_trans hm2.1 hc9, Nat.le_trans hm2.2 hs9⟩ (fun t9 ty ht9 hty => hts _ (mTys_ok t9 ty ht9 hty)) hN (hml.trans hl.1.symm) (fun hn9 => ⟨Nat.le_trans (mIns_room hy hi hn9).1 hR1, Nat.le_trans (mIns_room hy hi hn9).2 hR2⟩) (fun ad' H' locs' hag hP' hD' hS' hw' hws' hlen => ?_)
                exact ih _ _ h hy hc9 hs9 H' locs' ls ad' (hE.agr hEw (fun q hq => hag q (by omega))) hP' hD' hS' hw' (hwl.up (by dsimp only at hlen ⊢; omega)) hws' (by rw [trL_agr hwl hag]; exact hl)
                  (fun ad2 H2 locs2 ls2 e2 g1 g2 g3 g4 g5 g6 g7 g8 g9 g10 g11 => land ad2 H2 locs2 ls2 e2 (hag.tr (by dsimp only at hlen ⊢; omega) g1) g2 g3 g4 g5 g6 (Nat.le_trans hlen g7) g8 g9 g10 g11)
              · exact hfalse hS1
end MRL
end
section
/-! ===== rules for open runs: a run is a run with some fuel and some depth ===== -/
def Rn (E : mE) (S S' : mS) : Prop := ∃ d n : Nat, mexec E d n S = some S'
theorem mrun_up {E : mE} {call call' : Nat → mS → Option mS} (hc : ∀ (n n' : Nat) (S S' : mS), n ≤ n' → call n S = some S' → call' n' S = some S') : ∀ (n n' : Nat) (S S' : mS), n ≤ n' → mrunF E call n S = some S' → mrunF E call' n' S = some S' := by
  intro n
  induction n with
  | zero => intro n' S S' hn h; cases h
  | succ n ih =>
    intro n' S S' hn h
    obtain ⟨k, rfl⟩ : ∃ k, n' = k + 1 := ⟨n' - 1, by omega⟩
    have hk : n ≤ k := by omega
    unfold mrunF at h ⊢
    split at h
    · exact hfalse h
    · rename_i e he
      split at h
      · rename_i ht
        rw [if_pos ht]
        exact h
      · rename_i ht
        rw [if_neg ht]
        split at h
        · rename_i hi
          rw [if_pos hi]
          split at h
          · rename_i h990
            rw [if_pos h990]
            split at h
            · exact hfalse h
            · rename_i r hr
              try rw [hr]
              exact ih _ _ _ hk h
          · rename_i h990
            rw [if_neg h990]
            split at h
            · exact hfalse h
            · rename_i r hr
              try rw [hr]
              split at h
              · rename_i hf
                try dsimp only
                rw [if_pos hf]
                split at h
                · exact hfalse h
                · rename_i S1 hS1
                  rw [hc _ _ _ _ hk hS1]
                  split at h
                  · exact hfalse h
                  · rename_i v hv
                    try dsimp only
                    try rw [hv]
                    exact ih _ _ _ hk h
              · exact hfalse h
        · rename_i hi
          rw [if_neg hi]
          split at h
          · exact hfalse h
          · rename_i S1 hS1
            try rw [hS1]
            exact ih _ _ _ hk h
theorem mexec_up {E : mE} : ∀ (d d' n n' : Nat) (S S' : mS), d ≤ d' → n ≤ n' → mexec E d n S = some S' → mexec E d' n' S = some S' := by
  intro d
  induction d with
  | zero => intro d' n n' S S' hd hn h; cases h
  | succ d ih =>
    intro d' n n' S S' hd hn h
    obtain ⟨k, rfl⟩ : ∃ k, d' = k + 1 := ⟨d' - 1, by omega⟩
    exact mrun_up (fun n1 n2 T T' h1 h2 => ih k n1 n2 T T' (by omega) h1 h2) n n' S S' hn h
/-- a call that comes back: what it answers, the heap behind it, what it made -/
def Cl (E : mE) (k : Nat) (as : List Value) (h : List mO) (v : Option Value) (h' : mH) : Prop := ∃ S1 : mS, Rn E (ment k as h) S1 ∧ mretv S1 = some v ∧ S1.2 = h'
theorem Rn.term {E : mE} {S : mS} {e : mIns} (he : mlook (mcode S.1.1) S.1.2.1 = some e) (ht : mterm e = true) : Rn E S S := by
  refine ⟨1, 1, ?_⟩
  show mrunF E (mexec E 0) 1 S = some S
  unfold mrunF
  rw [he]
  exact if_pos ht
theorem Rn.step {E : mE} {S S1 S' : mS} {e : mIns} (he : mlook (mcode S.1.1) S.1.2.1 = some e) (ht : mterm e = false) (hi : minv e = false) (hs : mstep E e S = some S1) (k : Rn E S1 S') : Rn E S S' := by
  obtain ⟨d, n, h⟩ := k
  cases d with
  | zero => cases h
  | succ d =>
    refine ⟨d + 1, n + 1, ?_⟩
    show mrunF E (mexec E d) (n + 1) S = some S'
    unfold mrunF
    rw [he]
    dsimp only
    rw [if_neg (by rw [ht]; decide), if_neg (by rw [hi]; decide), hs]
    exact h
theorem Rn.pure {E : mE} {j pc pc' : Nat} {lv lv' : mLv} {st st' : List Value} {h : mH} {S' : mS} {e : mIns} {y : mMth} (he : mlook (mcode j) pc = some e) (ht : mterm e = false) (hi : minv e = false) (hy : mmeth j = some y) (hp : mpure y.2.2.1 e lv st = some (pc', lv', st')) (k : Rn E ((j, pc', lv', st'), h) S') : Rn E ((j, pc, lv, st), h) S' := by
  refine Rn.step he ht hi ?_ k
  unfold mstep
  dsimp only
  rw [hy]
  dsimp only
  rw [hp]
theorem Rn.heap {E : mE} {j pc pc' : Nat} {lv : mLv} {st st' : List Value} {h h' : mH} {S' : mS} {e : mIns} {y : mMth} (he : mlook (mcode j) pc = some e) (ht : mterm e = false) (hi : minv e = false) (hy : mmeth j = some y) (h0 : mpure y.2.2.1 e lv st = none) (hp : mheap E e st h = some (pc', st', h')) (k : Rn E ((j, pc', lv, st'), h') S') : Rn E ((j, pc, lv, st), h) S' := by
  refine Rn.step he ht hi ?_ k
  unfold mstep
  dsimp only
  rw [hy]
  dsimp only
  rw [h0, hp]
theorem Rn.spec {E : mE} {j pc pc' : Nat} {lv : mLv} {st st' : List Value} {h : mH} {S' : mS} {e : mIns} (he : mlook (mcode j) pc = some e) (ht : mterm e = false) (hi : minv e = true) (ha : 990 < e.2.2.2.1) (hp : mspec j e st = some (pc', st')) (k : Rn E ((j, pc', lv, st'), h) S') : Rn E ((j, pc, lv, st), h) S' := by
  obtain ⟨d, n, hk⟩ := k
  cases d with
  | zero => cases hk
  | succ d =>
    refine ⟨d + 1, n + 1, ?_⟩
    show mrunF E (mexec E d) (n + 1) ((j, pc, lv, st), h) = some S'
    unfold mrunF
    dsimp only
    rw [he]
    dsimp only
    rw [if_neg (by rw [ht]; decide), if_pos hi, if_pos ha, hp]
    exact hk
theorem Rn.call {E : mE} {j pc k9 : Nat} {lv : mLv} {st as rest : List Value} {h : List mO} {nc ns : Nat} {h' : mH} {v : Option Value} {S' : mS} {e : mIns} (he : mlook (mcode j) pc = some e) (ht : mterm e = false) (hi : minv e = true) (ha : e.2.2.2.1 ≤ 990) (hc : mcallee E e st h = some (k9, as, rest)) (hf : mfits j k9 = true) (hcl : Cl E k9 as h v h')
    (k : Rn E ((j, e.1 + 3, lv, v.toList ++ rest), (h'.1, nc + h'.2.1, ns + h'.2.2)) S') : Rn E ((j, pc, lv, st), (h, nc, ns)) S' := by
  obtain ⟨S1, ⟨d1, n1, hr⟩, hv, rfl⟩ := hcl
  obtain ⟨d, n, hk⟩ := k
  cases d with
  | zero => cases hk
  | succ d =>
    refine ⟨max d1 d + 1, max n1 n + 1, ?_⟩
    show mrunF E (mexec E (max d1 d)) (max n1 n + 1) ((j, pc, lv, st), (h, nc, ns)) = some S'
    unfold mrunF
    dsimp only
    rw [he]
    dsimp only
    rw [if_neg (by rw [ht]; decide), if_pos hi, if_neg (by omega), hc]
    dsimp only
    rw [if_pos hf, mexec_up d1 (max d1 d) n1 (max n1 n) _ _ (by omega) (by omega) hr]
    dsimp only
    rw [hv]
    exact mexec_up (d + 1) (max d1 d + 1) n (max n1 n) _ _ (by omega) (by omega) hk
/-- an open run is a contract -/
theorem Rn.met {l : Launch} {D : va_G} {cy : Nat → ClassId} {E : mE} (hEw : mEw E) {k : Nat} {y : mMth} {q : Nat × Nat × Nat × Nat × Bool × Nat} {as : List Value} {h : List mO} {v : Option Value} {h' : mH} (hy : mmeth k = some y) (hq : mPos[k]? = some q) (hq1 : q.1 ≠ 99999) (hlen : (lg_sl as).length ≤ y.2.2.1) (hwa : wfL (E.length + h.length) as) (hwh : wfH E.length h) (hcl : Cl E k as h v h') (ad : Nat → Nat) (sz : Nat) :
    Met l y.1 (mws y) (mrm y h'.2.1 h'.2.2) (mPc D cy E ad as h sz) (mQc D cy E ad h sz h'.1 v) h'.2.1 h'.2.2 (va_A (mW cy ad E.length h) sz) := by
  obtain ⟨S1, ⟨d, n, hr⟩, hv, rfl⟩ := hcl
  exact mexec_ok hEw d n k y q as h S1 v hy hq hq1 hlen hwa hwh hr hv ad sz
end
section
/-! ===== a run that comes to an end of which P holds: rules, one an instruction; branches give two goals ===== -/
def To (E : mE) (S : mS) (P : mS → Prop) : Prop := ∃ S1 : mS, Rn E S S1 ∧ P S1
/-- what a call's end must be -/
def mEnd (v : Option Value) (h : mH) (S1 : mS) : Prop := mretv S1 = some v ∧ S1.2 = h
theorem Cl.of {E : mE} {k : Nat} {as : List Value} {h : List mO} {v : Option Value} {h' : mH} (t : To E ((k, 0, lv_args 0 as, []), (h, 0, 0)) (mEnd v h')) : Cl E k as h v h' := by
  obtain ⟨S1, h1, h2, h3⟩ := t
  exact ⟨S1, h1, h2, h3⟩
section TO
variable {E : mE} {P : mS → Prop} {j pc pc' : Nat} {lv lv' : mLv} {st st' : List Value} {h h' : mH} {e : mIns} {y : mMth}
theorem To.step {S S1 : mS} (hr : ∀ S' : mS, Rn E S1 S' → Rn E S S') (t : To E S1 P) : To E S P := by
  obtain ⟨S', h1, h2⟩ := t
  exact ⟨S', hr S' h1, h2⟩
theorem To.pure (he : mlook (mcode j) pc = some e) (ht : mterm e = false) (hi : minv e = false) (hy : mmeth j = some y) (hp : mpure y.2.2.1 e lv st = some (pc', lv', st')) (k : To E ((j, pc', lv', st'), h) P) : To E ((j, pc, lv, st), h) P := k.step fun _ hr => Rn.pure he ht hi hy hp hr
theorem To.heap (he : mlook (mcode j) pc = some e) (ht : mterm e = false) (hi : minv e = false) (hy : mmeth j = some y) (h0 : mpure y.2.2.1 e lv st = none) (hp : mheap E e st h = some (pc', st', h')) (k : To E ((j, pc', lv, st'), h') P) : To E ((j, pc, lv, st), h) P := k.step fun _ hr => Rn.heap he ht hi hy h0 hp hr
theorem To.spec (he : mlook (mcode j) pc = some e) (ht : mterm e = false) (hi : minv e = true) (ha : 990 < e.2.2.2.1) (hp : mspec j e st = some (pc', st')) (k : To E ((j, pc', lv, st'), h) P) : To E ((j, pc, lv, st), h) P := k.step fun _ hr => Rn.spec he ht hi ha hp hr
theorem To.call {k9 : Nat} {as rest : List Value} {h0 : List mO} {nc ns : Nat} {v : Option Value} {hA : mH} (he : mlook (mcode j) pc = some e) (ht : mterm e = false) (hi : minv e = true) (ha : e.2.2.2.1 ≤ 990) (hc : mcallee E e st h0 = some (k9, as, rest)) (hf : mfits j k9 = true) (hcl : Cl E k9 as h0 v hA) (hpc : e.1 + 3 = pc') (hst : v.toList ++ rest = st')
    (hH : (hA.1, nc + hA.2.1, ns + hA.2.2) = h') (k : To E ((j, pc', lv, st'), h') P) : To E ((j, pc, lv, st), (h0, nc, ns)) P := by
  subst hpc; subst hst; subst hH
  exact k.step fun _ hr => Rn.call he ht hi ha hc hf hcl hr
theorem To.term {S : mS} (he : mlook (mcode S.1.1) S.1.2.1 = some e) (ht : mterm e = true) (hP : P S) : To E S P := ⟨S, Rn.term he ht, hP⟩
end TO
end
section
/-! ===== rows of the kit's to-paste texts (NUMBERS, COUNTS) ===== -/
theorem fa_lt (a b : Int32) : a < b ↔ a.toInt < b.toInt := Int32.lt_iff_toInt_lt
theorem fa_le (a b : Int32) : a ≤ b ↔ a.toInt ≤ b.toInt := Int32.le_iff_toInt_le
theorem fa_eq (a b : Int32) : a = b ↔ a.toInt = b.toInt := Int32.toInt_inj.symm
theorem fb_rng (x : Int32) : -2147483648 ≤ x.toInt ∧ x.toInt < 2147483648 := by
  have h1 := Int32.le_toInt x
  have h2 := Int32.toInt_lt x
  omega
theorem fb_bmod {z : Int} (h1 : -2147483648 ≤ z) (h2 : z < 2147483648) : z.bmod (2 ^ 32) = z := by
  rw [Int.bmod_eq_of_le (by omega) (by omega)]
theorem fb_addI {x y : Int32} (h1 : -2147483648 ≤ x.toInt + y.toInt) (h2 : x.toInt + y.toInt < 2147483648) : (x + y).toInt = x.toInt + y.toInt := by
  rw [Int32.toInt_add, fb_bmod h1 h2]
theorem fb_subI {x y : Int32} (h1 : -2147483648 ≤ x.toInt - y.toInt) (h2 : x.toInt - y.toInt < 2147483648) : (x - y).toInt = x.toInt - y.toInt := by
  rw [Int32.toInt_sub, fb_bmod h1 h2]
theorem fb_mulI {x y : Int32} (h1 : -2147483648 ≤ x.toInt * y.toInt) (h2 : x.toInt * y.toInt < 2147483648) : (x * y).toInt = x.toInt * y.toInt := by
  rw [Int32.toInt_mul, fb_bmod h1 h2]
theorem fb_negI {x : Int32} (h : x.toInt ≠ -2147483648) : (-x).toInt = -x.toInt := by
  have := fb_rng x
  rw [Int32.toInt_neg, fb_bmod (by omega) (by omega)]
theorem fb_ofI {z : Int} (h1 : -2147483648 ≤ z) (h2 : z < 2147483648) : (Int32.ofInt z).toInt = z := by
  rw [Int32.toInt_ofInt, fb_bmod h1 h2]
theorem fb_asI (x : Int32) : Int32.ofInt x.toInt = x := Int32.ofInt_toInt x
end
section
/-! ===== the heap behind new Tallow() ===== -/
def wH0 : List mO := [.inr (6, [.ref 3, .ref 6, .ref 11, .ref 46, .ref 81, .ref 116, .int 0]),
  .inr (4, [.ref 4, .int 0]),
  .inr (1, [.ref 5]),
  .inl (0, 500, []),
  .inr (5, [.ref 7, .ref 9, .int 80]),
  .inr (1, [.ref 8]),
  .inl (0, 3, [(2, .int (-1)), (1, .int (-1)), (0, .int (-1))]),
  .inr (1, [.ref 10]),
  .inl (0, 20, []),
  .inr (3, [.ref 12, .ref 27, .ref 34, .ref 36, .ref 38, .ref 40, .ref 42, .ref 44, .int 0, .int 0, .int 0, .int 0, .int 0]),
  .inr (2, [.ref 13, .ref 15, .ref 17, .ref 19, .ref 21, .ref 23, .ref 25, .int 0, .int 0, .int 0, .int 0, .int 0, .int 0, .int 0]),
  .inr (1, [.ref 14]),
  .inl (0, 500, []),
  .inr (1, [.ref 16]),
  .inl (0, 501, []),
  .inr (1, [.ref 18]),
  .inl (0, 501, []),
  .inr (1, [.ref 20]),
  .inl (0, 501, []),
  .inr (1, [.ref 22]),
  .inl (0, 501, []),
  .inr (1, [.ref 24]),
  .inl (0, 60, []),
  .inr (1, [.ref 26]),
  .inl (0, 60, []),
  .inr (0, [.ref 28, .ref 30, .ref 32, .int 0]),
  .inr (1, [.ref 29]),
  .inl (0, 561, []),
  .inr (1, [.ref 31]),
  .inl (0, 561, []),
  .inr (1, [.ref 33]),
  .inl (0, 561, []),
  .inr (1, [.ref 35]),
  .inl (0, 60, []),
  .inr (1, [.ref 37]),
  .inl (0, 501, []),
  .inr (1, [.ref 39]),
  .inl (0, 501, []),
  .inr (1, [.ref 41]),
  .inl (0, 501, []),
  .inr (1, [.ref 43]),
  .inl (0, 20, []),
  .inr (1, [.ref 45]),
  .inl (0, 6, []),
  .inr (3, [.ref 47, .ref 62, .ref 69, .ref 71, .ref 73, .ref 75, .ref 77, .ref 79, .int 1, .int 0, .int 0, .int 0, .int 0]),
  .inr (2, [.ref 48, .ref 50, .ref 52, .ref 54, .ref 56, .ref 58, .ref 60, .int 0, .int 0, .int 0, .int 0, .int 0, .int 0, .int 0]),
  .inr (1, [.ref 49]),
  .inl (0, 500, []),
  .inr (1, [.ref 51]),
  .inl (0, 501, []),
  .inr (1, [.ref 53]),
  .inl (0, 501, []),
  .inr (1, [.ref 55]),
  .inl (0, 501, []),
  .inr (1, [.ref 57]),
  .inl (0, 501, []),
  .inr (1, [.ref 59]),
  .inl (0, 60, []),
  .inr (1, [.ref 61]),
  .inl (0, 60, []),
  .inr (0, [.ref 63, .ref 65, .ref 67, .int 0]),
  .inr (1, [.ref 64]),
  .inl (0, 561, []),
  .inr (1, [.ref 66]),
  .inl (0, 561, []),
  .inr (1, [.ref 68]),
  .inl (0, 561, []),
  .inr (1, [.ref 70]),
  .inl (0, 60, []),
  .inr (1, [.ref 72]),
  .inl (0, 501, []),
  .inr (1, [.ref 74]),
  .inl (0, 501, []),
  .inr (1, [.ref 76]),
  .inl (0, 501, []),
  .inr (1, [.ref 78]),
  .inl (0, 20, []),
  .inr (1, [.ref 80]),
  .inl (0, 6, []),
  .inr (3, [.ref 82, .ref 97, .ref 104, .ref 106, .ref 108, .ref 110, .ref 112, .ref 114, .int 2, .int 0, .int 0, .int 0, .int 0]),
  .inr (2, [.ref 83, .ref 85, .ref 87, .ref 89, .ref 91, .ref 93, .ref 95, .int 0, .int 0, .int 0, .int 0, .int 0, .int 0, .int 0]),
  .inr (1, [.ref 84]),
  .inl (0, 500, []),
  .inr (1, [.ref 86]),
  .inl (0, 501, []),
  .inr (1, [.ref 88]),
  .inl (0, 501, []),
  .inr (1, [.ref 90]),
  .inl (0, 501, []),
  .inr (1, [.ref 92]),
  .inl (0, 501, []),
  .inr (1, [.ref 94]),
  .inl (0, 60, []),
  .inr (1, [.ref 96]),
  .inl (0, 60, []),
  .inr (0, [.ref 98, .ref 100, .ref 102, .int 0]),
  .inr (1, [.ref 99]),
  .inl (0, 561, []),
  .inr (1, [.ref 101]),
  .inl (0, 561, []),
  .inr (1, [.ref 103]),
  .inl (0, 561, []),
  .inr (1, [.ref 105]),
  .inl (0, 60, []),
  .inr (1, [.ref 107]),
  .inl (0, 501, []),
  .inr (1, [.ref 109]),
  .inl (0, 501, []),
  .inr (1, [.ref 111]),
  .inl (0, 501, []),
  .inr (1, [.ref 113]),
  .inl (0, 20, []),
  .inr (1, [.ref 115]),
  .inl (0, 6, []),
  .inr (3, [.ref 117, .ref 132, .ref 139, .ref 141, .ref 143, .ref 145, .ref 147, .ref 149, .int 3, .int 0, .int 0, .int 0, .int 0]),
  .inr (2, [.ref 118, .ref 120, .ref 122, .ref 124, .ref 126, .ref 128, .ref 130, .int 0, .int 0, .int 0, .int 0, .int 0, .int 0, .int 0]),
  .inr (1, [.ref 119]),
  .inl (0, 500, []),
  .inr (1, [.ref 121]),
  .inl (0, 501, []),
  .inr (1, [.ref 123]),
  .inl (0, 501, []),
  .inr (1, [.ref 125]),
  .inl (0, 501, []),
  .inr (1, [.ref 127]),
  .inl (0, 501, []),
  .inr (1, [.ref 129]),
  .inl (0, 60, []),
  .inr (1, [.ref 131]),
  .inl (0, 60, []),
  .inr (0, [.ref 133, .ref 135, .ref 137, .int 0]),
  .inr (1, [.ref 134]),
  .inl (0, 561, []),
  .inr (1, [.ref 136]),
  .inl (0, 561, []),
  .inr (1, [.ref 138]),
  .inl (0, 561, []),
  .inr (1, [.ref 140]),
  .inl (0, 60, []),
  .inr (1, [.ref 142]),
  .inl (0, 501, []),
  .inr (1, [.ref 144]),
  .inl (0, 501, []),
  .inr (1, [.ref 146]),
  .inl (0, 501, []),
  .inr (1, [.ref 148]),
  .inl (0, 20, []),
  .inr (1, [.ref 150]),
  .inl (0, 6, [])]
end
section
/-! ===== the small machine seen through what things hold: ints as whole numbers, a heap that is a function of address and place ===== -/
/-- tag (0 an int, 1 a reference, 5 a long, 6 a double, 9 nothing), what it is -/
abbrev wV : Type := Nat × Int
/-- a store: what an int of the heap holds, where it is known -/
abbrev wSt : Type := Nat → Nat → Option Int
def gv (σ : wSt) (a b : Nat) : Int := (σ a b).getD 0
def kn (σ : wSt) (a b : Nat) : Prop := (σ a b).isSome = true
def wi (x : Int) : wV := (0, x)
def wr (a : Nat) : wV := (1, (a : Int))
def wl (x : Int) : wV := (5, x)
def wd (x : UInt64) : wV := (6, (x.toNat : Int))
def wx : wV := (9, 0)
/-- an int's range -/
abbrev wI (x : Int) : Prop := -2147483648 ≤ x ∧ x < 2147483648
def wR (a : wV) (v : Value) : Prop := match a.1 with
  | 0 => ∃ x : Int32, v = .int x ∧ x.toInt = a.2
  | 1 => ∃ r : Nat, v = .ref r ∧ (r : Int) = a.2
  | 5 => ∃ x : Int64, v = .long x ∧ x.toInt = a.2
  | 6 => ∃ x : UInt64, v = .double x ∧ (x.toNat : Int) = a.2
  | _ => False
theorem wR_i {n : Int} {v : Value} (h : wR (wi n) v) : ∃ x : Int32, v = .int x ∧ x.toInt = n := h
theorem wR_r {a : Nat} {v : Value} (h : wR (wr a) v) : v = .ref a := by
  obtain ⟨r, rfl, h2⟩ : ∃ r : Nat, v = .ref r ∧ (r : Int) = (a : Int) := h
  rw [Int.ofNat_inj.mp h2]
theorem wR_l {n : Int} {v : Value} (h : wR (wl n) v) : ∃ x : Int64, v = .long x ∧ x.toInt = n := h
theorem wR_d {n : UInt64} {v : Value} (h : wR (wd n) v) : v = .double n := by
  obtain ⟨r, rfl, h2⟩ : ∃ r : UInt64, v = .double r ∧ (r.toNat : Int) = (n.toNat : Int) := h
  rw [UInt64.toNat_inj.mp (Int.ofNat_inj.mp h2)]
theorem wR_mi (x : Int32) : wR (wi x.toInt) (.int x) := ⟨x, rfl, rfl⟩
theorem wR_mi2 {n : Int} {x : Int32} (h : x.toInt = n) : wR (wi n) (.int x) := ⟨x, rfl, h⟩
theorem wR_mr (a : Nat) : wR (wr a) (.ref a) := ⟨a, rfl, rfl⟩
theorem wR_ml {n : Int} {x : Int64} (h : x.toInt = n) : wR (wl n) (.long x) := ⟨x, rfl, h⟩
theorem wR_md (x : UInt64) : wR (wd x) (.double x) := ⟨x, rfl, rfl⟩
theorem wR_rng {n : Int} {v : Value} (h : wR (wi n) v) : wI n := by
  obtain ⟨x, -, rfl⟩ := wR_i h
  have h1 := fb_rng x
  exact ⟨by omega, by omega⟩
theorem wR_cat {a : wV} {v : Value} (h : wR a v) : a.1 ≤ 6 ∧ (a.1 ≤ 4 → v.category = 1) ∧ (5 ≤ a.1 → v.category = 2) := by
  obtain ⟨t, x⟩ := a
  match t, h with
  | 0, h => obtain ⟨y, rfl, -⟩ := h; exact ⟨by simp, fun _ => rfl, fun h9 => by simp at h9⟩
  | 1, h => obtain ⟨y, rfl, -⟩ := h; exact ⟨by simp, fun _ => rfl, fun h9 => by simp at h9⟩
  | 2, h => exact (show False from h).elim
  | 3, h => exact (show False from h).elim
  | 4, h => exact (show False from h).elim
  | 5, h => obtain ⟨y, rfl, -⟩ := h; exact ⟨by simp, fun h9 => by simp at h9, fun _ => rfl⟩
  | 6, h => obtain ⟨y, rfl, -⟩ := h; exact ⟨by simp, fun h9 => by simp at h9, fun _ => rfl⟩
  | n + 7, h => exact (show False from h).elim
/-! the stack -/
def wS : List wV → List Value → Prop
  | [], [] => True
  | a :: r, v :: s => wR a v ∧ wS r s
  | _, _ => False
theorem wS_c {a : wV} {r : List wV} {sc : List Value} (h : wS (a :: r) sc) : ∃ (v : Value) (rc : List Value), sc = v :: rc ∧ wR a v ∧ wS r rc := by
  cases sc with
  | nil => exact (show False from h).elim
  | cons v rc => exact ⟨v, rc, rfl, h.1, h.2⟩
theorem wS_n {sc : List Value} (h : wS [] sc) : sc = [] := by
  cases sc with
  | nil => rfl
  | cons v rc => exact (show False from h).elim
theorem wS_len : ∀ {st : List wV} {sc : List Value}, wS st sc → sc.length = st.length := by
  intro st
  induction st with
  | nil => intro sc h; rw [wS_n h]; rfl
  | cons a r ih =>
    intro sc h
    obtain ⟨v, rc, rfl, -, h2⟩ := wS_c h
    rw [List.length_cons, List.length_cons, ih h2]
theorem wS_app : ∀ {a b : List wV} {sc : List Value}, wS (a ++ b) sc → ∃ x y : List Value, sc = x ++ y ∧ wS a x ∧ wS b y := by
  intro a
  induction a with
  | nil => intro b sc h; exact ⟨[], sc, rfl, trivial, h⟩
  | cons p a ih =>
    intro b sc h
    obtain ⟨v, rc, rfl, h1, h2⟩ := wS_c h
    obtain ⟨x, y, rfl, h3, h4⟩ := ih h2
    exact ⟨v :: x, y, rfl, ⟨h1, h3⟩, h4⟩
theorem wS_join : ∀ {a b : List wV} {x y : List Value}, wS a x → wS b y → wS (a ++ b) (x ++ y) := by
  intro a
  induction a with
  | nil => intro b x y h1 h2; rw [wS_n h1]; exact h2
  | cons p a ih =>
    intro b x y h1 h2
    obtain ⟨v, rc, rfl, h3, h4⟩ := wS_c h1
    exact ⟨h3, ih h4 h2⟩
theorem wS_rev : ∀ {a : List wV} {x : List Value}, wS a x → wS a.reverse x.reverse := by
  intro a
  induction a with
  | nil => intro x h; rw [wS_n h]; trivial
  | cons p a ih =>
    intro x h
    obtain ⟨v, rc, rfl, h3, h4⟩ := wS_c h
    rw [List.reverse_cons, List.reverse_cons]
    exact wS_join (ih h4) ⟨h3, trivial⟩
theorem wS_one {a : wV} {v : Value} (h : wR a v) : wS [a] [v] := ⟨h, trivial⟩
/-- a result, if there is one -/
def wO (a : Option wV) (v : Option Value) : Prop := match a, v with
  | none, none => True
  | some x, some y => wR x y
  | _, _ => False
theorem wO_list {a : Option wV} {v : Option Value} (h : wO a v) : wS a.toList v.toList := by
  cases a with
  | none => cases v with
    | none => trivial
    | some y => exact (show False from h).elim
  | some x => cases v with
    | none => exact (show False from h).elim
    | some y => exact ⟨h, trivial⟩
theorem cat_le2 (v : Value) : v.category ≤ 2 := by cases v <;> simp [Value.category]
theorem mwords_le2 : ∀ (sc : List Value), mwords sc ≤ 2 * sc.length := by
  intro sc
  induction sc with
  | nil => exact Nat.le_refl _
  | cons v r ih =>
    have h2 := cat_le2 v
    unfold mwords at ih ⊢
    rw [List.map_cons, List.sum_cons, List.length_cons]
    omega
/-! locals -/
def wLr (l : List wV) (lv : mLv) : Prop := ∀ (i : Nat) (a : wV), l[i]? = some a → a.1 ≤ 6 → ∃ v, mlv lv i = some v ∧ wR a v
/-- the local ahead of i has not two places -/
def wnc (l : List wV) (i : Nat) : Bool := match i with
  | 0 => true
  | k + 1 => match l[k]? with
    | some a => decide (a.1 ≤ 4) || decide (7 ≤ a.1)
    | none => true
theorem wmlv_filter {p : Nat × Value → Bool} : ∀ {l : mLv} {j : Nat} {u : Value}, mlv l j = some u → p (j, u) = true → mlv (l.filter p) j = some u := by
  intro l
  induction l with
  | nil => intro j u h; cases h
  | cons q r ih =>
    intro j u h hp
    simp only [mlv] at h
    by_cases hq : q.1 = j
    · rw [if_pos hq] at h
      cases h
      have e : q = (j, q.2) := by rw [← hq]
      rw [List.filter_cons, if_pos (by rw [e]; exact hp)]
      simp only [mlv]
      rw [if_pos hq]
    · rw [if_neg hq] at h
      rw [List.filter_cons]
      split
      · simp only [mlv]
        rw [if_neg hq]
        exact ih h hp
      · exact ih h hp
theorem wmlv_set1 {l : mLv} {i j : Nat} {v u : Value} (h : mlv l j = some u) (hj : j ≠ i) (hc : ¬ (j + 1 = i ∧ u.category = 2)) : mlv (mset1 l i v) j = some u := by
  unfold mset1
  simp only [mlv]
  rw [if_neg (fun e => hj e.symm)]
  refine wmlv_filter h ?_
  by_cases h2 : j + 1 = i
  · have h3 : ¬ u.category = 2 := fun e => hc ⟨h2, e⟩
    simp [hj, h3]
  · simp [hj, h2]
theorem wmlv_set2 {l : mLv} {i j : Nat} {v u : Value} (h : mlv l j = some u) (hj : j ≠ i) (hj1 : j ≠ i + 1) (hc : ¬ (j + 1 = i ∧ u.category = 2)) : mlv (mset2 l i v) j = some u := by
  unfold mset2
  simp only [mlv]
  rw [if_neg (fun e => hj e.symm)]
  refine wmlv_filter h ?_
  by_cases h2 : j + 1 = i
  · have h3 : ¬ u.category = 2 := fun e => hc ⟨h2, e⟩
    simp [hj, hj1, h3]
  · simp [hj, hj1, h2]
theorem wnc_ok {l : List wV} {i j : Nat} {a : wV} {u : Value} (hp : wnc l i = true) (hj : j + 1 = i) (ha : l[j]? = some a) (h6 : a.1 ≤ 6) (hr : wR a u) : ¬ u.category = 2 := by
  subst hj
  unfold wnc at hp
  dsimp only at hp
  rw [ha] at hp
  dsimp only at hp
  simp only [Bool.or_eq_true, decide_eq_true_eq] at hp
  rw [(wR_cat hr).2.1 (by omega)]
  decide
theorem wLr_set1 {l : List wV} {lv : mLv} {i : Nat} {a : wV} {v : Value} (h : wLr l lv) (ha : wR a v) (hp : wnc l i = true) : wLr (l.set i a) (mset1 lv i v) := by
  intro j b hb h6
  by_cases e : j = i
  · subst e
    rw [List.getElem?_set] at hb
    rw [if_pos rfl] at hb
    split at hb
    · cases hb
      exact ⟨v, by simp [mset1, mlv], ha⟩
    · cases hb
  · rw [List.getElem?_set_ne (fun e9 => e e9.symm)] at hb
    obtain ⟨u, hu, hr⟩ := h j b hb h6
    exact ⟨u, wmlv_set1 hu e (fun z => wnc_ok hp z.1 hb h6 hr z.2), hr⟩
theorem wLr_set2 {l : List wV} {lv : mLv} {i : Nat} {a : wV} {v : Value} (h : wLr l lv) (ha : wR a v) (hp : wnc l i = true) : wLr ((l.set i a).set (i + 1) wx) (mset2 lv i v) := by
  intro j b hb h6
  by_cases e2 : j = i + 1
  · subst e2
    rw [List.getElem?_set] at hb
    rw [if_pos rfl] at hb
    split at hb
    · cases hb
      exact absurd h6 (by decide)
    · cases hb
  · rw [List.getElem?_set_ne (fun e9 => e2 e9.symm)] at hb
    by_cases e : j = i
    · subst e
      rw [List.getElem?_set] at hb
      rw [if_pos rfl] at hb
      split at hb
      · cases hb
        exact ⟨v, by simp [mset2, mlv], ha⟩
      · cases hb
    · rw [List.getElem?_set_ne (fun e9 => e e9.symm)] at hb
      obtain ⟨u, hu, hr⟩ := h j b hb h6
      exact ⟨u, wmlv_set2 hu e e2 (fun z => wnc_ok hp z.1 hb h6 hr z.2), hr⟩
/-- locals at a method's entry -/
def went : Nat → List wV → List wV
  | n, [] => List.replicate n wx
  | n, a :: r => if 5 ≤ a.1 then a :: wx :: went (n - 2) r else a :: went (n - 1) r
theorem went_ok : ∀ (as : List wV) (asc : List Value) (n i : Nat), wS as asc → ∀ (j : Nat) (a : wV), (went n as)[j]? = some a → a.1 ≤ 6 → ∃ v, mlv (lv_args i asc) (i + j) = some v ∧ wR a v := by
  intro as
  induction as with
  | nil =>
    intro asc n i h j a ha h6
    unfold went at ha
    rw [List.getElem?_replicate] at ha
    split at ha
    · cases ha; exact absurd h6 (by decide)
    · cases ha
  | cons p r ih =>
    intro asc n i h j a ha h6
    obtain ⟨v, rc, rfl, hv, hr⟩ := wS_c h
    have hc := wR_cat hv
    have e2 : lv_args i (v :: rc) = (i, v) :: lv_args (if v.category = 2 then i + 2 else i + 1) rc := rfl
    rw [e2]
    simp only [mlv]
    unfold went at ha
    by_cases h5 : 5 ≤ p.1
    · rw [if_pos h5] at ha
      rw [if_pos (hc.2.2 h5)]
      match j, ha with
      | 0, ha => cases ha; rw [if_pos (by omega)]; exact ⟨v, rfl, hv⟩
      | 1, ha => cases ha; exact absurd h6 (by decide)
      | j + 2, ha =>
        rw [if_neg (by omega)]
        have h9 := ih rc (n - 2) (i + 2) hr j a (by simpa using ha) h6
        rwa [show i + 2 + j = i + (j + 2) by omega] at h9
    · rw [if_neg h5] at ha
      rw [if_neg (show ¬ v.category = 2 by rw [hc.2.1 (by omega)]; decide)]
      match j, ha with
      | 0, ha => cases ha; rw [if_pos (by omega)]; exact ⟨v, rfl, hv⟩
      | j + 1, ha =>
        rw [if_neg (by omega)]
        have h9 := ih rc (n - 1) (i + 1) hr j a (by simpa using ha) h6
        rwa [show i + 1 + j = i + (j + 1) by omega] at h9
theorem went_lr {as : List wV} {asc : List Value} (n : Nat) (h : wS as asc) : wLr (went n as) (lv_args 0 asc) := fun j a ha h6 => by
  have h9 := went_ok as asc n 0 h j a ha h6
  rwa [Nat.zero_add] at h9
def wcats : List wV → Nat
  | [] => 0
  | a :: r => (if 5 ≤ a.1 then 2 else 1) + wcats r
theorem wcats_ok : ∀ (as : List wV) (asc : List Value), wS as asc → (lg_sl asc).length = wcats as := by
  intro as
  induction as with
  | nil => intro asc h; rw [wS_n h]; rfl
  | cons v r ih =>
    intro asc h
    obtain ⟨vv, rc, rfl, hv, hr⟩ := wS_c h
    have hc := wR_cat hv
    have e2 : lg_sl (vv :: rc) = (if vv.category = 2 then [.val vv, .second] else [.val vv]) ++ lg_sl rc := by simp [lg_sl]
    rw [e2, List.length_append, ih rc hr]
    show _ = (if 5 ≤ v.1 then 2 else 1) + wcats r
    by_cases h5 : 5 ≤ v.1
    · rw [if_pos h5, if_pos (hc.2.2 h5)]; rfl
    · rw [if_neg h5, if_neg (by rw [hc.2.1 (by omega)]; decide)]; rfl
/-! the heap: shape as at the boot, ints whatever they are -/
def wFr (σ : wSt) (a b : Nat) (v0 : Value) (v : Option Value) : Prop := match v0 with
  | .ref r => v = some (.ref r)
  | .int _ => ∃ x : Int32, v = some (.int x) ∧ (kn σ a b → x.toInt = gv σ a b)
  | _ => True
def wOr (σ : wSt) (a : Nat) (o0 : mO) (o : Option mO) : Prop := match o0 with
  | .inr (c, f0) => ∃ fs : List Value, o = some (.inr (c, fs)) ∧ fs.length = f0.length ∧ ∀ (b : Nat) (v0 : Value), f0[b]? = some v0 → wFr σ a b v0 fs[b]?
  | .inl (t, n, _) => ∃ u, o = some (.inl (t, n, u)) ∧ ∀ j, j < n → kn σ a j → (mupI u j).toInt = gv σ a j
def Wr (σ : wSt) (h : List mO) : Prop := h.length = wH0.length ∧ ∀ (i : Nat) (o0 : mO), wH0[i]? = some o0 → wOr σ (2 + i) o0 h[i]?
/-- the class of the object at an address -/
def wCls (a : Nat) : Option Nat := if a < 2 then none else (match wH0[a - 2]? with
  | some (.inr o) => some o.1
  | _ => none)
def wRef (c a b : Nat) : Option Nat := if a < 2 then none else (match wH0[a - 2]? with
  | some (.inr o) => if o.1 = c then (match o.2[b]? with
    | some (.ref r) => some r
    | _ => none) else none
  | _ => none)
def wInt (c a b : Nat) : Bool := if a < 2 then false else (match wH0[a - 2]? with
  | some (.inr o) => if o.1 = c then (match o.2[b]? with
    | some (.int _) => true
    | _ => false) else false
  | _ => false)
/-- the length of the row of ints at an address -/
def wRow (a : Nat) : Option Nat := if a < 2 then none else (match wH0[a - 2]? with
  | some (.inl (0, n, _)) => some n
  | _ => none)
def wup (σ : wSt) (a b : Nat) (x : Int) : wSt := fun p q => if p = a ∧ q = b then some x else σ p q
theorem wup_eq {σ : wSt} {a b : Nat} {x : Int} : wup σ a b x a b = some x := if_pos ⟨rfl, rfl⟩
theorem wup_ne {σ : wSt} {a b p q : Nat} {x : Int} (h : ¬ (p = a ∧ q = b)) : wup σ a b x p q = σ p q := if_neg h
theorem gv_eq {σ : wSt} {a b : Nat} {x : Int} : gv (wup σ a b x) a b = x := by
  unfold gv
  rw [wup_eq]
  rfl
theorem gv_ne {σ : wSt} {a b p q : Nat} {x : Int} (h : ¬ (p = a ∧ q = b)) : gv (wup σ a b x) p q = gv σ p q := by
  unfold gv
  rw [wup_ne h]
theorem kn_eq {σ : wSt} {a b : Nat} {x : Int} : kn (wup σ a b x) a b := by
  unfold kn
  rw [wup_eq]
  rfl
theorem kn_ne {σ : wSt} {a b p q : Nat} {x : Int} (h : ¬ (p = a ∧ q = b)) : kn (wup σ a b x) p q ↔ kn σ p q := by
  unfold kn
  rw [wup_ne h]
theorem kn_up {σ : wSt} {a b p q : Nat} {x : Int} (h : kn σ p q) : kn (wup σ a b x) p q := by
  by_cases e : p = a ∧ q = b
  · rw [e.1, e.2]; exact kn_eq
  · exact (kn_ne e).mpr h
section WH
variable {E : mE} {σ : wSt} {h : List mO} {a b c r n : Nat}
theorem wCls_get (hE : E.length = 2) (hw : Wr σ h) (hc : wCls a = some c) : ∃ fs, mobjE E h a = some (c, fs) := by
  unfold wCls at hc
  split at hc
  · cases hc
  · rename_i h2
    split at hc
    · rename_i o ho
      obtain ⟨c0, f0⟩ := o
      cases hc
      obtain ⟨fs, h3, -⟩ := hw.2 _ _ ho
      refine ⟨fs, ?_⟩
      unfold mobjE
      rw [hE, if_neg h2, h3]
    · cases hc
theorem wRef_get (hE : E.length = 2) (hw : Wr σ h) (hc : wRef c a b = some r) : ∃ fs, mobjE E h a = some (c, fs) ∧ fs[b]? = some (.ref r) := by
  unfold wRef at hc
  split at hc
  · cases hc
  · rename_i h2
    split at hc
    · rename_i o ho
      obtain ⟨c0, f0⟩ := o
      split at hc
      · rename_i e
        dsimp only at e
        subst e
        split at hc
        · rename_i r2 hf
          cases hc
          obtain ⟨fs, h3, -, h5⟩ := hw.2 _ _ ho
          refine ⟨fs, ?_, h5 b _ hf⟩
          unfold mobjE
          rw [hE, if_neg h2, h3]
        · cases hc
      · cases hc
    · cases hc
theorem wInt_at (hw : Wr σ h) (hc : wInt c a b = true) : ¬ a < 2 ∧ ∃ (fs : List Value) (x : Int32), h[a - 2]? = some (.inr (c, fs)) ∧ fs[b]? = some (.int x) ∧ (kn σ a b → x.toInt = gv σ a b) := by
  unfold wInt at hc
  split at hc
  · cases hc
  · rename_i h2
    split at hc
    · rename_i o ho
      obtain ⟨c0, f0⟩ := o
      split at hc
      · rename_i e
        dsimp only at e
        subst e
        split at hc
        · rename_i r2 hf
          obtain ⟨fs, h3, -, h5⟩ := hw.2 _ _ ho
          obtain ⟨x, h6, h7⟩ := h5 b _ hf
          rw [show 2 + (a - 2) = a by omega] at h7
          exact ⟨h2, fs, x, h3, h6, h7⟩
        · cases hc
      · cases hc
    · cases hc
theorem wInt_get (hE : E.length = 2) (hw : Wr σ h) (hc : wInt c a b = true) : ∃ (fs : List Value) (x : Int32), mobjE E h a = some (c, fs) ∧ fs[b]? = some (.int x) ∧ (kn σ a b → x.toInt = gv σ a b) := by
  obtain ⟨h2, fs, x, h3, h4, h5⟩ := wInt_at hw hc
  refine ⟨fs, x, ?_, h4, h5⟩
  unfold mobjE
  rw [hE, if_neg h2, h3]
theorem wRow_at (hw : Wr σ h) (hc : wRow a = some n) : ¬ a < 2 ∧ ∃ u, h[a - 2]? = some (.inl (0, n, u)) ∧ ∀ j, j < n → kn σ a j → (mupI u j).toInt = gv σ a j := by
  unfold wRow at hc
  split at hc
  · cases hc
  · rename_i h2
    split at hc
    · rename_i n0 u0 ho
      cases hc
      obtain ⟨u, h3, h4⟩ := hw.2 _ _ ho
      rw [show 2 + (a - 2) = a by omega] at h4
      exact ⟨h2, u, h3, h4⟩
    · cases hc
theorem wRow_get (hE : E.length = 2) (hw : Wr σ h) (hc : wRow a = some n) : ∃ u, mrow E.length 0 h a = some (n, u) ∧ ∀ j, j < n → kn σ a j → (mupI u j).toInt = gv σ a j := by
  obtain ⟨h2, u, h3, h4⟩ := wRow_at hw hc
  refine ⟨u, ?_, h4⟩
  unfold mrow mget
  rw [hE, if_neg h2, h3]
  exact if_pos rfl
/-- an int is written -/
theorem Wr_put (hw : Wr σ h) {fs : List Value} {x : Int32} (h2 : ¬ a < 2) (h3 : h[a - 2]? = some (.inr (c, fs))) (hb : wInt c a b = true) : Wr (wup σ a b x.toInt) (h.set (a - 2) (.inr (c, fs.set b (.int x)))) := by
  refine ⟨by rw [List.length_set]; exact hw.1, fun i o0 ho => ?_⟩
  have h5 := hw.2 i o0 ho
  by_cases e : a - 2 = i
  · subst e
    rw [List.getElem?_set, if_pos rfl, if_pos (List.getElem?_eq_some_iff.mp h3).1]
    rw [show 2 + (a - 2) = a by omega] at h5 ⊢
    cases o0 with
    | inl z =>
      obtain ⟨t, n0, u0⟩ := z
      obtain ⟨u, h6, -⟩ := h5
      rw [h3] at h6
      cases h6
    | inr z =>
      obtain ⟨c0, f0⟩ := z
      obtain ⟨fs2, h6, h7, h8⟩ := h5
      rw [h3] at h6
      cases h6
      refine ⟨fs.set b (.int x), rfl, by rw [List.length_set]; exact h7, fun b2 v0 hv => ?_⟩
      have h9 := h8 b2 v0 hv
      by_cases eb : b = b2
      · subst eb
        have hlt : b < fs.length := by rw [h7]; exact (List.getElem?_eq_some_iff.mp hv).1
        rw [List.getElem?_set, if_pos rfl, if_pos hlt]
        unfold wInt at hb
        rw [if_neg h2, ho] at hb
        dsimp only at hb
        rw [if_pos rfl, hv] at hb
        cases v0
        case int y => exact ⟨x, rfl, fun _ => gv_eq.symm⟩
        all_goals cases hb
      · rw [List.getElem?_set_ne eb]
        unfold wFr at h9 ⊢
        split at h9
        · exact h9
        · obtain ⟨z, h10, h11⟩ := h9
          exact ⟨z, h10, fun hk => by
            rw [gv_ne (fun e9 => eb e9.2.symm)]
            exact h11 ((kn_ne (fun e9 => eb e9.2.symm)).mp hk)⟩
        · trivial
  · rw [List.getElem?_set_ne e]
    have hne : ∀ q : Nat, ¬ (2 + i = a ∧ q = b) := fun q e9 => e (by omega)
    unfold wOr at h5 ⊢
    split at h5
    · obtain ⟨fs2, h6, h7, h8⟩ := h5
      refine ⟨fs2, h6, h7, fun b2 v0 hv => ?_⟩
      have h9 := h8 b2 v0 hv
      unfold wFr at h9 ⊢
      split at h9
      · exact h9
      · obtain ⟨z, h10, h11⟩ := h9
        exact ⟨z, h10, fun hk => by
          rw [gv_ne (hne _)]
          exact h11 ((kn_ne (hne _)).mp hk)⟩
      · trivial
    · obtain ⟨u, h6, h7⟩ := h5
      exact ⟨u, h6, fun j hj hk => by
        rw [gv_ne (hne _)]
        exact h7 j hj ((kn_ne (hne _)).mp hk)⟩
theorem Wr_row (hw : Wr σ h) {u : List (Nat × Value)} {x : Int32} {i : Nat} (h2 : ¬ a < 2) (h3 : h[a - 2]? = some (.inl (0, n, u))) : Wr (wup σ a i x.toInt) (h.set (a - 2) (.inl (0, n, (i, .int x) :: u))) := by
  refine ⟨by rw [List.length_set]; exact hw.1, fun k o0 ho => ?_⟩
  have h5 := hw.2 k o0 ho
  by_cases e : a - 2 = k
  · subst e
    rw [List.getElem?_set, if_pos rfl, if_pos (List.getElem?_eq_some_iff.mp h3).1]
    rw [show 2 + (a - 2) = a by omega] at h5 ⊢
    cases o0 with
    | inr z =>
      obtain ⟨c0, f0⟩ := z
      obtain ⟨fs2, h6, -⟩ := h5
      rw [h3] at h6
      cases h6
    | inl z =>
      obtain ⟨t, n0, u0⟩ := z
      obtain ⟨u2, h6, h7⟩ := h5
      rw [h3] at h6
      cases h6
      refine ⟨_, rfl, fun j hj hk => ?_⟩
      by_cases ej : i = j
      · subst ej
        rw [gv_eq]
        simp [mupI, mup]
      · rw [gv_ne (fun e9 => ej e9.2.symm), ← h7 j hj ((kn_ne (fun e9 => ej e9.2.symm)).mp hk)]
        simp [mupI, mup, ej]
  · rw [List.getElem?_set_ne e]
    have hne : ∀ q : Nat, ¬ (2 + k = a ∧ q = i) := fun q e9 => e (by omega)
    unfold wOr at h5 ⊢
    split at h5
    · obtain ⟨fs2, h6, h7, h8⟩ := h5
      refine ⟨fs2, h6, h7, fun b2 v0 hv => ?_⟩
      have h9 := h8 b2 v0 hv
      unfold wFr at h9 ⊢
      split at h9
      · exact h9
      · obtain ⟨z, h10, h11⟩ := h9
        exact ⟨z, h10, fun hk => by
          rw [gv_ne (hne _)]
          exact h11 ((kn_ne (hne _)).mp hk)⟩
      · trivial
    · obtain ⟨u2, h6, h7⟩ := h5
      exact ⟨u2, h6, fun j hj hk => by
        rw [gv_ne (hne _)]
        exact h7 j hj ((kn_ne (hne _)).mp hk)⟩
/-- τ knows all that σ knows -/
def Sub (σ τ : wSt) : Prop := ∀ a b, kn σ a b → kn τ a b ∧ gv σ a b = gv τ a b
theorem Sub.rf {σ : wSt} : Sub σ σ := fun _ _ h => ⟨h, rfl⟩
theorem Sub.tr {σ τ ρ : wSt} (h1 : Sub σ τ) (h2 : Sub τ ρ) : Sub σ ρ := fun a b h => by
  obtain ⟨h3, h4⟩ := h1 a b h
  obtain ⟨h5, h6⟩ := h2 a b h3
  exact ⟨h5, h4.trans h6⟩
theorem Wr.sub {σ τ : wSt} {h : List mO} (hs : Sub σ τ) (hw : Wr τ h) : Wr σ h := by
  refine ⟨hw.1, fun i o0 ho => ?_⟩
  have h5 := hw.2 i o0 ho
  unfold wOr at h5 ⊢
  split at h5
  · obtain ⟨fs2, h6, h7, h8⟩ := h5
    refine ⟨fs2, h6, h7, fun b2 v0 hv => ?_⟩
    have h9 := h8 b2 v0 hv
    unfold wFr at h9 ⊢
    split at h9
    · exact h9
    · obtain ⟨z, h10, h11⟩ := h9
      exact ⟨z, h10, fun hk => by
        obtain ⟨k1, k2⟩ := hs _ _ hk
        rw [k2]
        exact h11 k1⟩
    · trivial
  · obtain ⟨u2, h6, h7⟩ := h5
    exact ⟨u2, h6, fun j hj hk => by
      obtain ⟨k1, k2⟩ := hs _ _ hk
      rw [k2]
      exact h7 j hj k1⟩
/-- what two stores know of one heap is the same -/
theorem Wr.int {σ τ : wSt} {h : List mO} {a b c : Nat} (h1 : Wr σ h) (h2 : Wr τ h) (hb : wInt c a b = true) (k1 : kn σ a b) (k2 : kn τ a b) : gv σ a b = gv τ a b := by
  obtain ⟨-, fs, x, e1, e2, e3⟩ := wInt_at h1 hb
  obtain ⟨-, fs', x', e4, e5, e6⟩ := wInt_at h2 hb
  rw [e1] at e4
  cases e4
  rw [e2] at e5
  cases e5
  rw [← e3 k1, ← e6 k2]
theorem Wr.rowv {σ τ : wSt} {h : List mO} {a n j : Nat} (h1 : Wr σ h) (h2 : Wr τ h) (hb : wRow a = some n) (hj : j < n) (k1 : kn σ a j) (k2 : kn τ a j) : gv σ a j = gv τ a j := by
  obtain ⟨-, u, e1, e3⟩ := wRow_at h1 hb
  obtain ⟨-, u', e4, e6⟩ := wRow_at h2 hb
  rw [e1] at e4
  cases e4
  rw [← e3 j hj k1, ← e6 j hj k2]
end WH
end
section
/-! ===== what a place leads to, seen so: rules, one an instruction; what comes out is the same from every heap that the store speaks of ===== -/
def wE (E : mE) : Prop := E.length = 2 ∧ ∃ f : Nat → Int32, E[1]? = some (.inl (0, 13, .inl f))
/-- the row of an outer thing -/
def wD (E : mE) (k : Nat) : Int := match (E[1]? : Option mX) with
  | some (Sum.inl (_, _, Sum.inl f)) => (f k).toInt
  | _ => 0
/-- from this place the method comes to its end, with an answer and things of which P holds; it makes nothing -/
def At (E : mE) (j pc : Nat) (l st : List wV) (σ : wSt) (P : Option wV → wSt → Prop) : Prop := ∀ (lv : mLv) (sc : List Value) (h : List mO) (nc ns : Nat), wLr l lv → wS st sc → Wr σ h → To E ((j, pc, lv, sc), (h, nc, ns)) (fun S1 => ∃ (vo : Option wV) (v : Option Value) (σ' : wSt), mretv S1 = some v ∧ wO vo v ∧ Wr σ' S1.2.1 ∧ S1.2.2 = (nc, ns) ∧ P vo σ')
/-- a call comes back, with an answer and things of which Q holds; it makes nothing -/
def F1 (E : mE) (k : Nat) (as : List wV) (σ : wSt) (Q : Option wV → wSt → Prop) : Prop := ∀ (asc : List Value) (h : List mO), wS as asc → Wr σ h → ∃ (vo : Option wV) (v : Option Value) (h' : List mO) (σ' : wSt), Cl E k asc h v (h', 0, 0) ∧ wO vo v ∧ Wr σ' h' ∧ Q vo σ'
theorem F1.of {E : mE} {k nL : Nat} {as : List wV} {σ : wSt} {Q : Option wV → wSt → Prop} (hA : At E k 0 (went nL as) [] σ Q) : F1 E k as σ Q := by
  intro asc h h1 h2
  obtain ⟨S1, r1, vo, v, σ', r2, r3, r4, r5, r6⟩ := hA (lv_args 0 asc) [] h 0 0 (went_lr nL h1) trivial h2
  refine ⟨vo, v, S1.2.1, σ', ⟨S1, r1, r2, ?_⟩, r3, r4, r6⟩
  rw [← r5]
theorem At.mono {E : mE} {j pc : Nat} {l st : List wV} {σ : wSt} {P P' : Option wV → wSt → Prop} (h : At E j pc l st σ P) (hP : ∀ vo s, P vo s → P' vo s) : At E j pc l st σ P' := by
  intro lv sc hh nc ns h1 h2 h3
  obtain ⟨S1, r1, vo, v, σ', r2, r3, r4, r5, r6⟩ := h lv sc hh nc ns h1 h2 h3
  exact ⟨S1, r1, vo, v, σ', r2, r3, r4, r5, hP _ _ r6⟩
theorem F1.mono {E : mE} {k : Nat} {as : List wV} {σ : wSt} {Q Q' : Option wV → wSt → Prop} (h : F1 E k as σ Q) (hP : ∀ vo s, Q vo s → Q' vo s) : F1 E k as σ Q' := by
  intro asc hh h1 h2
  obtain ⟨vo, v, h', σ', r1, r2, r3, r4⟩ := h asc hh h1 h2
  exact ⟨vo, v, h', σ', r1, r2, r3, hP _ _ r4⟩
/-- exactly this comes out -/
def Ax (E : mE) (j pc : Nat) (l st : List wV) (σ : wSt) (vo : Option wV) (σ' : wSt) : Prop := At E j pc l st σ (fun v s => v = vo ∧ s = σ')
def Fx (E : mE) (k : Nat) (as : List wV) (σ : wSt) (vo : Option wV) (σ' : wSt) : Prop := F1 E k as σ (fun v s => v = vo ∧ s = σ')
/-- such things there are -/
def Ok (l st : List wV) (σ : wSt) : Prop := (∃ lv, wLr l lv) ∧ (∃ sc, wS st sc) ∧ ∃ h, Wr σ h
/-- from this place the method comes to its end: the answer and the store behind it are the same for every heap that the store speaks of; P holds of them -/
def Bt (E : mE) (j pc : Nat) (l st : List wV) (σ : wSt) (P : Option wV → wSt → Prop) : Prop := Ok l st σ → ∃ (vo : Option wV) (σ' : wSt), P vo σ' ∧ Ax E j pc l st σ vo σ'
/-- a call, so -/
def Fn (E : mE) (k : Nat) (as : List wV) (σ : wSt) (Q : Option wV → wSt → Prop) : Prop := Ok [] as σ → ∃ (vo : Option wV) (σ' : wSt), Q vo σ' ∧ Fx E k as σ vo σ'
/-- .. with this answer, and things as they were -/
def Gv (E : mE) (k : Nat) (as : List wV) (σ : wSt) (v : wV) : Prop := Fn E k as σ (fun vo s => vo = some v ∧ σ = s)
/-- .. without an answer, with these things -/
def Mv (E : mE) (k : Nat) (as : List wV) (σ σ' : wSt) : Prop := Fn E k as σ (fun vo s => vo = none ∧ σ' = s)
/-- .. with this answer and these things -/
def Fvs (E : mE) (k : Nat) (as : List wV) (σ : wSt) (v : wV) (σ' : wSt) : Prop := Fn E k as σ (fun vo s => vo = some v ∧ σ' = s)
/-- .. with an answer of which Q holds, and things as they were -/
def Ev (E : mE) (k : Nat) (as : List wV) (σ : wSt) (Q : Int → Prop) : Prop := Fn E k as σ (fun vo s => ∃ x, vo = some (wi x) ∧ Q x ∧ σ = s)
theorem Bt.mono {E : mE} {j pc : Nat} {l st : List wV} {σ : wSt} {P P' : Option wV → wSt → Prop} (h : Bt E j pc l st σ P) (hP : ∀ vo s, P vo s → P' vo s) : Bt E j pc l st σ P' := fun ho => by
  obtain ⟨vo, a, h1, h2⟩ := h ho
  exact ⟨vo, a, hP _ _ h1, h2⟩
theorem Fn.mono {E : mE} {k : Nat} {as : List wV} {σ : wSt} {Q Q' : Option wV → wSt → Prop} (h : Fn E k as σ Q) (hP : ∀ vo s, Q vo s → Q' vo s) : Fn E k as σ Q' := fun ho => by
  obtain ⟨vo, a, h1, h2⟩ := h ho
  exact ⟨vo, a, hP _ _ h1, h2⟩
theorem went_ex {as : List wV} (nL : Nat) (h : ∃ sc, wS as sc) : ∃ lv, wLr (went nL as) lv := by
  obtain ⟨sc, h⟩ := h
  exact ⟨_, went_lr nL h⟩
theorem Fn.of {E : mE} {k nL : Nat} {as : List wV} {σ : wSt} {Q : Option wV → wSt → Prop} (hA : Bt E k 0 (went nL as) [] σ Q) : Fn E k as σ Q := fun ho => by
  obtain ⟨vo, a, h1, h2⟩ := hA ⟨went_ex nL ho.2.1, ⟨[], trivial⟩, ho.2.2⟩
  exact ⟨vo, a, h1, F1.of h2⟩
/-- a store that knows less speaks of more heaps -/
theorem Ok.sub {l st : List wV} {σ τ : wSt} (hs : Sub σ τ) (ho : Ok l st τ) : Ok l st σ := by
  obtain ⟨h1, h2, h, h3⟩ := ho
  exact ⟨h1, h2, h, h3.sub hs⟩
theorem Ax.sub {E : mE} {j pc : Nat} {l st : List wV} {σ τ σ' : wSt} {vo : Option wV} (hs : Sub σ τ) (h : Ax E j pc l st σ vo σ') : Ax E j pc l st τ vo σ' := fun lv sc hh nc ns h1 h2 h3 => h lv sc hh nc ns h1 h2 (h3.sub hs)
theorem Fx.sub {E : mE} {k : Nat} {as : List wV} {σ τ σ' : wSt} {vo : Option wV} (hs : Sub σ τ) (h : Fx E k as σ vo σ') : Fx E k as τ vo σ' := fun asc hh h1 h2 => h asc hh h1 (h2.sub hs)
theorem Bt.sub {E : mE} {j pc : Nat} {l st : List wV} {σ τ : wSt} {P : Option wV → wSt → Prop} (hs : Sub σ τ) (h : Bt E j pc l st σ P) : Bt E j pc l st τ P := fun ho => by
  obtain ⟨vo, a, h1, h2⟩ := h (ho.sub hs)
  exact ⟨vo, a, h1, h2.sub hs⟩
theorem Fn.sub {E : mE} {k : Nat} {as : List wV} {σ τ : wSt} {Q : Option wV → wSt → Prop} (hs : Sub σ τ) (h : Fn E k as σ Q) : Fn E k as τ Q := fun ho => by
  obtain ⟨vo, a, h1, h2⟩ := h (ho.sub hs)
  exact ⟨vo, a, h1, h2.sub hs⟩
theorem wR_fn {a b : wV} {v : Value} (h1 : wR a v) (h2 : wR b v) : a = b := by
  obtain ⟨t, x⟩ := a
  obtain ⟨u, z⟩ := b
  match t, h1 with
  | 0, h1 =>
    obtain ⟨y, rfl, e1⟩ := h1
    match u, h2 with
    | 0, h2 => obtain ⟨w, e2, e3⟩ := h2; cases e2; dsimp only at e1 e3; rw [← e1, ← e3]
    | 1, h2 => obtain ⟨w, e2, e3⟩ := h2; cases e2
    | 2, h2 => exact (show False from h2).elim
    | 3, h2 => exact (show False from h2).elim
    | 4, h2 => exact (show False from h2).elim
    | 5, h2 => obtain ⟨w, e2, e3⟩ := h2; cases e2
    | 6, h2 => obtain ⟨w, e2, e3⟩ := h2; cases e2
    | n + 7, h2 => exact (show False from h2).elim
  | 1, h1 =>
    obtain ⟨y, rfl, e1⟩ := h1
    match u, h2 with
    | 0, h2 => obtain ⟨w, e2, e3⟩ := h2; cases e2
    | 1, h2 => obtain ⟨w, e2, e3⟩ := h2; cases e2; dsimp only at e1 e3; rw [← e1, ← e3]
    | 2, h2 => exact (show False from h2).elim
    | 3, h2 => exact (show False from h2).elim
    | 4, h2 => exact (show False from h2).elim
    | 5, h2 => obtain ⟨w, e2, e3⟩ := h2; cases e2
    | 6, h2 => obtain ⟨w, e2, e3⟩ := h2; cases e2
    | n + 7, h2 => exact (show False from h2).elim
  | 2, h1 => exact (show False from h1).elim
  | 3, h1 => exact (show False from h1).elim
  | 4, h1 => exact (show False from h1).elim
  | 5, h1 =>
    obtain ⟨y, rfl, e1⟩ := h1
    match u, h2 with
    | 0, h2 => obtain ⟨w, e2, e3⟩ := h2; cases e2
    | 1, h2 => obtain ⟨w, e2, e3⟩ := h2; cases e2
    | 2, h2 => exact (show False from h2).elim
    | 3, h2 => exact (show False from h2).elim
    | 4, h2 => exact (show False from h2).elim
    | 5, h2 => obtain ⟨w, e2, e3⟩ := h2; cases e2; dsimp only at e1 e3; rw [← e1, ← e3]
    | 6, h2 => obtain ⟨w, e2, e3⟩ := h2; cases e2
    | n + 7, h2 => exact (show False from h2).elim
  | 6, h1 =>
    obtain ⟨y, rfl, e1⟩ := h1
    match u, h2 with
    | 0, h2 => obtain ⟨w, e2, e3⟩ := h2; cases e2
    | 1, h2 => obtain ⟨w, e2, e3⟩ := h2; cases e2
    | 2, h2 => exact (show False from h2).elim
    | 3, h2 => exact (show False from h2).elim
    | 4, h2 => exact (show False from h2).elim
    | 5, h2 => obtain ⟨w, e2, e3⟩ := h2; cases e2
    | 6, h2 => obtain ⟨w, e2, e3⟩ := h2; cases e2; dsimp only at e1 e3; rw [← e1, ← e3]
    | n + 7, h2 => exact (show False from h2).elim
  | n + 7, h1 => exact (show False from h1).elim
theorem wO_fn {a b : Option wV} {v : Option Value} (h1 : wO a v) (h2 : wO b v) : a = b := by
  cases v with
  | none => cases a with
    | none => cases b with
      | none => rfl
      | some y => exact (show False from h2).elim
    | some x => exact (show False from h1).elim
  | some v => cases a with
    | none => exact (show False from h1).elim
    | some x => cases b with
      | none => exact (show False from h2).elim
      | some y => rw [wR_fn (show wR x v from h1) (show wR y v from h2)]
/-- what comes out is one -/
theorem Cl.fn {E : mE} {k : Nat} {as : List Value} {h : List mO} {v v' : Option Value} {h1 h2 : mH} (c1 : Cl E k as h v h1) (c2 : Cl E k as h v' h2) : v = v' := by
  obtain ⟨S1, ⟨d1, n1, r1⟩, e1, -⟩ := c1
  obtain ⟨S2, ⟨d2, n2, r2⟩, e2, -⟩ := c2
  have g1 := mexec_up d1 (max d1 d2) n1 (max n1 n2) _ _ (by omega) (by omega) r1
  have g2 := mexec_up d2 (max d1 d2) n2 (max n1 n2) _ _ (by omega) (by omega) r2
  rw [g1] at g2
  cases g2
  rw [e1] at e2
  cases e2
  rfl
theorem Cl.fn2 {E : mE} {k : Nat} {as : List Value} {h : List mO} {v v' : Option Value} {h1 h2 : mH} (c1 : Cl E k as h v h1) (c2 : Cl E k as h v' h2) : v = v' ∧ h1 = h2 := by
  obtain ⟨S1, ⟨d1, n1, r1⟩, e1, e3⟩ := c1
  obtain ⟨S2, ⟨d2, n2, r2⟩, e2, e4⟩ := c2
  have g1 := mexec_up d1 (max d1 d2) n1 (max n1 n2) _ _ (by omega) (by omega) r1
  have g2 := mexec_up d2 (max d1 d2) n2 (max n1 n2) _ _ (by omega) (by omega) r2
  rw [g1] at g2
  cases g2
  rw [e1] at e2
  cases e2
  exact ⟨rfl, by rw [← e3, ← e4]⟩
/-- one call, told twice: the answers are the same; one heap is behind both stores -/
theorem Fx.fn {E : mE} {k : Nat} {as : List wV} {σ s1 s2 : wSt} {v v' : Option wV} (ho : Ok [] as σ) (c1 : Fx E k as σ v s1) (c2 : Fx E k as σ v' s2) : v = v' ∧ ∃ h, Wr s1 h ∧ Wr s2 h := by
  obtain ⟨-, ⟨sc, ha⟩, h, hh⟩ := ho
  obtain ⟨vo, w, h', σ', r1, r2, r3, r4, rfl⟩ := c1 sc h ha hh
  obtain ⟨vo2, w2, h2, σ2, q1, q2, q3, q4, rfl⟩ := c2 sc h ha hh
  obtain ⟨e1, e2⟩ := Cl.fn2 r1 q1
  cases e1
  cases e2
  rw [← r4, ← q4]
  exact ⟨wO_fn r2 q2, h', r3, q3⟩
/-- locals that are no longer looked at -/
def wle : List wV → List wV → Prop
  | a :: r, b :: s => (b = a ∨ b = wx) ∧ wle r s
  | [], [] => True
  | _, _ => False
theorem wle_get : ∀ {l l' : List wV}, wle l l' → ∀ (i : Nat) (a : wV), l'[i]? = some a → a.1 ≤ 6 → l[i]? = some a := by
  intro l
  induction l with
  | nil =>
    intro l' h i a ha
    cases l' with
    | nil => cases ha
    | cons b s => exact (show False from h).elim
  | cons p r ih =>
    intro l' h i a ha h6
    cases l' with
    | nil => exact (show False from h).elim
    | cons b s =>
      obtain ⟨h1, h2⟩ := h
      match i with
      | 0 =>
        cases ha
        rcases h1 with rfl | rfl
        · rfl
        · exact absurd h6 (by decide)
      | i + 1 => exact ih h2 i a ha h6
theorem wLr_le {l l' : List wV} {lv : mLv} (h : wLr l lv) (hl : wle l l') : wLr l' lv := fun i a ha h6 => h i a (wle_get hl i a ha h6) h6
theorem wS_k {a : wV} {r : List wV} {v : Value} {s : List Value} (h1 : wR a v) (h2 : wS r s) : wS (a :: r) (v :: s) := ⟨h1, h2⟩
theorem t6_i {x : Int} : (wi x).1 ≤ 6 := Nat.zero_le _
theorem t6_r {x : Nat} : (wr x).1 ≤ 6 := show 1 ≤ 6 by decide
theorem t6_l {x : Int} : (wl x).1 ≤ 6 := show 5 ≤ 6 by decide
section WA
variable {E : mE} {j pc pc' : Nat} {l l' st st' : List wV} {σ σ' : wSt} {P R : Option wV → wSt → Prop} {e : mIns} {y : mMth} {q : Nat × Nat × Nat × Nat}
theorem A_p (he : mlook (mcode j) pc = some e) (ht : mterm e = false) (hi : minv e = false) (hy : mmeth j = some y) (hs : ∀ lv sc, wLr l lv → wS st sc → ∃ lv' sc', mpure y.2.2.1 e lv sc = some (pc', lv', sc') ∧ wLr l' lv' ∧ wS st' sc') (k : At E j pc' l' st' σ R) : At E j pc l st σ R := by
  intro lv sc h nc ns h1 h2 h3
  obtain ⟨lv', sc', g1, g2, g3⟩ := hs lv sc h1 h2
  exact To.pure he ht hi hy g1 (k lv' sc' h nc ns g2 g3 h3)
theorem A_hp (he : mlook (mcode j) pc = some e) (ht : mterm e = false) (hi : minv e = false) (hy : mmeth j = some y) (h0 : ∀ lv sc, mpure y.2.2.1 e lv sc = none) (hs : ∀ sc h nc ns, wS st sc → Wr σ h → ∃ sc' h', mheap E e sc (h, nc, ns) = some (pc', sc', (h', nc, ns)) ∧ wS st' sc' ∧ Wr σ' h') (k : At E j pc' l st' σ' R) : At E j pc l st σ R := by
  intro lv sc h nc ns h1 h2 h3
  obtain ⟨sc', h', g1, g2, g3⟩ := hs sc h nc ns h2 h3
  exact To.heap he ht hi hy (h0 lv sc) g1 (k lv sc' h' nc ns h1 g2 g3)
theorem B_p (he : mlook (mcode j) pc = some e) (ht : mterm e = false) (hi : minv e = false) (hy : mmeth j = some y) (hs : ∀ lv sc, wLr l lv → wS st sc → ∃ lv' sc', mpure y.2.2.1 e lv sc = some (pc', lv', sc') ∧ wLr l' lv' ∧ wS st' sc') (k : Bt E j pc' l' st' σ P) : Bt E j pc l st σ P := by
  intro ho
  obtain ⟨lv, h1⟩ := ho.1
  obtain ⟨sc, h2⟩ := ho.2.1
  obtain ⟨lv', sc', -, g1, g2⟩ := hs lv sc h1 h2
  obtain ⟨vo, a, hp, k1⟩ := k ⟨⟨lv', g1⟩, ⟨sc', g2⟩, ho.2.2⟩
  exact ⟨vo, a, hp, A_p he ht hi hy hs k1⟩
theorem B_hp (he : mlook (mcode j) pc = some e) (ht : mterm e = false) (hi : minv e = false) (hy : mmeth j = some y) (h0 : ∀ lv sc, mpure y.2.2.1 e lv sc = none) (hs : ∀ sc h nc ns, wS st sc → Wr σ h → ∃ sc' h', mheap E e sc (h, nc, ns) = some (pc', sc', (h', nc, ns)) ∧ wS st' sc' ∧ Wr σ' h') (k : Bt E j pc' l st' σ' P) : Bt E j pc l st σ P := by
  intro ho
  obtain ⟨sc, h2⟩ := ho.2.1
  obtain ⟨h3, h4⟩ := ho.2.2
  obtain ⟨sc', h', -, g1, g2⟩ := hs sc h3 0 0 h2 h4
  obtain ⟨vo, a, hp, k1⟩ := k ⟨ho.1, ⟨sc', g1⟩, ⟨h', g2⟩⟩
  exact ⟨vo, a, hp, A_hp he ht hi hy h0 hs k1⟩
theorem B_loc (hl : wle l l') (k : Bt E j pc l' st σ P) : Bt E j pc l st σ P := by
  intro ho
  obtain ⟨lv, h1⟩ := ho.1
  obtain ⟨vo, a, hp, k1⟩ := k ⟨⟨lv, wLr_le h1 hl⟩, ho.2.1, ho.2.2⟩
  exact ⟨vo, a, hp, fun lv sc h nc ns g1 g2 g3 => k1 lv sc h nc ns (wLr_le g1 hl) g2 g3⟩
/-! ranges -/
theorem B_top {x : Int} (k : wI x → Bt E j pc l (wi x :: st) σ P) : Bt E j pc l (wi x :: st) σ P := by
  intro ho
  obtain ⟨sc, h2⟩ := ho.2.1
  obtain ⟨v, rc, rfl, h4, -⟩ := wS_c h2
  exact k (wR_rng h4) ho
theorem B_rng {x : Int} (i : Nat) (hg : l[i]? = some (wi x)) (k : wI x → Bt E j pc l st σ P) : Bt E j pc l st σ P := by
  intro ho
  obtain ⟨lv, h1⟩ := ho.1
  obtain ⟨v, -, h5⟩ := h1 i _ hg (by first | exact t6_i | exact t6_r | exact t6_l)
  exact k (wR_rng h5) ho
theorem wInt_rng {c a b : Nat} {ρ : wSt} (hb : wInt c a b = true) (hk : kn ρ a b) (h : ∃ h, Wr ρ h) : wI (gv ρ a b) := by
  obtain ⟨h, hw⟩ := h
  obtain ⟨-, fs, x, -, -, h6⟩ := wInt_at hw hb
  exact wR_rng (wR_mi2 (h6 hk))
theorem wRow_rng {a n : Nat} {ρ : wSt} (hb : wRow a = some n) (h : ∃ h, Wr ρ h) : ∀ i, i < n → kn ρ a i → wI (gv ρ a i) := by
  obtain ⟨h, hw⟩ := h
  obtain ⟨-, u, -, h6⟩ := wRow_at hw hb
  exact fun i hi hk => wR_rng (wR_mi2 (h6 i hi hk))
/-- an int of the heap has an int's range -/
theorem B_rngF {c a b : Nat} (hb : wInt c a b = true) (hk : kn σ a b) (k : wI (gv σ a b) → Bt E j pc l st σ P) : Bt E j pc l st σ P := fun ho => k (wInt_rng hb hk ho.2.2) ho
theorem B_rngR {a n : Nat} (hb : wRow a = some n) (k : (∀ i, i < n → kn σ a i → wI (gv σ a i)) → Bt E j pc l st σ P) : Bt E j pc l st σ P := fun ho => k (wRow_rng hb ho.2.2) ho
theorem Fn_rngF {c a b k9 : Nat} {as : List wV} {Q : Option wV → wSt → Prop} (hb : wInt c a b = true) (hk : kn σ a b) (k : wI (gv σ a b) → Fn E k9 as σ Q) : Fn E k9 as σ Q := fun ho => k (wInt_rng hb hk ho.2.2) ho
theorem Fn_ok {k9 : Nat} {as : List wV} {Q : Option wV → wSt → Prop} (k : Ok [] as σ → Fn E k9 as σ Q) : Fn E k9 as σ Q := fun ho => k ho ho
theorem B_ok (k : Ok l st σ → Bt E j pc l st σ P) : Bt E j pc l st σ P := fun ho => k ho ho
/-! constants, locals -/
theorem B_iconst {n : Int} (he : mlook (mcode j) pc = some (pc, .iconst n, q)) (hy : mmeth j = some y) (hn : -2147483648 ≤ n ∧ n < 2147483648) (k : Bt E j (pc + 1) l (wi n :: st) σ P) : Bt E j pc l st σ P := by
  refine B_p he rfl rfl hy (fun lv sc h1 h2 => ?_) k
  exact ⟨lv, _, rfl, h1, wR_mi2 (fb_ofI hn.1 hn.2), h2⟩
theorem B_bipush {n : Int} (he : mlook (mcode j) pc = some (pc, .bipush n, q)) (hy : mmeth j = some y) (hn : (Int8.ofInt n).toInt32.toInt = n) (k : Bt E j (pc + 2) l (wi n :: st) σ P) : Bt E j pc l st σ P := by
  refine B_p he rfl rfl hy (fun lv sc h1 h2 => ?_) k
  exact ⟨lv, _, rfl, h1, wR_mi2 hn, h2⟩
theorem B_sipush {n : Int} (he : mlook (mcode j) pc = some (pc, .sipush n, q)) (hy : mmeth j = some y) (hn : (Int16.ofInt n).toInt32.toInt = n) (k : Bt E j (pc + 3) l (wi n :: st) σ P) : Bt E j pc l st σ P := by
  refine B_p he rfl rfl hy (fun lv sc h1 h2 => ?_) k
  exact ⟨lv, _, rfl, h1, wR_mi2 hn, h2⟩
theorem B_lconst {n : Int} {m : Fin 2} (he : mlook (mcode j) pc = some (pc, .lconst m, q)) (hy : mmeth j = some y) (hn : (Int64.ofNat (m : Nat)).toInt = n) (k : Bt E j (pc + 1) l (wl n :: st) σ P) : Bt E j pc l st σ P := by
  refine B_p he rfl rfl hy (fun lv sc h1 h2 => ?_) k
  exact ⟨lv, _, rfl, h1, wR_ml hn, h2⟩
theorem B_iloadn {m : Fin 4} {x : Int} (he : mlook (mcode j) pc = some (pc, .iload_n m, q)) (hy : mmeth j = some y) (hg : l[(m : Nat)]? = some (wi x)) (k : Bt E j (pc + 1) l (wi x :: st) σ P) : Bt E j pc l st σ P := by
  refine B_p he rfl rfl hy (fun lv sc h1 h2 => ?_) k
  obtain ⟨v, h3, h4⟩ := h1 _ _ hg (by first | exact t6_i | exact t6_r | exact t6_l)
  obtain ⟨z, rfl, h5⟩ := wR_i h4
  exact ⟨lv, .int z :: sc, by simp only [mpure]; rw [h3], h1, h4, h2⟩
theorem B_iload {m : Nat} {x : Int} (he : mlook (mcode j) pc = some (pc, .iload m, q)) (hy : mmeth j = some y) (hg : l[m]? = some (wi x)) (k : Bt E j (pc + 2) l (wi x :: st) σ P) : Bt E j pc l st σ P := by
  refine B_p he rfl rfl hy (fun lv sc h1 h2 => ?_) k
  obtain ⟨v, h3, h4⟩ := h1 _ _ hg (by first | exact t6_i | exact t6_r | exact t6_l)
  obtain ⟨z, rfl, h5⟩ := wR_i h4
  exact ⟨lv, .int z :: sc, by simp only [mpure]; rw [h3], h1, h4, h2⟩
theorem B_lloadn {m : Fin 4} {x : Int} (he : mlook (mcode j) pc = some (pc, .lload_n m, q)) (hy : mmeth j = some y) (hg : l[(m : Nat)]? = some (wl x)) (k : Bt E j (pc + 1) l (wl x :: st) σ P) : Bt E j pc l st σ P := by
  refine B_p he rfl rfl hy (fun lv sc h1 h2 => ?_) k
  obtain ⟨v, h3, h4⟩ := h1 _ _ hg (by first | exact t6_i | exact t6_r | exact t6_l)
  obtain ⟨z, rfl, h5⟩ := wR_l h4
  exact ⟨lv, .long z :: sc, by simp only [mpure]; rw [h3], h1, h4, h2⟩
theorem B_lload {m : Nat} {x : Int} (he : mlook (mcode j) pc = some (pc, .lload m, q)) (hy : mmeth j = some y) (hg : l[m]? = some (wl x)) (k : Bt E j (pc + 2) l (wl x :: st) σ P) : Bt E j pc l st σ P := by
  refine B_p he rfl rfl hy (fun lv sc h1 h2 => ?_) k
  obtain ⟨v, h3, h4⟩ := h1 _ _ hg (by first | exact t6_i | exact t6_r | exact t6_l)
  obtain ⟨z, rfl, h5⟩ := wR_l h4
  exact ⟨lv, .long z :: sc, by simp only [mpure]; rw [h3], h1, h4, h2⟩
theorem B_aloadn {m : Fin 4} {a : Nat} (he : mlook (mcode j) pc = some (pc, .aload_n m, q)) (hy : mmeth j = some y) (hg : l[(m : Nat)]? = some (wr a)) (k : Bt E j (pc + 1) l (wr a :: st) σ P) : Bt E j pc l st σ P := by
  refine B_p he rfl rfl hy (fun lv sc h1 h2 => ?_) k
  obtain ⟨v, h3, h4⟩ := h1 _ _ hg (by first | exact t6_i | exact t6_r | exact t6_l)
  cases wR_r h4
  exact ⟨lv, .ref a :: sc, by simp only [mpure]; rw [h3], h1, h4, h2⟩
theorem B_aload {m a : Nat} (he : mlook (mcode j) pc = some (pc, .aload m, q)) (hy : mmeth j = some y) (hg : l[m]? = some (wr a)) (k : Bt E j (pc + 2) l (wr a :: st) σ P) : Bt E j pc l st σ P := by
  refine B_p he rfl rfl hy (fun lv sc h1 h2 => ?_) k
  obtain ⟨v, h3, h4⟩ := h1 _ _ hg (by first | exact t6_i | exact t6_r | exact t6_l)
  cases wR_r h4
  exact ⟨lv, .ref a :: sc, by simp only [mpure]; rw [h3], h1, h4, h2⟩
theorem B_istoren {m : Fin 4} {x : Int} (he : mlook (mcode j) pc = some (pc, .istore_n m, q)) (hy : mmeth j = some y) (hn : (m : Nat) < y.2.2.1) (hp : wnc l (m : Nat) = true) (hl : l.set (m : Nat) (wi x) = l') (k : Bt E j (pc + 1) l' st σ P) : Bt E j pc l (wi x :: st) σ P := by
  subst hl
  refine B_p he rfl rfl hy (fun lv sc h1 h2 => ?_) k
  obtain ⟨v, rc, rfl, h4, h5⟩ := wS_c h2
  obtain ⟨z, rfl, h6⟩ := wR_i h4
  exact ⟨_, rc, by simp only [mpure]; rw [if_pos hn], wLr_set1 h1 h4 hp, h5⟩
theorem B_istore {m : Nat} {x : Int} (he : mlook (mcode j) pc = some (pc, .istore m, q)) (hy : mmeth j = some y) (hn : m < y.2.2.1) (hp : wnc l m = true) (hl : l.set m (wi x) = l') (k : Bt E j (pc + 2) l' st σ P) : Bt E j pc l (wi x :: st) σ P := by
  subst hl
  refine B_p he rfl rfl hy (fun lv sc h1 h2 => ?_) k
  obtain ⟨v, rc, rfl, h4, h5⟩ := wS_c h2
  obtain ⟨z, rfl, h6⟩ := wR_i h4
  exact ⟨_, rc, by simp only [mpure]; rw [if_pos hn], wLr_set1 h1 h4 hp, h5⟩
theorem B_astoren {m : Fin 4} {a : Nat} (he : mlook (mcode j) pc = some (pc, .astore_n m, q)) (hy : mmeth j = some y) (hn : (m : Nat) < y.2.2.1) (hp : wnc l (m : Nat) = true) (hl : l.set (m : Nat) (wr a) = l') (k : Bt E j (pc + 1) l' st σ P) : Bt E j pc l (wr a :: st) σ P := by
  subst hl
  refine B_p he rfl rfl hy (fun lv sc h1 h2 => ?_) k
  obtain ⟨v, rc, rfl, h4, h5⟩ := wS_c h2
  cases wR_r h4
  exact ⟨_, rc, by simp only [mpure]; rw [if_pos hn], wLr_set1 h1 h4 hp, h5⟩
theorem B_astore {m a : Nat} (he : mlook (mcode j) pc = some (pc, .astore m, q)) (hy : mmeth j = some y) (hn : m < y.2.2.1) (hp : wnc l m = true) (hl : l.set m (wr a) = l') (k : Bt E j (pc + 2) l' st σ P) : Bt E j pc l (wr a :: st) σ P := by
  subst hl
  refine B_p he rfl rfl hy (fun lv sc h1 h2 => ?_) k
  obtain ⟨v, rc, rfl, h4, h5⟩ := wS_c h2
  cases wR_r h4
  exact ⟨_, rc, by simp only [mpure]; rw [if_pos hn], wLr_set1 h1 h4 hp, h5⟩
theorem B_lstoren {m : Fin 4} {x : Int} (he : mlook (mcode j) pc = some (pc, .lstore_n m, q)) (hy : mmeth j = some y) (hn : (m : Nat) + 1 < y.2.2.1) (hp : wnc l (m : Nat) = true) (hl : (l.set (m : Nat) (wl x)).set ((m : Nat) + 1) wx = l') (k : Bt E j (pc + 1) l' st σ P) : Bt E j pc l (wl x :: st) σ P := by
  subst hl
  refine B_p he rfl rfl hy (fun lv sc h1 h2 => ?_) k
  obtain ⟨v, rc, rfl, h4, h5⟩ := wS_c h2
  obtain ⟨z, rfl, h6⟩ := wR_l h4
  exact ⟨_, rc, by simp only [mpure]; rw [if_pos hn], wLr_set2 h1 h4 hp, h5⟩
theorem B_lstore {m : Nat} {x : Int} (he : mlook (mcode j) pc = some (pc, .lstore m, q)) (hy : mmeth j = some y) (hn : m + 1 < y.2.2.1) (hp : wnc l m = true) (hl : (l.set m (wl x)).set (m + 1) wx = l') (k : Bt E j (pc + 2) l' st σ P) : Bt E j pc l (wl x :: st) σ P := by
  subst hl
  refine B_p he rfl rfl hy (fun lv sc h1 h2 => ?_) k
  obtain ⟨v, rc, rfl, h4, h5⟩ := wS_c h2
  obtain ⟨z, rfl, h6⟩ := wR_l h4
  exact ⟨_, rc, by simp only [mpure]; rw [if_pos hn], wLr_set2 h1 h4 hp, h5⟩
theorem B_iinc {m : Nat} {n x : Int} (he : mlook (mcode j) pc = some (pc, .iinc m n, q)) (hy : mmeth j = some y) (hn : m < y.2.2.1) (hg : l[m]? = some (wi x)) (hc : (Int32.ofInt n).toInt = n) (hp : wnc l m = true) (h1 : -2147483648 ≤ x + n) (h2 : x + n < 2147483648) (hl : l.set m (wi (x + n)) = l') (k : Bt E j (pc + 3) l' st σ P) : Bt E j pc l st σ P := by
  subst hl
  refine B_p he rfl rfl hy (fun lv sc g1 g2 => ?_) k
  obtain ⟨v, h3, h4⟩ := g1 _ _ hg (by first | exact t6_i | exact t6_r | exact t6_l)
  obtain ⟨z, rfl, h5⟩ := wR_i h4
  exact ⟨_, sc, by simp only [mpure]; rw [h3]; dsimp only; rw [if_pos hn], wLr_set1 g1 (wR_mi2 (by rw [fb_addI (by omega) (by omega)]; omega)) hp, g2⟩
/-! arithmetic -/
theorem B_iadd {x z : Int} (he : mlook (mcode j) pc = some (pc, .iadd, q)) (hy : mmeth j = some y) (h1 : -2147483648 ≤ x + z) (h2 : x + z < 2147483648) (k : Bt E j (pc + 1) l (wi (x + z) :: st) σ P) : Bt E j pc l (wi z :: wi x :: st) σ P := by
  refine B_p he rfl rfl hy (fun lv sc g1 g2 => ?_) k
  obtain ⟨v, rc, rfl, h4, h5⟩ := wS_c g2
  obtain ⟨v2, rc2, rfl, h6, h7⟩ := wS_c h5
  obtain ⟨a, rfl, e1⟩ := wR_i h4
  obtain ⟨b, rfl, e2⟩ := wR_i h6
  exact ⟨lv, _, rfl, g1, wR_mi2 (by rw [fb_addI (by omega) (by omega)]; omega), h7⟩
theorem B_isub {x z : Int} (he : mlook (mcode j) pc = some (pc, .isub, q)) (hy : mmeth j = some y) (h1 : -2147483648 ≤ x - z) (h2 : x - z < 2147483648) (k : Bt E j (pc + 1) l (wi (x - z) :: st) σ P) : Bt E j pc l (wi z :: wi x :: st) σ P := by
  refine B_p he rfl rfl hy (fun lv sc g1 g2 => ?_) k
  obtain ⟨v, rc, rfl, h4, h5⟩ := wS_c g2
  obtain ⟨v2, rc2, rfl, h6, h7⟩ := wS_c h5
  obtain ⟨a, rfl, e1⟩ := wR_i h4
  obtain ⟨b, rfl, e2⟩ := wR_i h6
  exact ⟨lv, _, rfl, g1, wR_mi2 (by rw [fb_subI (by omega) (by omega)]; omega), h7⟩
theorem B_imul {x z : Int} (he : mlook (mcode j) pc = some (pc, .imul, q)) (hy : mmeth j = some y) (h1 : -2147483648 ≤ x * z) (h2 : x * z < 2147483648) (k : Bt E j (pc + 1) l (wi (x * z) :: st) σ P) : Bt E j pc l (wi z :: wi x :: st) σ P := by
  refine B_p he rfl rfl hy (fun lv sc g1 g2 => ?_) k
  obtain ⟨v, rc, rfl, h4, h5⟩ := wS_c g2
  obtain ⟨v2, rc2, rfl, h6, h7⟩ := wS_c h5
  obtain ⟨a, rfl, rfl⟩ := wR_i h4
  obtain ⟨b, rfl, rfl⟩ := wR_i h6
  exact ⟨lv, _, rfl, g1, wR_mi2 (fb_mulI h1 h2), h7⟩
/-- an int's 32 bits -/
def w32 (z : Int) : Int := (Int32.ofInt z).toInt
theorem w32_rng (z : Int) : wI (w32 z) := wR_rng (wR_mi (Int32.ofInt z))
theorem w32_eq {z : Int} (h1 : -2147483648 ≤ z) (h2 : z < 2147483648) : w32 z = z := fb_ofI h1 h2
theorem w32_add (a b : Int32) : w32 (a.toInt + b.toInt) = (a + b).toInt := by
  unfold w32
  rw [Int32.toInt_ofInt, Int32.toInt_add]
theorem w32_sub (a b : Int32) : w32 (a.toInt - b.toInt) = (a - b).toInt := by
  unfold w32
  rw [Int32.toInt_ofInt, Int32.toInt_sub]
theorem w32_mul (a b : Int32) : w32 (a.toInt * b.toInt) = (a * b).toInt := by
  unfold w32
  rw [Int32.toInt_ofInt, Int32.toInt_mul]
theorem w32_neg (a : Int32) : w32 (-a.toInt) = (-a).toInt := by
  unfold w32
  rw [Int32.toInt_ofInt, Int32.toInt_neg]
theorem B_iaddW {x z : Int} (he : mlook (mcode j) pc = some (pc, .iadd, q)) (hy : mmeth j = some y) (k : Bt E j (pc + 1) l (wi (w32 (x + z)) :: st) σ P) : Bt E j pc l (wi z :: wi x :: st) σ P := by
  refine B_p he rfl rfl hy (fun lv sc g1 g2 => ?_) k
  obtain ⟨v, rc, rfl, h4, h5⟩ := wS_c g2
  obtain ⟨v2, rc2, rfl, h6, h7⟩ := wS_c h5
  obtain ⟨a, rfl, rfl⟩ := wR_i h4
  obtain ⟨b, rfl, rfl⟩ := wR_i h6
  exact ⟨lv, _, rfl, g1, wR_mi2 (w32_add b a).symm, h7⟩
theorem B_isubW {x z : Int} (he : mlook (mcode j) pc = some (pc, .isub, q)) (hy : mmeth j = some y) (k : Bt E j (pc + 1) l (wi (w32 (x - z)) :: st) σ P) : Bt E j pc l (wi z :: wi x :: st) σ P := by
  refine B_p he rfl rfl hy (fun lv sc g1 g2 => ?_) k
  obtain ⟨v, rc, rfl, h4, h5⟩ := wS_c g2
  obtain ⟨v2, rc2, rfl, h6, h7⟩ := wS_c h5
  obtain ⟨a, rfl, rfl⟩ := wR_i h4
  obtain ⟨b, rfl, rfl⟩ := wR_i h6
  exact ⟨lv, _, rfl, g1, wR_mi2 (w32_sub b a).symm, h7⟩
theorem B_imulW {x z : Int} (he : mlook (mcode j) pc = some (pc, .imul, q)) (hy : mmeth j = some y) (k : Bt E j (pc + 1) l (wi (w32 (x * z)) :: st) σ P) : Bt E j pc l (wi z :: wi x :: st) σ P := by
  refine B_p he rfl rfl hy (fun lv sc g1 g2 => ?_) k
  obtain ⟨v, rc, rfl, h4, h5⟩ := wS_c g2
  obtain ⟨v2, rc2, rfl, h6, h7⟩ := wS_c h5
  obtain ⟨a, rfl, rfl⟩ := wR_i h4
  obtain ⟨b, rfl, rfl⟩ := wR_i h6
  exact ⟨lv, _, rfl, g1, wR_mi2 (w32_mul b a).symm, h7⟩
theorem B_inegW {x : Int} (he : mlook (mcode j) pc = some (pc, .ineg, q)) (hy : mmeth j = some y) (k : Bt E j (pc + 1) l (wi (w32 (-x)) :: st) σ P) : Bt E j pc l (wi x :: st) σ P := by
  refine B_p he rfl rfl hy (fun lv sc g1 g2 => ?_) k
  obtain ⟨v, rc, rfl, h4, h5⟩ := wS_c g2
  obtain ⟨a, rfl, rfl⟩ := wR_i h4
  exact ⟨lv, _, rfl, g1, wR_mi2 (w32_neg a).symm, h5⟩
def wshr (x z : Int) : Int := (Int32.ofInt x >>> (Int32.ofInt z &&& 31)).toInt
theorem wshr_rng (x z : Int) : wI (wshr x z) := wR_rng (wR_mi _)
theorem B_ishr {x z : Int} (he : mlook (mcode j) pc = some (pc, .ishr, q)) (hy : mmeth j = some y) (k : Bt E j (pc + 1) l (wi (wshr x z) :: st) σ P) : Bt E j pc l (wi z :: wi x :: st) σ P := by
  refine B_p he rfl rfl hy (fun lv sc g1 g2 => ?_) k
  obtain ⟨v, rc, rfl, h4, h5⟩ := wS_c g2
  obtain ⟨v2, rc2, rfl, h6, h7⟩ := wS_c h5
  obtain ⟨a, rfl, rfl⟩ := wR_i h4
  obtain ⟨b, rfl, rfl⟩ := wR_i h6
  exact ⟨lv, _, rfl, g1, wR_mi2 (by unfold wshr; rw [Int32.ofInt_toInt, Int32.ofInt_toInt]), h7⟩
/-- the lower 31 bits: not below 0 -/
theorem wand31 (b : Int32) : 0 ≤ (b &&& 2147483647).toInt := by
  have h1 : (b &&& 2147483647).toInt = (b &&& 2147483647).toBitVec.toInt := rfl
  have h2 : (b &&& 2147483647).toBitVec = b.toBitVec &&& (2147483647 : Int32).toBitVec := Int32.toBitVec_and b 2147483647
  have h3 : (b.toBitVec &&& (2147483647 : Int32).toBitVec).toNat ≤ 2147483647 := by
    rw [BitVec.toNat_and]
    exact Nat.and_le_right
  rw [h1, h2, BitVec.toInt_eq_toNat_of_lt (by omega)]
  omega
def wand (x : Int) : Int := (Int32.ofInt x &&& 2147483647).toInt
theorem wand_rng (x : Int) : 0 ≤ wand x ∧ wand x < 2147483648 := ⟨wand31 _, (wR_rng (wR_mi _)).2⟩
theorem B_iand31 {x : Int} (he : mlook (mcode j) pc = some (pc, .iand, q)) (hy : mmeth j = some y) (k : Bt E j (pc + 1) l (wi (wand x) :: st) σ P) : Bt E j pc l (wi 2147483647 :: wi x :: st) σ P := by
  refine B_p he rfl rfl hy (fun lv sc g1 g2 => ?_) k
  obtain ⟨v, rc, rfl, h4, h5⟩ := wS_c g2
  obtain ⟨v2, rc2, rfl, h6, h7⟩ := wS_c h5
  obtain ⟨a, rfl, e1⟩ := wR_i h4
  obtain ⟨b, rfl, rfl⟩ := wR_i h6
  have ha : a = 2147483647 := by
    rw [fa_eq, e1]
    rfl
  subst ha
  exact ⟨lv, _, rfl, g1, wR_mi2 (by unfold wand; rw [Int32.ofInt_toInt]), h7⟩
theorem wdivN {x z : Int32} (h1 : 0 ≤ x.toInt) (h2 : 0 < z.toInt) : (x / z).toInt = x.toInt / z.toInt ∧ (x - x / z * z).toInt = x.toInt % z.toInt := by
  have b1 := fb_rng x
  have b2 := fb_rng z
  have e1 : x = nI x.toInt.toNat := by rw [fa_eq, nI_toInt (by omega)]; omega
  have e2 : z = nI z.toInt.toNat := by rw [fa_eq, nI_toInt (by omega)]; omega
  have c1 : x.toInt.toNat < 2147483648 := by omega
  have c2 : z.toInt.toNat < 2147483648 := by omega
  have c3 : 0 < z.toInt.toNat := by omega
  have d1 : ((x.toInt.toNat / z.toInt.toNat : Nat) : Int) = x.toInt / z.toInt := by
    rw [Int.natCast_ediv, Int.toNat_of_nonneg h1, Int.toNat_of_nonneg (by omega)]
  have d2 : ((x.toInt.toNat % z.toInt.toNat : Nat) : Int) = x.toInt % z.toInt := by
    rw [Int.natCast_emod, Int.toNat_of_nonneg h1, Int.toNat_of_nonneg (by omega)]
  generalize x.toInt.toNat = n at e1 c1 d1 d2
  generalize z.toInt.toNat = d at e2 c2 c3 d1 d2
  refine ⟨?_, ?_⟩
  · rw [← d1, e1, e2, pk_div c1 c3 c2, nI_toInt (Nat.lt_of_le_of_lt (Nat.div_le_self _ _) c1)]
  · have c4 := Nat.mod_lt n c3
    rw [← d2, e1, e2, pk_rem c1 c3 c2, nI_toInt (by omega)]
theorem B_ineg {x : Int} (he : mlook (mcode j) pc = some (pc, .ineg, q)) (hy : mmeth j = some y) (h1 : -2147483648 < x) (k : Bt E j (pc + 1) l (wi (-x) :: st) σ P) : Bt E j pc l (wi x :: st) σ P := by
  refine B_p he rfl rfl hy (fun lv sc g1 g2 => ?_) k
  obtain ⟨v, rc, rfl, h4, h5⟩ := wS_c g2
  obtain ⟨a, rfl, e1⟩ := wR_i h4
  exact ⟨lv, _, rfl, g1, wR_mi2 (by rw [fb_negI (by omega)]; omega), h5⟩
theorem B_idiv {x z : Int} (he : mlook (mcode j) pc = some (pc, .idiv, q)) (hy : mmeth j = some y) (h1 : 0 ≤ x) (h2 : 0 < z) (k : Bt E j (pc + 1) l (wi (x / z) :: st) σ P) : Bt E j pc l (wi z :: wi x :: st) σ P := by
  refine B_p he rfl rfl hy (fun lv sc g1 g2 => ?_) k
  obtain ⟨v, rc, rfl, h4, h5⟩ := wS_c g2
  obtain ⟨v2, rc2, rfl, h6, h7⟩ := wS_c h5
  obtain ⟨a, rfl, rfl⟩ := wR_i h4
  obtain ⟨b, rfl, rfl⟩ := wR_i h6
  exact ⟨lv, _, by simp only [mpure]; rw [if_neg (fun e9 => by rw [e9] at h2; exact absurd h2 (by decide))], g1, wS_k (wR_mi2 (wdivN h1 h2).1) h7⟩
theorem B_irem {x z : Int} (he : mlook (mcode j) pc = some (pc, .irem, q)) (hy : mmeth j = some y) (h1 : 0 ≤ x) (h2 : 0 < z) (k : Bt E j (pc + 1) l (wi (x % z) :: st) σ P) : Bt E j pc l (wi z :: wi x :: st) σ P := by
  refine B_p he rfl rfl hy (fun lv sc g1 g2 => ?_) k
  obtain ⟨v, rc, rfl, h4, h5⟩ := wS_c g2
  obtain ⟨v2, rc2, rfl, h6, h7⟩ := wS_c h5
  obtain ⟨a, rfl, rfl⟩ := wR_i h4
  obtain ⟨b, rfl, rfl⟩ := wR_i h6
  exact ⟨lv, _, by simp only [mpure]; rw [if_neg (fun e9 => by rw [e9] at h2; exact absurd h2 (by decide))], g1, wS_k (wR_mi2 (wdivN h1 h2).2) h7⟩
/-! longs, doubles -/
def wla (a b : Int) : Int := (Int64.ofInt a + Int64.ofInt b).toInt
def wlm (a b : Int) : Int := (Int64.ofInt a * Int64.ofInt b).toInt
theorem B_ladd {x z : Int} (he : mlook (mcode j) pc = some (pc, .ladd, q)) (hy : mmeth j = some y) (k : Bt E j (pc + 1) l (wl (wla x z) :: st) σ P) : Bt E j pc l (wl z :: wl x :: st) σ P := by
  refine B_p he rfl rfl hy (fun lv sc g1 g2 => ?_) k
  obtain ⟨v, rc, rfl, h4, h5⟩ := wS_c g2
  obtain ⟨v2, rc2, rfl, h6, h7⟩ := wS_c h5
  obtain ⟨a, rfl, rfl⟩ := wR_l h4
  obtain ⟨b, rfl, rfl⟩ := wR_l h6
  exact ⟨lv, _, rfl, g1, wR_ml (by unfold wla; rw [Int64.ofInt_toInt, Int64.ofInt_toInt]), h7⟩
theorem B_lmul {x z : Int} (he : mlook (mcode j) pc = some (pc, .lmul, q)) (hy : mmeth j = some y) (k : Bt E j (pc + 1) l (wl (wlm x z) :: st) σ P) : Bt E j pc l (wl z :: wl x :: st) σ P := by
  refine B_p he rfl rfl hy (fun lv sc g1 g2 => ?_) k
  obtain ⟨v, rc, rfl, h4, h5⟩ := wS_c g2
  obtain ⟨v2, rc2, rfl, h6, h7⟩ := wS_c h5
  obtain ⟨a, rfl, rfl⟩ := wR_l h4
  obtain ⟨b, rfl, rfl⟩ := wR_l h6
  exact ⟨lv, _, rfl, g1, wR_ml (by unfold wlm; rw [Int64.ofInt_toInt, Int64.ofInt_toInt]), h7⟩
theorem B_i2l {x : Int} (he : mlook (mcode j) pc = some (pc, .i2l, q)) (hy : mmeth j = some y) (k : Bt E j (pc + 1) l (wl x :: st) σ P) : Bt E j pc l (wi x :: st) σ P := by
  refine B_p he rfl rfl hy (fun lv sc g1 g2 => ?_) k
  obtain ⟨v, rc, rfl, h4, h5⟩ := wS_c g2
  obtain ⟨a, rfl, rfl⟩ := wR_i h4
  exact ⟨lv, _, rfl, g1, wR_ml (Int32.toInt_toInt64 a), h5⟩
def wlc (x z : Int) : Int := (lg_cmp (Int64.ofInt x) (Int64.ofInt z)).toInt
theorem B_lcmp {x z : Int} (he : mlook (mcode j) pc = some (pc, .lcmp, q)) (hy : mmeth j = some y) (k : (x = z ↔ wlc x z = 0) → Bt E j (pc + 1) l (wi (wlc x z) :: st) σ P) : Bt E j pc l (wl z :: wl x :: st) σ P := by
  intro ho
  have hx : x = z ↔ wlc x z = 0 := by
    obtain ⟨sc, g2⟩ := ho.2.1
    obtain ⟨v, rc, rfl, h4, h5⟩ := wS_c g2
    obtain ⟨v2, rc2, rfl, h6, h7⟩ := wS_c h5
    obtain ⟨a, rfl, rfl⟩ := wR_l h4
    obtain ⟨b, rfl, rfl⟩ := wR_l h6
    unfold wlc lg_cmp
    rw [Int64.ofInt_toInt, Int64.ofInt_toInt, Int64.toInt_inj]
    by_cases h8 : b = a
    · subst h8
      simp
    · by_cases h9 : b < a
      · simp [h8, h9] <;> split <;> decide
      · simp [h8, h9] <;> split <;> decide
  refine B_p he rfl rfl hy (fun lv sc g1 g2 => ?_) (k hx) ho
  obtain ⟨v, rc, rfl, h4, h5⟩ := wS_c g2
  obtain ⟨v2, rc2, rfl, h6, h7⟩ := wS_c h5
  obtain ⟨a, rfl, rfl⟩ := wR_l h4
  obtain ⟨b, rfl, rfl⟩ := wR_l h6
  exact ⟨lv, _, rfl, g1, wR_mi2 (by unfold wlc; rw [Int64.ofInt_toInt, Int64.ofInt_toInt]), h7⟩
theorem B_i2d {x : Int} (he : mlook (mcode j) pc = some (pc, .i2d, q)) (hy : mmeth j = some y) (k : Bt E j (pc + 1) l (wd (FP.i2d (Int32.ofInt x)) :: st) σ P) : Bt E j pc l (wi x :: st) σ P := by
  refine B_p he rfl rfl hy (fun lv sc g1 g2 => ?_) k
  obtain ⟨v, rc, rfl, h4, h5⟩ := wS_c g2
  obtain ⟨a, rfl, rfl⟩ := wR_i h4
  exact ⟨lv, _, rfl, g1, by rw [Int32.ofInt_toInt]; exact wR_md _, h5⟩
theorem B_l2d {x : Int} (he : mlook (mcode j) pc = some (pc, .l2d, q)) (hy : mmeth j = some y) (k : Bt E j (pc + 1) l (wd (FP.l2d (Int64.ofInt x)) :: st) σ P) : Bt E j pc l (wl x :: st) σ P := by
  refine B_p he rfl rfl hy (fun lv sc g1 g2 => ?_) k
  obtain ⟨v, rc, rfl, h4, h5⟩ := wS_c g2
  obtain ⟨a, rfl, rfl⟩ := wR_l h4
  exact ⟨lv, _, rfl, g1, by rw [Int64.ofInt_toInt]; exact wR_md _, h5⟩
theorem B_dconst {m : Fin 2} (he : mlook (mcode j) pc = some (pc, .dconst m, q)) (hy : mmeth j = some y) (h0 : (m : Nat) = 0) (k : Bt E j (pc + 1) l (wd FP.dconst0 :: st) σ P) : Bt E j pc l st σ P := by
  refine B_p he rfl rfl hy (fun lv sc g1 g2 => ?_) k
  exact ⟨lv, _, by simp only [mpure]; rw [if_pos h0], g1, wS_k (wR_md _) g2⟩
theorem B_ddiv {x z : UInt64} (he : mlook (mcode j) pc = some (pc, .ddiv, q)) (hy : mmeth j = some y) (hn : FP.ddiv x z &&& 0x7fffffffffffffff ≤ 0x7ff0000000000000) (k : Bt E j (pc + 1) l (wd (FP.ddiv x z) :: st) σ P) : Bt E j pc l (wd z :: wd x :: st) σ P := by
  refine B_p he rfl rfl hy (fun lv sc g1 g2 => ?_) k
  obtain ⟨v, rc, rfl, h4, h5⟩ := wS_c g2
  obtain ⟨v2, rc2, rfl, h6, h7⟩ := wS_c h5
  cases wR_d h4
  cases wR_d h6
  exact ⟨lv, _, by simp only [mpure]; rw [if_pos hn], g1, wS_k (wR_md _) h7⟩
theorem B_dcmp {x z : UInt64} {op} (he : mlook (mcode j) pc = some (pc, .dcmp op, q)) (hy : mmeth j = some y) (k : Bt E j (pc + 1) l (wi (Op.cmpValue (FP.dcmp x z) op).toInt :: st) σ P) : Bt E j pc l (wd z :: wd x :: st) σ P := by
  refine B_p he rfl rfl hy (fun lv sc g1 g2 => ?_) k
  obtain ⟨v, rc, rfl, h4, h5⟩ := wS_c g2
  obtain ⟨v2, rc2, rfl, h6, h7⟩ := wS_c h5
  cases wR_d h4
  cases wR_d h6
  exact ⟨lv, _, rfl, g1, wR_mi _, h7⟩
theorem B_dup {a : wV} (he : mlook (mcode j) pc = some (pc, .dup, q)) (hy : mmeth j = some y) (h1 : a.1 ≤ 4) (k : Bt E j (pc + 1) l (a :: a :: st) σ P) : Bt E j pc l (a :: st) σ P := by
  refine B_p he rfl rfl hy (fun lv sc g1 g2 => ?_) k
  obtain ⟨v, rc, rfl, h4, h5⟩ := wS_c g2
  exact ⟨lv, _, by simp only [mpure]; rw [if_pos ((wR_cat h4).2.1 h1)], g1, wS_k h4 (wS_k h4 h5)⟩
theorem B_pop {a : wV} (he : mlook (mcode j) pc = some (pc, .pop, q)) (hy : mmeth j = some y) (h1 : a.1 ≤ 4) (k : Bt E j (pc + 1) l st σ P) : Bt E j pc l (a :: st) σ P := by
  refine B_p he rfl rfl hy (fun lv sc g1 g2 => ?_) k
  obtain ⟨v, rc, rfl, h4, h5⟩ := wS_c g2
  exact ⟨lv, _, by simp only [mpure]; rw [if_pos ((wR_cat h4).2.1 h1)], g1, h5⟩
theorem B_dupx {a b : wV} (he : mlook (mcode j) pc = some (pc, .dup_x1, q)) (hy : mmeth j = some y) (h1 : a.1 ≤ 4) (h2 : b.1 ≤ 4) (k : Bt E j (pc + 1) l (a :: b :: a :: st) σ P) : Bt E j pc l (a :: b :: st) σ P := by
  refine B_p he rfl rfl hy (fun lv sc g1 g2 => ?_) k
  obtain ⟨v, rc, rfl, h4, h5⟩ := wS_c g2
  obtain ⟨v2, rc2, rfl, h6, h7⟩ := wS_c h5
  exact ⟨lv, _, by simp only [mpure]; rw [if_pos ⟨(wR_cat h4).2.1 h1, (wR_cat h6).2.1 h2⟩], g1, wS_k h4 (wS_k h6 (wS_k h4 h7))⟩
theorem B_goto {off : Int} {tgt : Nat} (he : mlook (mcode j) pc = some (pc, .goto off, q)) (hy : mmeth j = some y) (hj : mjmp pc off = true) (htg : mtgt pc off = tgt) (k : Bt E j tgt l st σ P) : Bt E j pc l st σ P := by
  subst htg
  exact B_p he rfl rfl hy (fun lv sc g1 g2 => ⟨lv, sc, by simp only [mpure]; rw [if_pos hj], g1, g2⟩) k
theorem w0 : (0 : Int32).toInt = 0 := rfl
theorem B_if_eq {x : Int} {off : Int} {tgt nx : Nat} (he : mlook (mcode j) pc = some (pc, .ifCond .eq off, q)) (hy : mmeth j = some y) (hj : mjmp pc off = true) (htg : mtgt pc off = tgt) (hnx : pc + 3 = nx) (kt : x = 0 → Bt E j tgt l st σ P) (kf : x ≠ 0 → Bt E j nx l st σ P) : Bt E j pc l (wi x :: st) σ P := by
  subst htg; subst hnx
  by_cases c : x = 0
  · refine B_p (pc' := mtgt pc off) he rfl rfl hy (fun lv sc g1 g2 => ?_) (kt (by omega))
    obtain ⟨v, rc, rfl, h4, h5⟩ := wS_c g2
    obtain ⟨a, rfl, e1⟩ := wR_i h4
    have c2 : a = 0 := by
      rw [fa_eq, w0, e1]
      exact c
    exact ⟨lv, rc, by simp only [mpure]; rw [if_pos hj, if_pos c2], g1, h5⟩
  · refine B_p (pc' := pc + 3) he rfl rfl hy (fun lv sc g1 g2 => ?_) (kf (by omega))
    obtain ⟨v, rc, rfl, h4, h5⟩ := wS_c g2
    obtain ⟨a, rfl, e1⟩ := wR_i h4
    have c2 : ¬ (a = 0) := by
      rw [fa_eq, w0, e1]
      exact c
    exact ⟨lv, rc, by simp only [mpure]; rw [if_pos hj, if_neg c2], g1, h5⟩
theorem B_if_ne {x : Int} {off : Int} {tgt nx : Nat} (he : mlook (mcode j) pc = some (pc, .ifCond .ne off, q)) (hy : mmeth j = some y) (hj : mjmp pc off = true) (htg : mtgt pc off = tgt) (hnx : pc + 3 = nx) (kt : x ≠ 0 → Bt E j tgt l st σ P) (kf : x = 0 → Bt E j nx l st σ P) : Bt E j pc l (wi x :: st) σ P := by
  subst htg; subst hnx
  by_cases c : x = 0
  · refine B_p (pc' := pc + 3) he rfl rfl hy (fun lv sc g1 g2 => ?_) (kf (by omega))
    obtain ⟨v, rc, rfl, h4, h5⟩ := wS_c g2
    obtain ⟨a, rfl, e1⟩ := wR_i h4
    have c2 : a = 0 := by
      rw [fa_eq, w0, e1]
      exact c
    exact ⟨lv, rc, by simp only [mpure]; rw [if_pos hj, if_pos c2], g1, h5⟩
  · refine B_p (pc' := mtgt pc off) he rfl rfl hy (fun lv sc g1 g2 => ?_) (kt (by omega))
    obtain ⟨v, rc, rfl, h4, h5⟩ := wS_c g2
    obtain ⟨a, rfl, e1⟩ := wR_i h4
    have c2 : ¬ (a = 0) := by
      rw [fa_eq, w0, e1]
      exact c
    exact ⟨lv, rc, by simp only [mpure]; rw [if_pos hj, if_neg c2], g1, h5⟩
theorem B_if_lt {x : Int} {off : Int} {tgt nx : Nat} (he : mlook (mcode j) pc = some (pc, .ifCond .lt off, q)) (hy : mmeth j = some y) (hj : mjmp pc off = true) (htg : mtgt pc off = tgt) (hnx : pc + 3 = nx) (kt : x < 0 → Bt E j tgt l st σ P) (kf : 0 ≤ x → Bt E j nx l st σ P) : Bt E j pc l (wi x :: st) σ P := by
  subst htg; subst hnx
  by_cases c : x < 0
  · refine B_p (pc' := mtgt pc off) he rfl rfl hy (fun lv sc g1 g2 => ?_) (kt (by omega))
    obtain ⟨v, rc, rfl, h4, h5⟩ := wS_c g2
    obtain ⟨a, rfl, e1⟩ := wR_i h4
    have c2 : a < 0 := by
      rw [fa_lt, w0, e1]
      exact c
    exact ⟨lv, rc, by simp only [mpure]; rw [if_pos hj, if_pos c2], g1, h5⟩
  · refine B_p (pc' := pc + 3) he rfl rfl hy (fun lv sc g1 g2 => ?_) (kf (by omega))
    obtain ⟨v, rc, rfl, h4, h5⟩ := wS_c g2
    obtain ⟨a, rfl, e1⟩ := wR_i h4
    have c2 : ¬ (a < 0) := by
      rw [fa_lt, w0, e1]
      exact c
    exact ⟨lv, rc, by simp only [mpure]; rw [if_pos hj, if_neg c2], g1, h5⟩
theorem B_if_ge {x : Int} {off : Int} {tgt nx : Nat} (he : mlook (mcode j) pc = some (pc, .ifCond .ge off, q)) (hy : mmeth j = some y) (hj : mjmp pc off = true) (htg : mtgt pc off = tgt) (hnx : pc + 3 = nx) (kt : 0 ≤ x → Bt E j tgt l st σ P) (kf : x < 0 → Bt E j nx l st σ P) : Bt E j pc l (wi x :: st) σ P := by
  subst htg; subst hnx
  by_cases c : 0 ≤ x
  · refine B_p (pc' := mtgt pc off) he rfl rfl hy (fun lv sc g1 g2 => ?_) (kt (by omega))
    obtain ⟨v, rc, rfl, h4, h5⟩ := wS_c g2
    obtain ⟨a, rfl, e1⟩ := wR_i h4
    have c2 : 0 ≤ a := by
      rw [fa_le, w0, e1]
      exact c
    exact ⟨lv, rc, by simp only [mpure]; rw [if_pos hj, if_pos c2], g1, h5⟩
  · refine B_p (pc' := pc + 3) he rfl rfl hy (fun lv sc g1 g2 => ?_) (kf (by omega))
    obtain ⟨v, rc, rfl, h4, h5⟩ := wS_c g2
    obtain ⟨a, rfl, e1⟩ := wR_i h4
    have c2 : ¬ (0 ≤ a) := by
      rw [fa_le, w0, e1]
      exact c
    exact ⟨lv, rc, by simp only [mpure]; rw [if_pos hj, if_neg c2], g1, h5⟩
theorem B_if_gt {x : Int} {off : Int} {tgt nx : Nat} (he : mlook (mcode j) pc = some (pc, .ifCond .gt off, q)) (hy : mmeth j = some y) (hj : mjmp pc off = true) (htg : mtgt pc off = tgt) (hnx : pc + 3 = nx) (kt : 0 < x → Bt E j tgt l st σ P) (kf : x ≤ 0 → Bt E j nx l st σ P) : Bt E j pc l (wi x :: st) σ P := by
  subst htg; subst hnx
  by_cases c : 0 < x
  · refine B_p (pc' := mtgt pc off) he rfl rfl hy (fun lv sc g1 g2 => ?_) (kt (by omega))
    obtain ⟨v, rc, rfl, h4, h5⟩ := wS_c g2
    obtain ⟨a, rfl, e1⟩ := wR_i h4
    have c2 : 0 < a := by
      rw [fa_lt, w0, e1]
      exact c
    exact ⟨lv, rc, by simp only [mpure]; rw [if_pos hj, if_pos c2], g1, h5⟩
  · refine B_p (pc' := pc + 3) he rfl rfl hy (fun lv sc g1 g2 => ?_) (kf (by omega))
    obtain ⟨v, rc, rfl, h4, h5⟩ := wS_c g2
    obtain ⟨a, rfl, e1⟩ := wR_i h4
    have c2 : ¬ (0 < a) := by
      rw [fa_lt, w0, e1]
      exact c
    exact ⟨lv, rc, by simp only [mpure]; rw [if_pos hj, if_neg c2], g1, h5⟩
theorem B_if_le {x : Int} {off : Int} {tgt nx : Nat} (he : mlook (mcode j) pc = some (pc, .ifCond .le off, q)) (hy : mmeth j = some y) (hj : mjmp pc off = true) (htg : mtgt pc off = tgt) (hnx : pc + 3 = nx) (kt : x ≤ 0 → Bt E j tgt l st σ P) (kf : 0 < x → Bt E j nx l st σ P) : Bt E j pc l (wi x :: st) σ P := by
  subst htg; subst hnx
  by_cases c : x ≤ 0
  · refine B_p (pc' := mtgt pc off) he rfl rfl hy (fun lv sc g1 g2 => ?_) (kt (by omega))
    obtain ⟨v, rc, rfl, h4, h5⟩ := wS_c g2
    obtain ⟨a, rfl, e1⟩ := wR_i h4
    have c2 : a ≤ 0 := by
      rw [fa_le, w0, e1]
      exact c
    exact ⟨lv, rc, by simp only [mpure]; rw [if_pos hj, if_pos c2], g1, h5⟩
  · refine B_p (pc' := pc + 3) he rfl rfl hy (fun lv sc g1 g2 => ?_) (kf (by omega))
    obtain ⟨v, rc, rfl, h4, h5⟩ := wS_c g2
    obtain ⟨a, rfl, e1⟩ := wR_i h4
    have c2 : ¬ (a ≤ 0) := by
      rw [fa_le, w0, e1]
      exact c
    exact ⟨lv, rc, by simp only [mpure]; rw [if_pos hj, if_neg c2], g1, h5⟩
theorem B_ic_eq {x z : Int} {off : Int} {tgt nx : Nat} (he : mlook (mcode j) pc = some (pc, .if_icmp .eq off, q)) (hy : mmeth j = some y) (hj : mjmp pc off = true) (htg : mtgt pc off = tgt) (hnx : pc + 3 = nx) (kt : x = z → Bt E j tgt l st σ P) (kf : x ≠ z → Bt E j nx l st σ P) : Bt E j pc l (wi z :: wi x :: st) σ P := by
  subst htg; subst hnx
  by_cases c : x = z
  · refine B_p (pc' := mtgt pc off) he rfl rfl hy (fun lv sc g1 g2 => ?_) (kt (by omega))
    obtain ⟨v, rc, rfl, h4, h5⟩ := wS_c g2
    obtain ⟨v2, rc2, rfl, h6, h7⟩ := wS_c h5
    obtain ⟨a, rfl, e1⟩ := wR_i h4
    obtain ⟨b, rfl, e2⟩ := wR_i h6
    have c2 : b = a := by
      rw [fa_eq, e1, e2]
      exact c
    exact ⟨lv, rc2, by simp only [mpure]; rw [if_pos hj, if_pos c2], g1, h7⟩
  · refine B_p (pc' := pc + 3) he rfl rfl hy (fun lv sc g1 g2 => ?_) (kf (by omega))
    obtain ⟨v, rc, rfl, h4, h5⟩ := wS_c g2
    obtain ⟨v2, rc2, rfl, h6, h7⟩ := wS_c h5
    obtain ⟨a, rfl, e1⟩ := wR_i h4
    obtain ⟨b, rfl, e2⟩ := wR_i h6
    have c2 : ¬ (b = a) := by
      rw [fa_eq, e1, e2]
      exact c
    exact ⟨lv, rc2, by simp only [mpure]; rw [if_pos hj, if_neg c2], g1, h7⟩
theorem B_ic_ne {x z : Int} {off : Int} {tgt nx : Nat} (he : mlook (mcode j) pc = some (pc, .if_icmp .ne off, q)) (hy : mmeth j = some y) (hj : mjmp pc off = true) (htg : mtgt pc off = tgt) (hnx : pc + 3 = nx) (kt : x ≠ z → Bt E j tgt l st σ P) (kf : x = z → Bt E j nx l st σ P) : Bt E j pc l (wi z :: wi x :: st) σ P := by
  subst htg; subst hnx
  by_cases c : x = z
  · refine B_p (pc' := pc + 3) he rfl rfl hy (fun lv sc g1 g2 => ?_) (kf (by omega))
    obtain ⟨v, rc, rfl, h4, h5⟩ := wS_c g2
    obtain ⟨v2, rc2, rfl, h6, h7⟩ := wS_c h5
    obtain ⟨a, rfl, e1⟩ := wR_i h4
    obtain ⟨b, rfl, e2⟩ := wR_i h6
    have c2 : b = a := by
      rw [fa_eq, e1, e2]
      exact c
    exact ⟨lv, rc2, by simp only [mpure]; rw [if_pos hj, if_pos c2], g1, h7⟩
  · refine B_p (pc' := mtgt pc off) he rfl rfl hy (fun lv sc g1 g2 => ?_) (kt (by omega))
    obtain ⟨v, rc, rfl, h4, h5⟩ := wS_c g2
    obtain ⟨v2, rc2, rfl, h6, h7⟩ := wS_c h5
    obtain ⟨a, rfl, e1⟩ := wR_i h4
    obtain ⟨b, rfl, e2⟩ := wR_i h6
    have c2 : ¬ (b = a) := by
      rw [fa_eq, e1, e2]
      exact c
    exact ⟨lv, rc2, by simp only [mpure]; rw [if_pos hj, if_neg c2], g1, h7⟩
theorem B_ic_lt {x z : Int} {off : Int} {tgt nx : Nat} (he : mlook (mcode j) pc = some (pc, .if_icmp .lt off, q)) (hy : mmeth j = some y) (hj : mjmp pc off = true) (htg : mtgt pc off = tgt) (hnx : pc + 3 = nx) (kt : x < z → Bt E j tgt l st σ P) (kf : z ≤ x → Bt E j nx l st σ P) : Bt E j pc l (wi z :: wi x :: st) σ P := by
  subst htg; subst hnx
  by_cases c : x < z
  · refine B_p (pc' := mtgt pc off) he rfl rfl hy (fun lv sc g1 g2 => ?_) (kt (by omega))
    obtain ⟨v, rc, rfl, h4, h5⟩ := wS_c g2
    obtain ⟨v2, rc2, rfl, h6, h7⟩ := wS_c h5
    obtain ⟨a, rfl, e1⟩ := wR_i h4
    obtain ⟨b, rfl, e2⟩ := wR_i h6
    have c2 : b < a := by
      rw [fa_lt, e1, e2]
      exact c
    exact ⟨lv, rc2, by simp only [mpure]; rw [if_pos hj, if_pos c2], g1, h7⟩
  · refine B_p (pc' := pc + 3) he rfl rfl hy (fun lv sc g1 g2 => ?_) (kf (by omega))
    obtain ⟨v, rc, rfl, h4, h5⟩ := wS_c g2
    obtain ⟨v2, rc2, rfl, h6, h7⟩ := wS_c h5
    obtain ⟨a, rfl, e1⟩ := wR_i h4
    obtain ⟨b, rfl, e2⟩ := wR_i h6
    have c2 : ¬ (b < a) := by
      rw [fa_lt, e1, e2]
      exact c
    exact ⟨lv, rc2, by simp only [mpure]; rw [if_pos hj, if_neg c2], g1, h7⟩
theorem B_ic_ge {x z : Int} {off : Int} {tgt nx : Nat} (he : mlook (mcode j) pc = some (pc, .if_icmp .ge off, q)) (hy : mmeth j = some y) (hj : mjmp pc off = true) (htg : mtgt pc off = tgt) (hnx : pc + 3 = nx) (kt : z ≤ x → Bt E j tgt l st σ P) (kf : x < z → Bt E j nx l st σ P) : Bt E j pc l (wi z :: wi x :: st) σ P := by
  subst htg; subst hnx
  by_cases c : z ≤ x
  · refine B_p (pc' := mtgt pc off) he rfl rfl hy (fun lv sc g1 g2 => ?_) (kt (by omega))
    obtain ⟨v, rc, rfl, h4, h5⟩ := wS_c g2
    obtain ⟨v2, rc2, rfl, h6, h7⟩ := wS_c h5
    obtain ⟨a, rfl, e1⟩ := wR_i h4
    obtain ⟨b, rfl, e2⟩ := wR_i h6
    have c2 : a ≤ b := by
      rw [fa_le, e1, e2]
      exact c
    exact ⟨lv, rc2, by simp only [mpure]; rw [if_pos hj, if_pos c2], g1, h7⟩
  · refine B_p (pc' := pc + 3) he rfl rfl hy (fun lv sc g1 g2 => ?_) (kf (by omega))
    obtain ⟨v, rc, rfl, h4, h5⟩ := wS_c g2
    obtain ⟨v2, rc2, rfl, h6, h7⟩ := wS_c h5
    obtain ⟨a, rfl, e1⟩ := wR_i h4
    obtain ⟨b, rfl, e2⟩ := wR_i h6
    have c2 : ¬ (a ≤ b) := by
      rw [fa_le, e1, e2]
      exact c
    exact ⟨lv, rc2, by simp only [mpure]; rw [if_pos hj, if_neg c2], g1, h7⟩
theorem B_ic_gt {x z : Int} {off : Int} {tgt nx : Nat} (he : mlook (mcode j) pc = some (pc, .if_icmp .gt off, q)) (hy : mmeth j = some y) (hj : mjmp pc off = true) (htg : mtgt pc off = tgt) (hnx : pc + 3 = nx) (kt : z < x → Bt E j tgt l st σ P) (kf : x ≤ z → Bt E j nx l st σ P) : Bt E j pc l (wi z :: wi x :: st) σ P := by
  subst htg; subst hnx
  by_cases c : z < x
  · refine B_p (pc' := mtgt pc off) he rfl rfl hy (fun lv sc g1 g2 => ?_) (kt (by omega))
    obtain ⟨v, rc, rfl, h4, h5⟩ := wS_c g2
    obtain ⟨v2, rc2, rfl, h6, h7⟩ := wS_c h5
    obtain ⟨a, rfl, e1⟩ := wR_i h4
    obtain ⟨b, rfl, e2⟩ := wR_i h6
    have c2 : a < b := by
      rw [fa_lt, e1, e2]
      exact c
    exact ⟨lv, rc2, by simp only [mpure]; rw [if_pos hj, if_pos c2], g1, h7⟩
  · refine B_p (pc' := pc + 3) he rfl rfl hy (fun lv sc g1 g2 => ?_) (kf (by omega))
    obtain ⟨v, rc, rfl, h4, h5⟩ := wS_c g2
    obtain ⟨v2, rc2, rfl, h6, h7⟩ := wS_c h5
    obtain ⟨a, rfl, e1⟩ := wR_i h4
    obtain ⟨b, rfl, e2⟩ := wR_i h6
    have c2 : ¬ (a < b) := by
      rw [fa_lt, e1, e2]
      exact c
    exact ⟨lv, rc2, by simp only [mpure]; rw [if_pos hj, if_neg c2], g1, h7⟩
theorem B_ic_le {x z : Int} {off : Int} {tgt nx : Nat} (he : mlook (mcode j) pc = some (pc, .if_icmp .le off, q)) (hy : mmeth j = some y) (hj : mjmp pc off = true) (htg : mtgt pc off = tgt) (hnx : pc + 3 = nx) (kt : x ≤ z → Bt E j tgt l st σ P) (kf : z < x → Bt E j nx l st σ P) : Bt E j pc l (wi z :: wi x :: st) σ P := by
  subst htg; subst hnx
  by_cases c : x ≤ z
  · refine B_p (pc' := mtgt pc off) he rfl rfl hy (fun lv sc g1 g2 => ?_) (kt (by omega))
    obtain ⟨v, rc, rfl, h4, h5⟩ := wS_c g2
    obtain ⟨v2, rc2, rfl, h6, h7⟩ := wS_c h5
    obtain ⟨a, rfl, e1⟩ := wR_i h4
    obtain ⟨b, rfl, e2⟩ := wR_i h6
    have c2 : b ≤ a := by
      rw [fa_le, e1, e2]
      exact c
    exact ⟨lv, rc2, by simp only [mpure]; rw [if_pos hj, if_pos c2], g1, h7⟩
  · refine B_p (pc' := pc + 3) he rfl rfl hy (fun lv sc g1 g2 => ?_) (kf (by omega))
    obtain ⟨v, rc, rfl, h4, h5⟩ := wS_c g2
    obtain ⟨v2, rc2, rfl, h6, h7⟩ := wS_c h5
    obtain ⟨a, rfl, e1⟩ := wR_i h4
    obtain ⟨b, rfl, e2⟩ := wR_i h6
    have c2 : ¬ (b ≤ a) := by
      rw [fa_le, e1, e2]
      exact c
    exact ⟨lv, rc2, by simp only [mpure]; rw [if_pos hj, if_neg c2], g1, h7⟩
theorem B_switch {x lo hi dflt : Int} {offs : Array Int} (he : mlook (mcode j) pc = some (pc, .tableswitch dflt lo hi offs, q)) (hy : mmeth j = some y) (hj : mjmp pc dflt = true) (kd : (x < lo ∨ hi < x) → Bt E j (mtgt pc dflt) l st σ P) (ki : lo ≤ x → x ≤ hi → ∃ off : Int, offs[(x - lo).toNat]? = some off ∧ mjmp pc off = true ∧ Bt E j (mtgt pc off) l st σ P) : Bt E j pc l (wi x :: st) σ P := by
  by_cases c : x < lo ∨ hi < x
  · refine B_p (pc' := mtgt pc dflt) he rfl rfl hy (fun lv sc g1 g2 => ?_) (kd c)
    obtain ⟨v, rc, rfl, h4, h5⟩ := wS_c g2
    obtain ⟨a, rfl, rfl⟩ := wR_i h4
    exact ⟨lv, rc, by simp only [mpure]; rw [if_pos c, if_pos hj], g1, h5⟩
  · obtain ⟨off, k1, k2, k3⟩ := ki (by omega) (by omega)
    refine B_p (pc' := mtgt pc off) he rfl rfl hy (fun lv sc g1 g2 => ?_) k3
    obtain ⟨v, rc, rfl, h4, h5⟩ := wS_c g2
    obtain ⟨a, rfl, rfl⟩ := wR_i h4
    exact ⟨lv, rc, by simp only [mpure]; rw [if_neg c, k1]; dsimp only; rw [if_pos k2], g1, h5⟩
/-! the heap -/
theorem B_ref {c a b r idx n : Nat} {q9 : Nat} (hE : E.length = 2) (he : mlook (mcode j) pc = some (pc, .getfield idx, n, c, b, q9)) (hy : mmeth j = some y) (hc : (mCl[c]?).isSome = true) (hr : wRef c a b = some r) (k : Bt E j (pc + 3) l (wr r :: st) σ P) : Bt E j pc l (wr a :: st) σ P := by
  refine B_hp he rfl rfl hy (fun _ _ => rfl) (fun sc h nc ns g2 g3 => ?_) k
  obtain ⟨v, rc, rfl, h4, h5⟩ := wS_c g2
  cases wR_r h4
  obtain ⟨fs, h6, h7⟩ := wRef_get hE g3 hr
  obtain ⟨cl, hcl⟩ := Option.isSome_iff_exists.mp hc
  exact ⟨_, h, by simp only [mheap, h6]; rw [if_pos trivial, hcl]; dsimp only; rw [h7], wS_k (wR_mr r) h5, g3⟩
theorem B_int {c a b idx n : Nat} {q9 : Nat} (hE : E.length = 2) (he : mlook (mcode j) pc = some (pc, .getfield idx, n, c, b, q9)) (hy : mmeth j = some y) (hc : (mCl[c]?).isSome = true) (hr : wInt c a b = true) (hk : kn σ a b) (k : wI (gv σ a b) → Bt E j (pc + 3) l (wi (gv σ a b) :: st) σ P) : Bt E j pc l (wr a :: st) σ P := by
  intro ho
  refine B_hp he rfl rfl hy (fun _ _ => rfl) (fun sc h nc ns g2 g3 => ?_) (k (wInt_rng hr hk ho.2.2)) ho
  obtain ⟨v, rc, rfl, h4, h5⟩ := wS_c g2
  cases wR_r h4
  obtain ⟨fs, x, h6, h7, h8⟩ := wInt_get hE g3 hr
  obtain ⟨cl, hcl⟩ := Option.isSome_iff_exists.mp hc
  exact ⟨_, h, by simp only [mheap, h6]; rw [if_pos trivial, hcl]; dsimp only; rw [h7], wS_k (wR_mi2 (h8 hk)) h5, g3⟩
theorem B_put {c a b idx n : Nat} {q9 : Nat} {x : Int} (hE : E.length = 2) (he : mlook (mcode j) pc = some (pc, .putfield idx, n, c, b, q9)) (hy : mmeth j = some y) (hc : (mCl[c]?).isSome = true) (hr : wInt c a b = true) (hn : mfty c b = .int ∨ (mfty c b = .boolean ∧ (x = 0 ∨ x = 1))) (k : Bt E j (pc + 3) l st (wup σ a b x) P) : Bt E j pc l (wi x :: wr a :: st) σ P := by
  refine B_hp he rfl rfl hy (fun _ _ => rfl) (fun sc h nc ns g2 g3 => ?_) k
  obtain ⟨v, rc, rfl, h4, h5⟩ := wS_c g2
  obtain ⟨v2, rc2, rfl, h6, h7⟩ := wS_c h5
  cases wR_r h6
  obtain ⟨z, rfl, rfl⟩ := wR_i h4
  obtain ⟨h2, fs, x0, h8, h9, -⟩ := wInt_at g3 hr
  obtain ⟨cl, hcl⟩ := Option.isSome_iff_exists.mp hc
  have hlt : b < fs.length := (List.getElem?_eq_some_iff.mp h9).1
  have hnf : narrow (mfty c b) (.int z) = .int z ∧ fits (mfty c b) (.int z) = true := by
    rcases hn with h10 | ⟨h10, h11⟩
    · rw [h10]; exact ⟨rfl, rfl⟩
    · rw [h10]
      have h12 : z = 0 ∨ z = 1 := by
        rcases h11 with h11 | h11
        · left; rw [fa_eq, h11]; rfl
        · right; rw [fa_eq, h11]; rfl
      rcases h12 with rfl | rfl
      · exact ⟨rfl, rfl⟩
      · exact ⟨rfl, rfl⟩
  have hg : mget E.length h a = some (.inr (c, fs)) := by
    unfold mget
    rw [hE, if_neg h2, h8]
  exact ⟨rc2, _, by simp only [mheap, hg]; rw [if_pos trivial, hcl]; dsimp only; rw [if_pos ⟨hlt, hnf.1, hnf.2⟩], h7, by rw [hE]; exact Wr_put g3 h2 h8 hr⟩
theorem wnn {i : Int32} {k : Int} (e : i.toInt = k) (h : 0 ≤ k) : ¬ i < 0 ∧ i.toNatClampNeg = k.toNat := by
  refine ⟨fun h9 => ?_, ?_⟩
  · rw [fa_lt, w0] at h9
    omega
  · show i.toInt.toNat = _
    rw [e]
theorem B_ild {a n : Nat} {i : Int} (hE : E.length = 2) (he : mlook (mcode j) pc = some (pc, .iaload, q)) (hy : mmeth j = some y) (hr : wRow a = some n) (h1 : 0 ≤ i) (h2 : i < n) (hk : kn σ a i.toNat) (k : wI (gv σ a i.toNat) → Bt E j (pc + 1) l (wi (gv σ a i.toNat) :: st) σ P) : Bt E j pc l (wi i :: wr a :: st) σ P := by
  intro ho
  refine B_hp he rfl rfl hy (fun _ _ => rfl) (fun sc h nc ns g2 g3 => ?_) (k (wRow_rng hr ho.2.2 _ (by omega) hk)) ho
  obtain ⟨v, rc, rfl, h4, h5⟩ := wS_c g2
  obtain ⟨v2, rc2, rfl, h6, h7⟩ := wS_c h5
  cases wR_r h6
  obtain ⟨z, rfl, e1⟩ := wR_i h4
  obtain ⟨u, h8, h9⟩ := wRow_get hE g3 hr
  obtain ⟨z1, z2⟩ := wnn e1 h1
  have h10 := h9 i.toNat (by omega) hk
  have hq : ¬ a < E.length := by rw [hE]; exact (wRow_at g3 hr).1
  exact ⟨_, h, by simp only [mheap, if_neg hq, h8]; rw [if_neg (by rw [z2]; exact fun h11 => h11.elim z1 (fun h12 => by omega)), z2], wS_k (wR_mi2 h10) h7, g3⟩
theorem B_days {i : Int} (hE : wE E) (he : mlook (mcode j) pc = some (pc, .iaload, q)) (hy : mmeth j = some y) (h1 : 0 ≤ i) (h2 : i < 13) (k : Bt E j (pc + 1) l (wi (wD E i.toNat) :: st) σ P) : Bt E j pc l (wi i :: wr 1 :: st) σ P := by
  refine B_hp he rfl rfl hy (fun _ _ => rfl) (fun sc h nc ns g2 g3 => ?_) k
  obtain ⟨v, rc, rfl, h4, h5⟩ := wS_c g2
  obtain ⟨v2, rc2, rfl, h6, h7⟩ := wS_c h5
  cases wR_r h6
  obtain ⟨z, rfl, e1⟩ := wR_i h4
  obtain ⟨hL, f, hf⟩ := hE
  obtain ⟨z1, z2⟩ := wnn e1 h1
  have h10 : (f i.toNat).toInt = wD E i.toNat := by
    unfold wD
    rw [hf]
  have hq : 1 < E.length := by rw [hL]; decide
  exact ⟨_, h, by simp only [mheap, if_pos hq, hf]; rw [if_neg (by rw [z2]; exact fun h11 => h11.elim z1 (fun h12 => by omega)), z2], wS_k (wR_mi2 h10) h7, g3⟩
theorem B_len {a n : Nat} (hE : E.length = 2) (he : mlook (mcode j) pc = some (pc, .arraylength, q)) (hy : mmeth j = some y) (hr : wRow a = some n) (hn : n < 2147483648) (k : Bt E j (pc + 1) l (wi n :: st) σ P) : Bt E j pc l (wr a :: st) σ P := by
  refine B_hp he rfl rfl hy (fun _ _ => rfl) (fun sc h nc ns g2 g3 => ?_) k
  obtain ⟨v, rc, rfl, h4, h5⟩ := wS_c g2
  cases wR_r h4
  obtain ⟨h2, u, h6, -⟩ := wRow_at g3 hr
  have hq : ¬ a < E.length := by rw [hE]; exact h2
  have hg : mget E.length h a = some (.inl (0, n, u)) := by
    unfold mget
    rw [if_neg hq, hE, h6]
  exact ⟨.int (Int32.ofNat n) :: rc, h, by simp only [mheap, if_neg hq, hg]; rfl, ⟨wR_mi2 (nI_toInt hn), h5⟩, g3⟩
theorem B_dlen (hE : wE E) (he : mlook (mcode j) pc = some (pc, .arraylength, q)) (hy : mmeth j = some y) (k : Bt E j (pc + 1) l (wi 13 :: st) σ P) : Bt E j pc l (wr 1 :: st) σ P := by
  refine B_hp he rfl rfl hy (fun _ _ => rfl) (fun sc h nc ns g2 g3 => ?_) k
  obtain ⟨v, rc, rfl, h4, h5⟩ := wS_c g2
  cases wR_r h4
  obtain ⟨hL, f, hf⟩ := hE
  have hq : 1 < E.length := by rw [hL]; decide
  exact ⟨.int (Int32.ofNat 13) :: rc, h, by simp only [mheap, if_pos hq, hf]; rfl, ⟨wR_mi2 rfl, h5⟩, g3⟩
theorem B_ist {a n : Nat} {i x : Int} (hE : E.length = 2) (he : mlook (mcode j) pc = some (pc, .iastore, q)) (hy : mmeth j = some y) (hr : wRow a = some n) (h1 : 0 ≤ i) (h2 : i < n) (k : Bt E j (pc + 1) l st (wup σ a i.toNat x) P) : Bt E j pc l (wi x :: wi i :: wr a :: st) σ P := by
  refine B_hp he rfl rfl hy (fun _ _ => rfl) (fun sc h nc ns g2 g3 => ?_) k
  obtain ⟨v, rc, rfl, h4, h5⟩ := wS_c g2
  obtain ⟨v2, rc2, rfl, h6, h7⟩ := wS_c h5
  obtain ⟨v3, rc3, rfl, h8, h9⟩ := wS_c h7
  cases wR_r h8
  obtain ⟨z, rfl, rfl⟩ := wR_i h4
  obtain ⟨zi, rfl, e1⟩ := wR_i h6
  obtain ⟨h10, u, h11, -⟩ := wRow_at g3 hr
  obtain ⟨u2, h12, -⟩ := wRow_get hE g3 hr
  obtain ⟨z1, z2⟩ := wnn e1 h1
  have hu : u2 = u := by
    have h13 := mrow_of h12
    unfold mget at h13
    rw [hE, if_neg h10, h11] at h13
    cases h13
    rfl
  subst hu
  exact ⟨rc3, _, by simp only [mheap, h12]; rw [if_neg (by rw [z2]; exact fun h11 => h11.elim z1 (fun h12 => by omega)), z2], h9, by rw [hE]; exact Wr_row g3 h10 h11⟩
theorem B_static0 {idx n k9 : Nat} {q9 : Nat × Nat} {r : Nat} {z : String × String × String × Value} (he : mlook (mcode j) pc = some (pc, .getstatic idx, 0, k9, q9)) (hy : mmeth j = some y) (hz : mStat[k9]? = some z) (hv : z.2.2.2 = .ref r) (k : Bt E j (pc + 3) l (wr r :: st) σ P) : Bt E j pc l st σ P := by
  refine B_hp he rfl rfl hy (fun _ _ => rfl) (fun sc h nc ns g2 g3 => ?_) k
  exact ⟨.ref r :: sc, h, by simp only [mheap, hz]; rw [if_pos trivial, hv], ⟨wR_mr r, g2⟩, g3⟩
theorem B_ldc {idx m b q9 : Nat} {n : Int} (he : mlook (mcode j) pc = some (pc, .ldc idx, 0, m, b, q9)) (hy : mmeth j = some y) (hn : (Int32.ofNat m).toInt = n) (k : Bt E j (pc + 2) l (wi n :: st) σ P) : Bt E j pc l st σ P := by
  refine B_hp he rfl rfl hy (fun _ _ => rfl) (fun sc h nc ns g2 g3 => ?_) k
  exact ⟨.int (Int32.ofNat m) :: sc, h, by simp only [mheap]; rw [if_pos trivial], ⟨wR_mi2 hn, g2⟩, g3⟩
theorem B_ldc2 {idx m b q9 : Nat} {n : Int} (he : mlook (mcode j) pc = some (pc, .ldc2_w idx, 0, m, b, q9)) (hy : mmeth j = some y) (hn : (Int64.ofNat m).toInt = n) (k : Bt E j (pc + 3) l (wl n :: st) σ P) : Bt E j pc l st σ P := by
  refine B_hp he rfl rfl hy (fun _ _ => rfl) (fun sc h nc ns g2 g3 => ?_) k
  exact ⟨.long (Int64.ofNat m) :: sc, h, by simp only [mheap]; rw [if_pos trivial], ⟨wR_ml hn, g2⟩, g3⟩
/-! Math.min, Math.max -/
def wsp (j : Nat) (r : Nat) : Bool := match mmeth j with
  | some y => decide (1 ≤ y.2.2.2.2.2.1 ∧ 2 * r + 13 ≤ y.2.2.2.2.2.2 ∧ mMathPos.2.2.1 ≠ 99999 ∧ mMathPos.1 ≠ 99999)
  | none => false
theorem wsp_min {idx n b q9 : Nat} {z x : Int32} {rc : List Value} (hs : wsp j rc.length = true) : mspec j (pc, .invokestatic idx, n, 997, b, q9) (.int z :: .int x :: rc) = some (pc + 3, .int (if z < x then z else x) :: rc) := by
  unfold wsp at hs
  unfold mspec
  cases hy : mmeth j with
  | none => rw [hy] at hs; cases hs
  | some y =>
    rw [hy] at hs
    obtain ⟨h1, h2, h3, h4⟩ := of_decide_eq_true hs
    have h5 := mwords_le2 rc
    dsimp only
    rw [if_pos ⟨h1, by omega⟩, if_pos ⟨rfl, h3⟩]
theorem wsp_max {idx n b q9 : Nat} {z x : Int32} {rc : List Value} (hs : wsp j rc.length = true) : mspec j (pc, .invokestatic idx, n, 996, b, q9) (.int z :: .int x :: rc) = some (pc + 3, .int (if x < z then z else x) :: rc) := by
  unfold wsp at hs
  unfold mspec
  cases hy : mmeth j with
  | none => rw [hy] at hs; cases hs
  | some y =>
    rw [hy] at hs
    obtain ⟨h1, h2, h3, h4⟩ := of_decide_eq_true hs
    have h5 := mwords_le2 rc
    dsimp only
    rw [if_pos ⟨h1, by omega⟩, if_neg (fun h9 => by cases h9.1), if_pos ⟨rfl, h4⟩]
theorem w_min {z x : Int32} : (if z < x then z else x).toInt = min x.toInt z.toInt := by
  by_cases c : z < x
  · rw [if_pos c]
    rw [fa_lt] at c
    omega
  · rw [if_neg c]
    rw [fa_lt] at c
    omega
theorem A_min {idx n b q9 : Nat} {x z : Int} (he : mlook (mcode j) pc = some (pc, .invokestatic idx, n, 997, b, q9)) (hs : wsp j st.length = true) (k : At E j (pc + 3) l (wi (min x z) :: st) σ R) : At E j pc l (wi z :: wi x :: st) σ R := by
  intro lv sc h nc ns g1 g2 g3
  obtain ⟨v, rc, rfl, h4, h5⟩ := wS_c g2
  obtain ⟨v2, rc2, rfl, h6, h7⟩ := wS_c h5
  obtain ⟨a, rfl, rfl⟩ := wR_i h4
  obtain ⟨b, rfl, rfl⟩ := wR_i h6
  rw [← wS_len h7] at hs
  exact To.spec (pc' := pc + 3) he rfl rfl (show 990 < 997 by decide) (wsp_min hs) (k lv _ h nc ns g1 (wS_k (wR_mi2 w_min) h7) g3)
theorem B_min {idx n b q9 : Nat} {x z : Int} (he : mlook (mcode j) pc = some (pc, .invokestatic idx, n, 997, b, q9)) (hs : wsp j st.length = true) (k : Bt E j (pc + 3) l (wi (min x z) :: st) σ P) : Bt E j pc l (wi z :: wi x :: st) σ P := by
  intro ho
  obtain ⟨sc, g2⟩ := ho.2.1
  obtain ⟨v, rc, rfl, h4, h5⟩ := wS_c g2
  obtain ⟨v2, rc2, rfl, h6, h7⟩ := wS_c h5
  obtain ⟨a, rfl, rfl⟩ := wR_i h4
  obtain ⟨b, rfl, rfl⟩ := wR_i h6
  obtain ⟨vo, s, hp, k1⟩ := k ⟨ho.1, ⟨_, wS_k (wR_mi2 w_min) h7⟩, ho.2.2⟩
  exact ⟨vo, s, hp, A_min he hs k1⟩
theorem w_max {z x : Int32} : (if x < z then z else x).toInt = max x.toInt z.toInt := by
  by_cases c : x < z
  · rw [if_pos c]
    rw [fa_lt] at c
    omega
  · rw [if_neg c]
    rw [fa_lt] at c
    omega
theorem A_max {idx n b q9 : Nat} {x z : Int} (he : mlook (mcode j) pc = some (pc, .invokestatic idx, n, 996, b, q9)) (hs : wsp j st.length = true) (k : At E j (pc + 3) l (wi (max x z) :: st) σ R) : At E j pc l (wi z :: wi x :: st) σ R := by
  intro lv sc h nc ns g1 g2 g3
  obtain ⟨v, rc, rfl, h4, h5⟩ := wS_c g2
  obtain ⟨v2, rc2, rfl, h6, h7⟩ := wS_c h5
  obtain ⟨a, rfl, rfl⟩ := wR_i h4
  obtain ⟨b, rfl, rfl⟩ := wR_i h6
  rw [← wS_len h7] at hs
  exact To.spec (pc' := pc + 3) he rfl rfl (show 990 < 996 by decide) (wsp_max hs) (k lv _ h nc ns g1 (wS_k (wR_mi2 w_max) h7) g3)
theorem B_max {idx n b q9 : Nat} {x z : Int} (he : mlook (mcode j) pc = some (pc, .invokestatic idx, n, 996, b, q9)) (hs : wsp j st.length = true) (k : Bt E j (pc + 3) l (wi (max x z) :: st) σ P) : Bt E j pc l (wi z :: wi x :: st) σ P := by
  intro ho
  obtain ⟨sc, g2⟩ := ho.2.1
  obtain ⟨v, rc, rfl, h4, h5⟩ := wS_c g2
  obtain ⟨v2, rc2, rfl, h6, h7⟩ := wS_c h5
  obtain ⟨a, rfl, rfl⟩ := wR_i h4
  obtain ⟨b, rfl, rfl⟩ := wR_i h6
  obtain ⟨vo, s, hp, k1⟩ := k ⟨ho.1, ⟨_, wS_k (wR_mi2 w_max) h7⟩, ho.2.2⟩
  exact ⟨vo, s, hp, A_max he hs k1⟩
/-! calls -/
/-- a static call fits: method, linked how, how many it takes, in how many places -/
def wcS (j n k9 na nc : Nat) : Bool := match mPos[k9]?, mmeth k9 with
  | some q, some y => decide (k9 ≤ 990 ∧ q.1 ≠ 99999 ∧ q.2.2.2.2.2 = na ∧ q.2.2.2.2.1 = true ∧ n ≤ 1 ∧ nc ≤ y.2.2.1) && mfits j k9
  | _, _ => false
/-- a virtual call fits: .. class of the object (what it takes without the object) -/
def wcV (j n k9 c na nc : Nat) : Bool := match mPos[k9]?, mmeth k9, mCl[c]? with
  | some q, some y, some cl => decide (k9 ≤ 990 ∧ q.1 ≠ 99999 ∧ q.2.2.2.2.2 = na ∧ q.2.2.2.2.1 = false ∧ q.2.2.1 ≠ 99999 ∧ n = 0 ∧ cl.1 = y.1.cls ∧ 1 + nc ≤ y.2.2.1) && mfits j k9
  | _, _, _ => false
theorem A_cS {idx n k9 b q9 : Nat} {as rest : List wV} {Q : Option wV → wSt → Prop} (he : mlook (mcode j) pc = some (pc, .invokestatic idx, n, k9, b, q9)) (hc : wcS j n k9 as.length (wcats as) = true) (hst : st = as.reverse ++ rest) (hr : rest.length ≤ 4) (hF : F1 E k9 as σ Q) (k : ∀ vo s, Q vo s → At E j (pc + 3) l (vo.toList ++ rest) s R) : At E j pc l st σ R := by
  subst hst
  intro lv sc h nc ns g1 g2 g3
  obtain ⟨xs, rc, rfl, h4, h5⟩ := wS_app g2
  have h6 : wS as xs.reverse := by
    have h7 := wS_rev h4
    rwa [List.reverse_reverse] at h7
  obtain ⟨vo, v, h', s', c1, c2, c3, c4⟩ := hF xs.reverse h h6 g3
  unfold wcS at hc
  split at hc
  · rename_i q5 y5 hq5 hy5
    simp only [Bool.and_eq_true, decide_eq_true_eq] at hc
    obtain ⟨⟨d1, d2, d3, d4, d5, d6⟩, d7⟩ := hc
    have hl : xs.length = as.length := by rw [wS_len h4, List.length_reverse]
    have hl2 : (xs ++ rc).length = as.length + rc.length := by rw [List.length_append, hl]
    have ht : (xs ++ rc).take q5.2.2.2.2.2 = xs := by rw [d3, ← hl, List.take_left]
    have hd : (xs ++ rc).drop q5.2.2.2.2.2 = rc := by rw [d3, ← hl, List.drop_left]
    have h8 := mwords_le2 rc
    have h9 := wS_len h5
    have hcal : mcallee E (pc, .invokestatic idx, n, k9, b, q9) (xs ++ rc) h = some (k9, xs.reverse, rc) := by
      unfold mcallee
      dsimp only
      rw [hq5, hy5]
      dsimp only
      rw [if_neg d2, if_neg (by rw [hl2, d3]; omega), ht, hd, if_pos ⟨d4, d5, by omega, by rw [wcats_ok _ _ h6]; exact d6⟩]
    have hk : k9 ≠ 993 := by omega
    exact To.call he rfl (by show decide (k9 ≠ 993) = true; exact decide_eq_true hk) d1 hcal d7 c1 rfl rfl rfl (k vo s' c4 lv _ h' (nc + 0) (ns + 0) g1 (wS_join (wO_list c2) h5) c3)
  · cases hc
theorem A_cV {idx n k9 b q9 c a : Nat} {as rest : List wV} {Q : Option wV → wSt → Prop} (hE : E.length = 2) (he : mlook (mcode j) pc = some (pc, .invokevirtual idx, n, k9, b, q9)) (hcl : wCls a = some c) (hc : wcV j n k9 c as.length (wcats as) = true) (hst : st = as.reverse ++ (wr a :: rest)) (hr : rest.length ≤ 4) (hF : F1 E k9 (wr a :: as) σ Q) (k : ∀ vo s, Q vo s → At E j (pc + 3) l (vo.toList ++ rest) s R) : At E j pc l st σ R := by
  subst hst
  intro lv sc h nc ns g1 g2 g3
  obtain ⟨xs, rc0, rfl, h4, h50⟩ := wS_app g2
  obtain ⟨v9, rc, rfl, h51, h5⟩ := wS_c h50
  cases wR_r h51
  have h6 : wS (wr a :: as) (.ref a :: xs.reverse) := by
    have h7 := wS_rev h4
    rw [List.reverse_reverse] at h7
    exact ⟨wR_mr a, h7⟩
  obtain ⟨vo, v, h', s', c1, c2, c3, c4⟩ := hF (.ref a :: xs.reverse) h h6 g3
  obtain ⟨fs, hob⟩ := wCls_get hE g3 hcl
  unfold wcV at hc
  split at hc
  · rename_i q5 y5 cl hq5 hy5 hcl5
    simp only [Bool.and_eq_true, decide_eq_true_eq] at hc
    obtain ⟨⟨d1, d2, d3, d4, d5, d6, d8, d9⟩, d7⟩ := hc
    have hl : xs.length = as.length := by rw [wS_len h4, List.length_reverse]
    have hl2 : (xs ++ (.ref a :: rc)).length = as.length + (rc.length + 1) := by rw [List.length_append, hl, List.length_cons]
    have ht : (xs ++ (.ref a :: rc)).take q5.2.2.2.2.2 = xs := by rw [d3, ← hl, List.take_left]
    have hd : (xs ++ (.ref a :: rc)).drop q5.2.2.2.2.2 = .ref a :: rc := by rw [d3, ← hl, List.drop_left]
    have h8 := mwords_le2 rc
    have h9 := wS_len h5
    have hk : k9 ≠ 994 := by omega
    have hcal : mcallee E (pc, .invokevirtual idx, n, k9, b, q9) (xs ++ (.ref a :: rc)) h = some (k9, .ref a :: xs.reverse, rc) := by
      unfold mcallee
      dsimp only
      rw [hq5, hy5]
      dsimp only
      rw [if_neg d2, if_neg (by rw [hl2, d3]; omega), ht, hd]
      dsimp only
      rw [hob]
      dsimp only
      rw [hcl5]
      dsimp only
      rw [if_pos ⟨d4, d5, d6, d8, by omega, by rw [wcats_ok _ _ h6]; show wcats (wr a :: as) ≤ _; exact d9⟩]
    exact To.call he rfl (by show decide (k9 ≠ 994) = true; exact decide_eq_true hk) d1 hcal d7 c1 rfl rfl rfl (k vo s' c4 lv _ h' (nc + 0) (ns + 0) g1 (wS_join (wO_list c2) h5) c3)
  · cases hc
theorem F1_ok {k9 : Nat} {as : List wV} {Q : Option wV → wSt → Prop} (ha : ∃ sc, wS as sc) (hh : ∃ h, Wr σ h) (hF : F1 E k9 as σ Q) : ∃ (vo : Option wV) (s : wSt), Q vo s ∧ (∃ sc, wS vo.toList sc) ∧ ∃ h, Wr s h := by
  obtain ⟨sc, ha⟩ := ha
  obtain ⟨h, hh⟩ := hh
  obtain ⟨vo, v, h', s, -, c2, c3, c4⟩ := hF sc h ha hh
  exact ⟨vo, s, c4, ⟨_, wO_list c2⟩, ⟨h', c3⟩⟩
theorem B_cS {idx n k9 b q9 : Nat} {as rest : List wV} {Q : Option wV → wSt → Prop} (he : mlook (mcode j) pc = some (pc, .invokestatic idx, n, k9, b, q9)) (hc : wcS j n k9 as.length (wcats as) = true) (hst : st = as.reverse ++ rest) (hr : rest.length ≤ 4) (hF : Fn E k9 as σ Q) (k : ∀ vo s, Q vo s → Bt E j (pc + 3) l (vo.toList ++ rest) s P) : Bt E j pc l st σ P := by
  intro ho
  subst hst
  obtain ⟨sc, g2⟩ := ho.2.1
  obtain ⟨xs, rc, rfl, h4, h5⟩ := wS_app g2
  have h6 : wS as xs.reverse := by
    have h7 := wS_rev h4
    rwa [List.reverse_reverse] at h7
  obtain ⟨vo, s, hq, f1⟩ := hF ⟨⟨[], fun i a ha => by cases ha⟩, ⟨_, h6⟩, ho.2.2⟩
  obtain ⟨vo1, s1, ⟨rfl, rfl⟩, ⟨rv, e1⟩, e2⟩ := F1_ok ⟨_, h6⟩ ho.2.2 f1
  obtain ⟨vr, a, hp, k1⟩ := k _ _ hq ⟨ho.1, ⟨_, wS_join e1 h5⟩, e2⟩
  refine ⟨vr, a, hp, A_cS he hc rfl hr f1 (fun v9 s9 h9 => ?_)⟩
  obtain ⟨rfl, rfl⟩ := h9
  exact k1
theorem B_cV {idx n k9 b q9 c a : Nat} {as rest : List wV} {Q : Option wV → wSt → Prop} (hE : E.length = 2) (he : mlook (mcode j) pc = some (pc, .invokevirtual idx, n, k9, b, q9)) (hcl : wCls a = some c) (hc : wcV j n k9 c as.length (wcats as) = true) (hst : st = as.reverse ++ (wr a :: rest)) (hr : rest.length ≤ 4) (hF : Fn E k9 (wr a :: as) σ Q) (k : ∀ vo s, Q vo s → Bt E j (pc + 3) l (vo.toList ++ rest) s P) : Bt E j pc l st σ P := by
  intro ho
  subst hst
  obtain ⟨sc, g2⟩ := ho.2.1
  obtain ⟨xs, rc0, rfl, h4, h50⟩ := wS_app g2
  obtain ⟨v9, rc, rfl, h51, h5⟩ := wS_c h50
  cases wR_r h51
  have h6 : wS (wr a :: as) (.ref a :: xs.reverse) := by
    have h7 := wS_rev h4
    rw [List.reverse_reverse] at h7
    exact ⟨wR_mr a, h7⟩
  obtain ⟨vo, s, hq, f1⟩ := hF ⟨⟨[], fun i a ha => by cases ha⟩, ⟨_, h6⟩, ho.2.2⟩
  obtain ⟨vo1, s1, ⟨rfl, rfl⟩, ⟨rv, e1⟩, e2⟩ := F1_ok ⟨_, h6⟩ ho.2.2 f1
  obtain ⟨vr, a1, hp, k1⟩ := k _ _ hq ⟨ho.1, ⟨_, wS_join e1 h5⟩, e2⟩
  refine ⟨vr, a1, hp, A_cV hE he hcl hc rfl hr f1 (fun v9 s9 h9 => ?_)⟩
  obtain ⟨rfl, rfl⟩ := h9
  exact k1
/-! ends -/
theorem A_end {v0 : Option wV} (he : mlook (mcode j) pc = some e) (ht : mterm e = true) (hr : ∀ lv sc h, wS st sc → ∃ v, mretv ((j, pc, lv, sc), h) = some v ∧ wO v0 v) (hP : R v0 σ) : At E j pc l st σ R := by
  intro lv sc h nc ns g1 g2 g3
  obtain ⟨v, r1, r2⟩ := hr lv sc (h, nc, ns) g2
  exact To.term he ht ⟨v0, v, σ, r1, r2, g3, rfl, hP⟩
theorem B_end {v0 : Option wV} (he : mlook (mcode j) pc = some e) (ht : mterm e = true) (hr : ∀ lv sc h, wS st sc → ∃ v, mretv ((j, pc, lv, sc), h) = some v ∧ wO v0 v) (hP : P v0 σ) : Bt E j pc l st σ P := fun _ => ⟨v0, σ, hP, A_end he ht hr ⟨rfl, rfl⟩⟩
theorem B_iret {x : Int} (he : mlook (mcode j) pc = some (pc, .ireturn, q)) (hy : mmeth j = some y) (ht : y.2.2.2.1 = some .int) (hP : P (some (wi x)) σ) : Bt E j pc l [wi x] σ P := by
  refine B_end he rfl (fun lv sc h g2 => ?_) hP
  obtain ⟨v, rc, rfl, h4, h5⟩ := wS_c g2
  cases wS_n h5
  obtain ⟨a, rfl, e1⟩ := wR_i h4
  refine ⟨some (.int a), ?_, h4⟩
  unfold mretv
  dsimp only
  rw [he, hy]
  dsimp only
  rw [ht]
  exact if_pos rfl
theorem B_bret {x : Int} (he : mlook (mcode j) pc = some (pc, .ireturn, q)) (hy : mmeth j = some y) (ht : y.2.2.2.1 = some .boolean) (hx : x = 0 ∨ x = 1) (hP : P (some (wi x)) σ) : Bt E j pc l [wi x] σ P := by
  refine B_end he rfl (fun lv sc h g2 => ?_) hP
  obtain ⟨v, rc, rfl, h4, h5⟩ := wS_c g2
  cases wS_n h5
  obtain ⟨a, rfl, e1⟩ := wR_i h4
  refine ⟨some (.int a), ?_, h4⟩
  unfold mretv
  dsimp only
  rw [he, hy]
  dsimp only
  rw [ht]
  have h12 : a = 0 ∨ a = 1 := by
    rcases hx with h11 | h11
    · left; rw [fa_eq, e1, h11]; rfl
    · right; rw [fa_eq, e1, h11]; rfl
  rcases h12 with rfl | rfl
  · rfl
  · rfl
theorem B_ret (he : mlook (mcode j) pc = some (pc, .return_, q)) (hy : mmeth j = some y) (ht : y.2.2.2.1 = none) (hP : P none σ) : Bt E j pc l [] σ P := by
  refine B_end he rfl (fun lv sc h g2 => ?_) hP
  cases wS_n g2
  refine ⟨none, ?_, trivial⟩
  unfold mretv
  dsimp only
  rw [he, hy]
  dsimp only
  rw [ht]
theorem B_lret {x : Int} (he : mlook (mcode j) pc = some (pc, .lreturn, q)) (hy : mmeth j = some y) (ht : y.2.2.2.1 = some .long) (hP : P (some (wl x)) σ) : Bt E j pc l [wl x] σ P := by
  refine B_end he rfl (fun lv sc h g2 => ?_) hP
  obtain ⟨v, rc, rfl, h4, h5⟩ := wS_c g2
  cases wS_n h5
  obtain ⟨a, rfl, e1⟩ := wR_l h4
  refine ⟨some (.long a), ?_, h4⟩
  unfold mretv
  dsimp only
  rw [he, hy]
  dsimp only
  rw [ht]
theorem B_dret {x : UInt64} (he : mlook (mcode j) pc = some (pc, .dreturn, q)) (hy : mmeth j = some y) (ht : y.2.2.2.1 = some .double) (hP : P (some (wd x)) σ) : Bt E j pc l [wd x] σ P := by
  refine B_end he rfl (fun lv sc h g2 => ?_) hP
  obtain ⟨v, rc, rfl, h4, h5⟩ := wS_c g2
  cases wS_n h5
  cases wR_d h4
  refine ⟨some (.double x), ?_, h4⟩
  unfold mretv
  dsimp only
  rw [he, hy]
  dsimp only
  rw [ht]
theorem B_aret {a : Nat} {C : String} (he : mlook (mcode j) pc = some (pc, .areturn, q)) (hy : mmeth j = some y) (ht : y.2.2.2.1 = some (.object C)) (hP : P (some (wr a)) σ) : Bt E j pc l [wr a] σ P := by
  refine B_end he rfl (fun lv sc h g2 => ?_) hP
  obtain ⟨v, rc, rfl, h4, h5⟩ := wS_c g2
  cases wS_n h5
  cases wR_r h4
  refine ⟨some (.ref a), ?_, h4⟩
  unfold mretv
  dsimp only
  rw [he, hy]
  dsimp only
  rw [ht]
end WA
end
section
/-! ===== the methods; a table at T; rows of numbers ===== -/
theorem my_0 : mmeth 0 = some (yX0_init, cX0_init, 1, (none), RX0, 2, 41) := rfl
theorem my_1 : mmeth 1 = some (yX0_add, cX0_add, 4, (none), RX0, 1, 22) := rfl
theorem my_2 : mmeth 2 = some (yX0_fact, cX0_fact, 3, (some .int), RX0, 1, 21) := rfl
theorem my_3 : mmeth 3 = some (yX0_inColumn, cX0_inColumn, 4, (some .int), RX0, 1, 21) := rfl
theorem my_4 : mmeth 4 = some (yX1_isWhole, cX1_isWhole, 5, (some .boolean), RX1, 2, 44) := rfl
theorem my_5 : mmeth 5 = some (yX1_isDecimal, cX1_isDecimal, 8, (some .boolean), RX1, 2, 44) := rfl
theorem my_6 : mmeth 6 = some (yX1_isFlag, cX1_isFlag, 3, (some .boolean), RX1, 1, 21) := rfl
theorem my_7 : mmeth 7 = some (yX1_wholeNumber, cX1_wholeNumber, 4, (some .int), RX1, 2, 45) := rfl
theorem my_8 : mmeth 8 = some (yX1_thousandths, cX1_thousandths, 8, (some .int), RX1, 2, 45) := rfl
theorem my_9 : mmeth 9 = some (yX1_dayNumber, cX1_dayNumber, 10, (some .int), RX1, 2, 45) := rfl
theorem my_10 : mmeth 10 = some (yX1_isOneOrTwo, cX1_isOneOrTwo, 1, (some .boolean), RX1, 0, 0) := rfl
theorem my_11 : mmeth 11 = some (yX1_behindMinus, cX1_behindMinus, 3, (some .int), RX1, 1, 21) := rfl
theorem my_12 : mmeth 12 = some (yX1_digitsFrom, cX1_digitsFrom, 4, (some .int), RX1, 1, 21) := rfl
theorem my_13 : mmeth 13 = some (yX1_number, cX1_number, 5, (some .int), RX1, 1, 21) := rfl
theorem my_14 : mmeth 14 = some (yX1_daysIn, cX1_daysIn, 3, (some .int), RX1, 1, 20) := rfl
theorem my_15 : mmeth 15 = some (yX1_daysAheadOfMonth, cX1_daysAheadOfMonth, 3, (some .int), RX1, 1, 20) := rfl
theorem my_16 : mmeth 16 = some (yX1_daysAheadOfYear, cX1_daysAheadOfYear, 1, (some .int), RX1, 1, 20) := rfl
theorem my_17 : mmeth 17 = some (yX1_leapYearsTo, cX1_leapYearsTo, 1, (some .int), RX1, 0, 0) := rfl
theorem my_18 : mmeth 18 = some (yX1_isLeap, cX1_isLeap, 1, (some .boolean), RX1, 0, 0) := rfl
theorem my_19 : mmeth 19 = some (yX2_init, cX2_init, 2, (none), RX2, 1, 20) := rfl
theorem my_20 : mmeth 20 = some (yX2_at, cX2_at, 2, (some .int), RX2, 0, 0) := rfl
theorem my_21 : mmeth 21 = some (yX2_put, cX2_put, 3, (none), RX2, 0, 0) := rfl
theorem my_22 : mmeth 22 = some (yX3_init, cX3_init, 1, (none), RX3, 2, 41) := rfl
theorem my_23 : mmeth 23 = some (yX3_read, cX3_read, 7, (none), RX3, 3, 73) := rfl
theorem my_24 : mmeth 24 = some (yX3_isMoreToRead, cX3_isMoreToRead, 3, (some .boolean), RX3, 0, 0) := rfl
theorem my_25 : mmeth 25 = some (yX3_readPlain, cX3_readPlain, 7, (some .int), RX3, 2, 46) := rfl
theorem my_26 : mmeth 26 = some (yX3_readQuoted, cX3_readQuoted, 8, (some .int), RX3, 2, 46) := rfl
theorem my_27 : mmeth 27 = some (yX3_endOfCell, cX3_endOfCell, 5, (some .int), RX3, 1, 21) := rfl
theorem my_28 : mmeth 28 = some (yX3_takeSigns, cX3_takeSigns, 5, (none), RX3, 1, 22) := rfl
theorem my_29 : mmeth 29 = some (yX3_closeCell, cX3_closeCell, 3, (none), RX3, 1, 22) := rfl
theorem my_30 : mmeth 30 = some (yX3_closeRow, cX3_closeRow, 3, (none), RX3, 1, 22) := rfl
theorem my_31 : mmeth 31 = some (yX3_findUsualWidth, cX3_findUsualWidth, 4, (none), RX3, 2, 44) := rfl
theorem my_32 : mmeth 32 = some (yX3_rowsOfWidth, cX3_rowsOfWidth, 4, (some .int), RX3, 1, 21) := rfl
theorem my_33 : mmeth 33 = some (yX3_columnCount, cX3_columnCount, 1, (some .int), RX3, 1, 21) := rfl
theorem my_34 : mmeth 34 = some (yX3_points, cX3_points, 1, (some .int), RX3, 2, 41) := rfl
theorem my_35 : mmeth 35 = some (yX3_cellsIn, cX3_cellsIn, 2, (some .int), RX3, 1, 21) := rfl
theorem my_36 : mmeth 36 = some (yX3_cellAt, cX3_cellAt, 3, (some .int), RX3, 2, 42) := rfl
theorem my_37 : mmeth 37 = some (yX3_haveSameSigns, cX3_haveSameSigns, 7, (some .boolean), RX3, 1, 21) := rfl
theorem my_38 : mmeth 38 = some (yX3_quotedCells, cX3_quotedCells, 3, (some .int), RX3, 1, 21) := rfl
theorem my_39 : mmeth 39 = some (yX4_init, cX4_init, 2, (none), RX4, 3, 61) := rfl
theorem my_40 : mmeth 40 = some (yX4_settle, cX4_settle, 4, (none), RX4, 5, 112) := rfl
theorem my_41 : mmeth 41 = some (yX4_guessedMark, cX4_guessedMark, 6, (some .int), RX4, 3, 71) := rfl
theorem my_42 : mmeth 42 = some (yX4_nameCell, cX4_nameCell, 8, (none), RX4, 3, 74) := rfl
theorem my_43 : mmeth 43 = some (yX4_guessedHeading, cX4_guessedHeading, 4, (some .int), RX4, 4, 89) := rfl
theorem my_44 : mmeth 44 = some (yX4_tallyKinds, cX4_tallyKinds, 6, (none), RX4, 3, 64) := rfl
theorem my_45 : mmeth 45 = some (yX4_talliedFilled, cX4_talliedFilled, 3, (some .int), RX4, 1, 21) := rfl
theorem my_46 : mmeth 46 = some (yX4_talliedKind, cX4_talliedKind, 7, (some .int), RX4, 2, 43) := rfl
theorem my_47 : mmeth 47 = some (yX4_markRepeats, cX4_markRepeats, 4, (none), RX4, 4, 89) := rfl
theorem my_48 : mmeth 48 = some (yX4_isAhead, cX4_isAhead, 6, (some .boolean), RX4, 3, 64) := rfl
theorem my_49 : mmeth 49 = some (yX4_findFaults, cX4_findFaults, 7, (none), RX4, 3, 67) := rfl
theorem my_50 : mmeth 50 = some (yX4_faultOfCell, cX4_faultOfCell, 4, (some .int), RX4, 2, 44) := rfl
theorem my_51 : mmeth 51 = some (yX4_isOfKind, cX4_isOfKind, 4, (some .boolean), RX4, 1, 21) := rfl
theorem my_52 : mmeth 52 = some (yX4_keepOnce, cX4_keepOnce, 3, (none), RX4, 4, 87) := rfl
theorem my_53 : mmeth 53 = some (yX4_isSameRow, cX4_isSameRow, 4, (some .boolean), RX4, 3, 64) := rfl
theorem my_54 : mmeth 54 = some (yX4_hasColumn, cX4_hasColumn, 2, (some .boolean), RX4, 2, 41) := rfl
theorem my_55 : mmeth 55 = some (yX4_hasKept, cX4_hasKept, 2, (some .boolean), RX4, 0, 0) := rfl
theorem my_56 : mmeth 56 = some (yX4_choice, cX4_choice, 2, (some .int), RX4, 0, 0) := rfl
theorem my_57 : mmeth 57 = some (yX4_howMany, cX4_howMany, 2, (some .int), RX4, 2, 43) := rfl
theorem my_58 : mmeth 58 = some (yX4_factOfCell, cX4_factOfCell, 3, (some .int), RX4, 1, 21) := rfl
theorem my_59 : mmeth 59 = some (yX4_factOfColumn, cX4_factOfColumn, 3, (some .int), RX4, 4, 89) := rfl
theorem my_60 : mmeth 60 = some (yX4_repeatsIn, cX4_repeatsIn, 5, (some .int), RX4, 3, 64) := rfl
theorem my_61 : mmeth 61 = some (yX4_cellOfKept, cX4_cellOfKept, 3, (some .int), RX4, 3, 64) := rfl
theorem my_62 : mmeth 62 = some (yX4_valueIn, cX4_valueIn, 6, (some .int), RX4, 4, 86) := rfl
theorem my_63 : mmeth 63 = some (yX4_isFilledIn, cX4_isFilledIn, 3, (some .boolean), RX4, 4, 86) := rfl
theorem my_64 : mmeth 64 = some (yX4_extremeOf, cX4_extremeOf, 8, (some .int), RX4, 5, 111) := rfl
theorem my_65 : mmeth 65 = some (yX4_total, cX4_total, 5, (some .long), RX4, 5, 111) := rfl
theorem my_66 : mmeth 66 = some (yX4_filledInKept, cX4_filledInKept, 4, (some .int), RX4, 5, 108) := rfl
theorem my_67 : mmeth 67 = some (yX4_placeOf, cX4_placeOf, 4, (some .int), RX4, 5, 111) := rfl
theorem my_68 : mmeth 68 = some (yX5_init, cX5_init, 1, (none), RX5, 2, 41) := rfl
theorem my_69 : mmeth 69 = some (yX5_hasRoomFor, cX5_hasRoomFor, 2, (some .boolean), RX5, 0, 0) := rfl
theorem my_70 : mmeth 70 = some (yX5_write, cX5_write, 2, (none), RX5, 1, 22) := rfl
theorem my_71 : mmeth 71 = some (yX5_writeNumber, cX5_writeNumber, 5, (none), RX5, 1, 22) := rfl
theorem my_72 : mmeth 72 = some (yX5_digitsOf, cX5_digitsOf, 3, (some .int), RX5, 0, 0) := rfl
theorem my_73 : mmeth 73 = some (yX6_init, cX6_init, 1, (none), RX6, 2, 41) := rfl
theorem my_74 : mmeth 74 = some (yX6_mustBeFilled, cX6_mustBeFilled, 3, (some .boolean), RX6, 1, 21) := rfl
theorem my_75 : mmeth 75 = some (yX6_mustDiffer, cX6_mustDiffer, 3, (some .boolean), RX6, 1, 21) := rfl
theorem my_76 : mmeth 76 = some (yX7_init, cX7_init, 1, (none), RX7, 4, 82) := rfl
theorem my_77 : mmeth 77 = some (yX7_sign, cX7_sign, 2, (some .int), RX7, 6, 90) := rfl
theorem my_78 : mmeth 78 = some (yX7_digits, cX7_digits, 2, (some .int), RX7, 6, 90) := rfl
theorem my_79 : mmeth 79 = some (yX7_letters, cX7_letters, 4, (some .int), RX7, 6, 90) := rfl
theorem my_80 : mmeth 80 = some (yX7_three, cX7_three, 5, (some .int), RX7, 6, 90) := rfl
theorem my_81 : mmeth 81 = some (yX7_tell, cX7_tell, 4, (some .int), RX7, 6, 90) := rfl
theorem my_82 : mmeth 82 = some (yX7_setShare, cX7_setShare, 3, (some .int), RX7, 6, 90) := rfl
theorem my_83 : mmeth 83 = some (yX7_setRule, cX7_setRule, 4, (some .int), RX7, 6, 90) := rfl
theorem my_84 : mmeth 84 = some (yX7_used, cX7_used, 2, (some .int), RX7, 7, 157) := rfl
theorem my_85 : mmeth 85 = some (yX7_score, cX7_score, 2, (some .int), RX7, 6, 119) := rfl
theorem my_86 : mmeth 86 = some (yX7_many, cX7_many, 2, (some .int), RX7, 7, 157) := rfl
theorem my_87 : mmeth 87 = some (yX7_width, cX7_width, 3, (some .int), RX7, 7, 157) := rfl
theorem my_88 : mmeth 88 = some (yX7_cell, cX7_cell, 6, (some .int), RX7, 7, 157) := rfl
theorem my_89 : mmeth 89 = some (yX7_signAt, cX7_signAt, 6, (some .int), RX7, 7, 157) := rfl
theorem my_90 : mmeth 90 = some (yX7_column, cX7_column, 4, (some .int), RX7, 7, 157) := rfl
theorem my_91 : mmeth 91 = some (yX7_extreme, cX7_extreme, 4, (some .int), RX7, 7, 157) := rfl
theorem my_92 : mmeth 92 = some (yX7_sum, cX7_sum, 3, (some .long), RX7, 7, 157) := rfl
theorem my_93 : mmeth 93 = some (yX7_mean, cX7_mean, 4, (some .double), RX7, 7, 157) := rfl
theorem my_94 : mmeth 94 = some (yX7_fault, cX7_fault, 4, (some .int), RX7, 7, 157) := rfl
theorem my_95 : mmeth 95 = some (yX7_kept, cX7_kept, 3, (some .int), RX7, 7, 157) := rfl
theorem my_96 : mmeth 96 = some (yX7_value, cX7_value, 4, (some .int), RX7, 7, 157) := rfl
theorem my_97 : mmeth 97 = some (yX7_find, cX7_find, 4, (some .int), RX7, 7, 157) := rfl
theorem my_98 : mmeth 98 = some (yX7_keptWith, cX7_keptWith, 2, (some .int), RX7, 7, 157) := rfl
theorem my_99 : mmeth 99 = some (yX7_kindWith, cX7_kindWith, 4, (some .int), RX7, 7, 157) := rfl
theorem my_100 : mmeth 100 = some (yX7_digest, cX7_digest, 5, (some .long), RX7, 7, 164) := rfl
theorem my_101 : mmeth 101 = some (yX7_withRows, cX7_withRows, 9, (some .long), RX7, 3, 64) := rfl
theorem my_102 : mmeth 102 = some (yX7_withColumns, cX7_withColumns, 7, (some .long), RX7, 6, 138) := rfl
theorem my_103 : mmeth 103 = some (yX7_withFaultsAndKept, cX7_withFaultsAndKept, 7, (some .long), RX7, 2, 43) := rfl
theorem my_104 : mmeth 104 = some (yX7_mixed, cX7_mixed, 4, (some .long), RX7, 0, 0) := rfl
theorem my_105 : mmeth 105 = some (yX7_isSign, cX7_isSign, 1, (some .boolean), RX7, 0, 0) := rfl
theorem my_106 : mmeth 106 = some (yX7_isParter, cX7_isParter, 1, (some .boolean), RX7, 0, 0) := rfl
theorem my_107 : mmeth 107 = some (yX7_isShare, cX7_isShare, 1, (some .boolean), RX7, 0, 0) := rfl
theorem my_108 : mmeth 108 = some (yX7_tableNow, cX7_tableNow, 3, (some (.object "Tallow$Table")), RX7, 6, 135) := rfl
theorem my_109 : mmeth 109 = some (yX7_settledWith, cX7_settledWith, 3, (some (.object "Tallow$Table")), RX7, 6, 135) := rfl
theorem my_110 : mmeth 110 = some (yX7_tableWith, cX7_tableWith, 2, (some (.object "Tallow$Table")), RX7, 0, 0) := rfl
theorem my_111 : mmeth 111 = some (yX7_readText, cX7_readText, 1, (none), RX7, 4, 99) := rfl
theorem my_112 : mmeth 112 = some (yX7_unsettleAll, cX7_unsettleAll, 1, (none), RX7, 0, 0) := rfl
theorem my_113 : mmeth 113 = some (yX7_guessedParter, cX7_guessedParter, 5, (some .int), RX7, 3, 61) := rfl
theorem my_114 : mmeth 114 = some (yL_below, cL_below, 2, (some .int), RL, 0, 0) := rfl
theorem my_115 : mmeth 115 = some (yL_cell, cL_cell, 2, (some .int), RL, 0, 0) := rfl
theorem my_116 : mmeth 116 = some (yL_law, cL_law, 21, (some .boolean), RL, 8, 188) := rfl
/-- the four tables -/
abbrev Tb (T : Nat) : Prop := T = 11 ∨ T = 46 ∨ T = 81 ∨ T = 116
/-- a row of numbers at n, its ints at n + 1 -/
def Nm (n len : Nat) : Prop := wCls n = some 1 ∧ wRef 1 n 0 = some (n + 1) ∧ wRow (n + 1) = some len
theorem nmc_4 : Nm 4 500 := ⟨rfl, rfl, rfl⟩
theorem nmc_7 : Nm 7 3 := ⟨rfl, rfl, rfl⟩
theorem nmc_9 : Nm 9 20 := ⟨rfl, rfl, rfl⟩
theorem wc_0 {T : Nat} (hT : Tb T) : wCls T = some 3 := by rcases hT with rfl | rfl | rfl | rfl <;> rfl
theorem wf_0_0 {T : Nat} (hT : Tb T) : wRef 3 T 0 = some (T + 1) := by rcases hT with rfl | rfl | rfl | rfl <;> rfl
theorem wf_0_1 {T : Nat} (hT : Tb T) : wRef 3 T 1 = some (T + 16) := by rcases hT with rfl | rfl | rfl | rfl <;> rfl
theorem wf_0_2 {T : Nat} (hT : Tb T) : wRef 3 T 2 = some (T + 23) := by rcases hT with rfl | rfl | rfl | rfl <;> rfl
theorem wf_0_3 {T : Nat} (hT : Tb T) : wRef 3 T 3 = some (T + 25) := by rcases hT with rfl | rfl | rfl | rfl <;> rfl
theorem wf_0_4 {T : Nat} (hT : Tb T) : wRef 3 T 4 = some (T + 27) := by rcases hT with rfl | rfl | rfl | rfl <;> rfl
theorem wf_0_5 {T : Nat} (hT : Tb T) : wRef 3 T 5 = some (T + 29) := by rcases hT with rfl | rfl | rfl | rfl <;> rfl
theorem wf_0_6 {T : Nat} (hT : Tb T) : wRef 3 T 6 = some (T + 31) := by rcases hT with rfl | rfl | rfl | rfl <;> rfl
theorem wf_0_7 {T : Nat} (hT : Tb T) : wRef 3 T 7 = some (T + 33) := by rcases hT with rfl | rfl | rfl | rfl <;> rfl
theorem wn_0_8 {T : Nat} (hT : Tb T) : wInt 3 T 8 = true := by rcases hT with rfl | rfl | rfl | rfl <;> rfl
theorem wn_0_9 {T : Nat} (hT : Tb T) : wInt 3 T 9 = true := by rcases hT with rfl | rfl | rfl | rfl <;> rfl
theorem wn_0_10 {T : Nat} (hT : Tb T) : wInt 3 T 10 = true := by rcases hT with rfl | rfl | rfl | rfl <;> rfl
theorem wn_0_11 {T : Nat} (hT : Tb T) : wInt 3 T 11 = true := by rcases hT with rfl | rfl | rfl | rfl <;> rfl
theorem wn_0_12 {T : Nat} (hT : Tb T) : wInt 3 T 12 = true := by rcases hT with rfl | rfl | rfl | rfl <;> rfl
theorem wc_1 {T : Nat} (hT : Tb T) : wCls (T + 1) = some 2 := by rcases hT with rfl | rfl | rfl | rfl <;> rfl
theorem wf_1_0 {T : Nat} (hT : Tb T) : wRef 2 (T + 1) 0 = some (T + 2) := by rcases hT with rfl | rfl | rfl | rfl <;> rfl
theorem wf_1_1 {T : Nat} (hT : Tb T) : wRef 2 (T + 1) 1 = some (T + 4) := by rcases hT with rfl | rfl | rfl | rfl <;> rfl
theorem wf_1_2 {T : Nat} (hT : Tb T) : wRef 2 (T + 1) 2 = some (T + 6) := by rcases hT with rfl | rfl | rfl | rfl <;> rfl
theorem wf_1_3 {T : Nat} (hT : Tb T) : wRef 2 (T + 1) 3 = some (T + 8) := by rcases hT with rfl | rfl | rfl | rfl <;> rfl
theorem wf_1_4 {T : Nat} (hT : Tb T) : wRef 2 (T + 1) 4 = some (T + 10) := by rcases hT with rfl | rfl | rfl | rfl <;> rfl
theorem wf_1_5 {T : Nat} (hT : Tb T) : wRef 2 (T + 1) 5 = some (T + 12) := by rcases hT with rfl | rfl | rfl | rfl <;> rfl
theorem wf_1_6 {T : Nat} (hT : Tb T) : wRef 2 (T + 1) 6 = some (T + 14) := by rcases hT with rfl | rfl | rfl | rfl <;> rfl
theorem wn_1_7 {T : Nat} (hT : Tb T) : wInt 2 (T + 1) 7 = true := by rcases hT with rfl | rfl | rfl | rfl <;> rfl
theorem wn_1_8 {T : Nat} (hT : Tb T) : wInt 2 (T + 1) 8 = true := by rcases hT with rfl | rfl | rfl | rfl <;> rfl
theorem wn_1_9 {T : Nat} (hT : Tb T) : wInt 2 (T + 1) 9 = true := by rcases hT with rfl | rfl | rfl | rfl <;> rfl
theorem wn_1_10 {T : Nat} (hT : Tb T) : wInt 2 (T + 1) 10 = true := by rcases hT with rfl | rfl | rfl | rfl <;> rfl
theorem wn_1_11 {T : Nat} (hT : Tb T) : wInt 2 (T + 1) 11 = true := by rcases hT with rfl | rfl | rfl | rfl <;> rfl
theorem wn_1_12 {T : Nat} (hT : Tb T) : wInt 2 (T + 1) 12 = true := by rcases hT with rfl | rfl | rfl | rfl <;> rfl
theorem wn_1_13 {T : Nat} (hT : Tb T) : wInt 2 (T + 1) 13 = true := by rcases hT with rfl | rfl | rfl | rfl <;> rfl
theorem wc_2 {T : Nat} (hT : Tb T) : wCls (T + 2) = some 1 := by rcases hT with rfl | rfl | rfl | rfl <;> rfl
theorem nm_2 {T : Nat} (hT : Tb T) : Nm (T + 2) 500 := by rcases hT with rfl | rfl | rfl | rfl <;> exact ⟨rfl, rfl, rfl⟩
theorem wc_4 {T : Nat} (hT : Tb T) : wCls (T + 4) = some 1 := by rcases hT with rfl | rfl | rfl | rfl <;> rfl
theorem nm_4 {T : Nat} (hT : Tb T) : Nm (T + 4) 501 := by rcases hT with rfl | rfl | rfl | rfl <;> exact ⟨rfl, rfl, rfl⟩
theorem wc_6 {T : Nat} (hT : Tb T) : wCls (T + 6) = some 1 := by rcases hT with rfl | rfl | rfl | rfl <;> rfl
theorem nm_6 {T : Nat} (hT : Tb T) : Nm (T + 6) 501 := by rcases hT with rfl | rfl | rfl | rfl <;> exact ⟨rfl, rfl, rfl⟩
theorem wc_8 {T : Nat} (hT : Tb T) : wCls (T + 8) = some 1 := by rcases hT with rfl | rfl | rfl | rfl <;> rfl
theorem nm_8 {T : Nat} (hT : Tb T) : Nm (T + 8) 501 := by rcases hT with rfl | rfl | rfl | rfl <;> exact ⟨rfl, rfl, rfl⟩
theorem wc_10 {T : Nat} (hT : Tb T) : wCls (T + 10) = some 1 := by rcases hT with rfl | rfl | rfl | rfl <;> rfl
theorem nm_10 {T : Nat} (hT : Tb T) : Nm (T + 10) 501 := by rcases hT with rfl | rfl | rfl | rfl <;> exact ⟨rfl, rfl, rfl⟩
theorem wc_12 {T : Nat} (hT : Tb T) : wCls (T + 12) = some 1 := by rcases hT with rfl | rfl | rfl | rfl <;> rfl
theorem nm_12 {T : Nat} (hT : Tb T) : Nm (T + 12) 60 := by rcases hT with rfl | rfl | rfl | rfl <;> exact ⟨rfl, rfl, rfl⟩
theorem wc_14 {T : Nat} (hT : Tb T) : wCls (T + 14) = some 1 := by rcases hT with rfl | rfl | rfl | rfl <;> rfl
theorem nm_14 {T : Nat} (hT : Tb T) : Nm (T + 14) 60 := by rcases hT with rfl | rfl | rfl | rfl <;> exact ⟨rfl, rfl, rfl⟩
theorem wc_16 {T : Nat} (hT : Tb T) : wCls (T + 16) = some 0 := by rcases hT with rfl | rfl | rfl | rfl <;> rfl
theorem wf_16_0 {T : Nat} (hT : Tb T) : wRef 0 (T + 16) 0 = some (T + 17) := by rcases hT with rfl | rfl | rfl | rfl <;> rfl
theorem wf_16_1 {T : Nat} (hT : Tb T) : wRef 0 (T + 16) 1 = some (T + 19) := by rcases hT with rfl | rfl | rfl | rfl <;> rfl
theorem wf_16_2 {T : Nat} (hT : Tb T) : wRef 0 (T + 16) 2 = some (T + 21) := by rcases hT with rfl | rfl | rfl | rfl <;> rfl
theorem wn_16_3 {T : Nat} (hT : Tb T) : wInt 0 (T + 16) 3 = true := by rcases hT with rfl | rfl | rfl | rfl <;> rfl
theorem wc_17 {T : Nat} (hT : Tb T) : wCls (T + 17) = some 1 := by rcases hT with rfl | rfl | rfl | rfl <;> rfl
theorem nm_17 {T : Nat} (hT : Tb T) : Nm (T + 17) 561 := by rcases hT with rfl | rfl | rfl | rfl <;> exact ⟨rfl, rfl, rfl⟩
theorem wc_19 {T : Nat} (hT : Tb T) : wCls (T + 19) = some 1 := by rcases hT with rfl | rfl | rfl | rfl <;> rfl
theorem nm_19 {T : Nat} (hT : Tb T) : Nm (T + 19) 561 := by rcases hT with rfl | rfl | rfl | rfl <;> exact ⟨rfl, rfl, rfl⟩
theorem wc_21 {T : Nat} (hT : Tb T) : wCls (T + 21) = some 1 := by rcases hT with rfl | rfl | rfl | rfl <;> rfl
theorem nm_21 {T : Nat} (hT : Tb T) : Nm (T + 21) 561 := by rcases hT with rfl | rfl | rfl | rfl <;> exact ⟨rfl, rfl, rfl⟩
theorem wc_23 {T : Nat} (hT : Tb T) : wCls (T + 23) = some 1 := by rcases hT with rfl | rfl | rfl | rfl <;> rfl
theorem nm_23 {T : Nat} (hT : Tb T) : Nm (T + 23) 60 := by rcases hT with rfl | rfl | rfl | rfl <;> exact ⟨rfl, rfl, rfl⟩
theorem wc_25 {T : Nat} (hT : Tb T) : wCls (T + 25) = some 1 := by rcases hT with rfl | rfl | rfl | rfl <;> rfl
theorem nm_25 {T : Nat} (hT : Tb T) : Nm (T + 25) 501 := by rcases hT with rfl | rfl | rfl | rfl <;> exact ⟨rfl, rfl, rfl⟩
theorem wc_27 {T : Nat} (hT : Tb T) : wCls (T + 27) = some 1 := by rcases hT with rfl | rfl | rfl | rfl <;> rfl
theorem nm_27 {T : Nat} (hT : Tb T) : Nm (T + 27) 501 := by rcases hT with rfl | rfl | rfl | rfl <;> exact ⟨rfl, rfl, rfl⟩
theorem wc_29 {T : Nat} (hT : Tb T) : wCls (T + 29) = some 1 := by rcases hT with rfl | rfl | rfl | rfl <;> rfl
theorem nm_29 {T : Nat} (hT : Tb T) : Nm (T + 29) 501 := by rcases hT with rfl | rfl | rfl | rfl <;> exact ⟨rfl, rfl, rfl⟩
theorem wc_31 {T : Nat} (hT : Tb T) : wCls (T + 31) = some 1 := by rcases hT with rfl | rfl | rfl | rfl <;> rfl
theorem nm_31 {T : Nat} (hT : Tb T) : Nm (T + 31) 20 := by rcases hT with rfl | rfl | rfl | rfl <;> exact ⟨rfl, rfl, rfl⟩
theorem wc_33 {T : Nat} (hT : Tb T) : wCls (T + 33) = some 1 := by rcases hT with rfl | rfl | rfl | rfl <;> rfl
theorem nm_33 {T : Nat} (hT : Tb T) : Nm (T + 33) 6 := by rcases hT with rfl | rfl | rfl | rfl <;> exact ⟨rfl, rfl, rfl⟩
/-- what at(i) answers, what put(i, x) leaves; i's int is known, if there is one -/
def rd (σ : wSt) (n len : Nat) (i : Int) : Int := if 0 ≤ i ∧ i < len then gv σ (n + 1) i.toNat else 0
def pt (σ : wSt) (n len : Nat) (i x : Int) : wSt := if 0 ≤ i ∧ i < len then wup σ (n + 1) i.toNat x else σ
def kr (σ : wSt) (n len : Nat) (i : Int) : Prop := 0 ≤ i → i < len → kn σ (n + 1) i.toNat
/-- nothing but at such addresses has changed -/
def Off (R : Nat → Prop) (σ σ' : wSt) : Prop := ∀ a, ¬ R a → ∀ b, σ' a b = σ a b
section RD
variable {σ σ' σ'' : wSt} {n len m l a b : Nat} {i k x : Int} {R R' : Nat → Prop}
theorem rd_in (h1 : 0 ≤ i) (h2 : i < len) : rd σ n len i = gv σ (n + 1) i.toNat := if_pos ⟨h1, h2⟩
theorem rd_out (h : ¬ (0 ≤ i ∧ i < len)) : rd σ n len i = 0 := if_neg h
theorem rd_pt : rd (pt σ n len i x) n len k = if 0 ≤ i ∧ i < len ∧ k = i then x else rd σ n len k := by
  unfold pt
  by_cases hi : 0 ≤ i ∧ i < len
  · rw [if_pos hi]
    by_cases hk : k = i
    · subst hk
      rw [if_pos ⟨hi.1, hi.2, rfl⟩, rd_in hi.1 hi.2, gv_eq]
    · rw [if_neg (fun h => hk h.2.2)]
      unfold rd
      by_cases h : 0 ≤ k ∧ k < len
      · rw [if_pos h, if_pos h, gv_ne (by omega)]
      · rw [if_neg h, if_neg h]
  · rw [if_neg hi, if_neg (fun h => hi ⟨h.1, h.2.1⟩)]
theorem rd_pt_eq (h1 : 0 ≤ i) (h2 : i < len) : rd (pt σ n len i x) n len i = x := by rw [rd_pt, if_pos ⟨h1, h2, rfl⟩]
theorem rd_pt_nk (h : k ≠ i) : rd (pt σ n len i x) n len k = rd σ n len k := by rw [rd_pt, if_neg (fun e => h e.2.2)]
theorem gv_pt (h : a ≠ n + 1) : gv (pt σ n len i x) a b = gv σ a b := by
  unfold pt
  split
  · exact gv_ne (fun e => h e.1)
  · rfl
theorem rd_pt_ne (h : m ≠ n) : rd (pt σ n len i x) m l k = rd σ m l k := by
  unfold rd
  rw [gv_pt (fun e => h (by omega))]
theorem rd_wup (h : m + 1 ≠ a) : rd (wup σ a b x) m l k = rd σ m l k := by
  unfold rd
  rw [gv_ne (fun e => h e.1)]
theorem kn_pt (h : kn σ a b) : kn (pt σ n len i x) a b := by
  unfold pt
  split
  · exact kn_up h
  · exact h
theorem kr_pt (h : kr σ m l k) : kr (pt σ n len i x) m l k := fun h1 h2 => kn_pt (h h1 h2)
theorem kr_pt_eq : kr (pt σ n len i x) n len i := fun h1 h2 => by
  unfold pt
  rw [if_pos ⟨h1, h2⟩]
  exact kn_eq
theorem kr_wup (h : kr σ m l k) : kr (wup σ a b x) m l k := fun h1 h2 => kn_up (h h1 h2)
theorem kr_of (h : ∀ b, kn σ (n + 1) b) : kr σ n len i := fun _ _ => h _
theorem Off.rf : Off R σ σ := fun _ _ _ => rfl
theorem Off.tr (h1 : Off R σ σ') (h2 : Off R σ' σ'') : Off R σ σ'' := fun a h b => (h2 a h b).trans (h1 a h b)
theorem Off.mono (h1 : Off R σ σ') (h : ∀ a, R a → R' a) : Off R' σ σ' := fun a h2 b => h1 a (fun h3 => h2 (h a h3)) b
theorem off_wup (h : R a) : Off R σ (wup σ a b x) := fun p hp q => wup_ne (fun e => hp (by rw [e.1]; exact h))
theorem off_pt (h : R (n + 1)) : Off R σ (pt σ n len i x) := fun p hp q => by
  unfold pt
  split
  · exact wup_ne (fun e => hp (by rw [e.1]; exact h))
  · rfl
theorem off_gv (h : Off R σ σ') (ha : ¬ R a) : gv σ' a b = gv σ a b := by
  unfold gv
  rw [h a ha b]
theorem off_kn (h : Off R σ σ') (ha : ¬ R a) : kn σ' a b ↔ kn σ a b := by
  unfold kn
  rw [h a ha b]
theorem off_rd (h : Off R σ σ') (ha : ¬ R (n + 1)) : rd σ' n len i = rd σ n len i := by
  unfold rd
  rw [off_gv h ha]
theorem off_kr (h : Off R σ σ') (ha : ¬ R (n + 1)) (hk : kr σ n len i) : kr σ' n len i := fun h1 h2 => (off_kn h ha).mpr (hk h1 h2)
theorem rd_rng (hN : Nm n len) (hk : kr σ n len i) (h : ∃ h, Wr σ h) : wI (rd σ n len i) := by
  unfold rd
  split
  · rename_i h1
    exact wRow_rng hN.2.2 h _ (by omega) (hk h1.1 h1.2)
  · exact ⟨by omega, by omega⟩
end RD
/-! lookupswitch -/
theorem B_lookup {E : mE} {j pc : Nat} {l st : List wV} {σ : wSt} {P : Option wV → wSt → Prop} {y : mMth} {q : Nat × Nat × Nat × Nat} {x dflt off : Int} {ps : Array (Int × Int)} {tgt : Nat} (he : mlook (mcode j) pc = some (pc, .lookupswitch dflt ps, q)) (hy : mmeth j = some y) (hs : (ps.toList.zip (ps.toList.drop 1)).all (fun (a, next) => a.1 < next.1) = true) (ho : Op.lookupswitch.offset ps.toList dflt x = off) (hj : mjmp pc off = true) (ht : mtgt pc off = tgt) (k : Bt E j tgt l st σ P) : Bt E j pc l (wi x :: st) σ P := by
  subst ho; subst ht
  refine B_p (pc' := mtgt pc (Op.lookupswitch.offset ps.toList dflt x)) he rfl rfl hy (fun lv sc g1 g2 => ?_) k
  obtain ⟨v, rc, rfl, h4, h5⟩ := wS_c g2
  obtain ⟨a, rfl, rfl⟩ := wR_i h4
  exact ⟨lv, rc, by simp only [mpure]; rw [if_pos hs, if_pos hj], g1, h5⟩
end
section
/-! ===== Numbers, Kinds ===== -/
theorem cw_11_20 : wcV 11 0 20 1 1 1 = true := by decide +kernel
theorem cw_12_20 : wcV 12 0 20 1 1 1 = true := by decide +kernel
theorem cw_13_20 : wcV 13 0 20 1 1 1 = true := by decide +kernel
theorem cw_14_18_0 : wcS 14 0 18 1 1 = true := by decide +kernel
theorem cw_15_18_0 : wcS 15 0 18 1 1 = true := by decide +kernel
theorem cw_16_17_0 : wcS 16 0 17 1 1 = true := by decide +kernel
theorem cw_4_11_0 : wcS 4 0 11 3 3 = true := by decide +kernel
theorem cw_4_12_0 : wcS 4 0 12 3 3 = true := by decide +kernel
theorem cw_5_11_0 : wcS 5 0 11 3 3 = true := by decide +kernel
theorem cw_5_12_0 : wcS 5 0 12 3 3 = true := by decide +kernel
theorem cw_5_20 : wcV 5 0 20 1 1 1 = true := by decide +kernel
theorem cw_6_20 : wcV 6 0 20 1 1 1 = true := by decide +kernel
theorem cw_7_11_0 : wcS 7 0 11 3 3 = true := by decide +kernel
theorem cw_7_13_0 : wcS 7 0 13 3 3 = true := by decide +kernel
theorem cw_7_20 : wcV 7 0 20 1 1 1 = true := by decide +kernel
theorem cw_8_11_0 : wcS 8 0 11 3 3 = true := by decide +kernel
theorem cw_8_12_0 : wcS 8 0 12 3 3 = true := by decide +kernel
theorem cw_8_13_0 : wcS 8 0 13 3 3 = true := by decide +kernel
theorem cw_8_20 : wcV 8 0 20 1 1 1 = true := by decide +kernel
theorem cw_9_10_0 : wcS 9 0 10 1 1 = true := by decide +kernel
theorem cw_9_12_0 : wcS 9 0 12 3 3 = true := by decide +kernel
theorem cw_9_13_0 : wcS 9 0 13 3 3 = true := by decide +kernel
theorem cw_9_14_0 : wcS 9 0 14 2 2 = true := by decide +kernel
theorem cw_9_15_0 : wcS 9 0 15 2 2 = true := by decide +kernel
theorem cw_9_16_0 : wcS 9 0 16 1 1 = true := by decide +kernel
theorem cw_9_20 : wcV 9 0 20 1 1 1 = true := by decide +kernel
theorem g_at {E : mE} {σ : wSt} {n len : Nat} {i : Int} (hE : wE E) (hN : Nm n len) (hlen : len < 2147483648) (hk : kr σ n len i) : Gv E 20 [wr n, wi i] σ (wi (rd σ n len i)) := by
  refine Fn.of (nL := 2) ?_
  show Bt E 20 0 [wr n, wi i] [] σ _
  refine B_iloadn rfl my_20 rfl ?_
  refine B_if_lt rfl my_20 rfl (tgt := 22) (nx := 4) rfl rfl (fun c1 => ?_) (fun c1 => ?_)
  · refine B_iconst rfl my_20 (by decide) ?_
    refine B_iret rfl my_20 rfl ?_
    refine ⟨?_, rfl⟩
    rw [rd_out (by omega)]
  · refine B_iloadn rfl my_20 rfl ?_
    refine B_aloadn rfl my_20 rfl ?_
    refine B_ref hE.1 rfl my_20 rfl (r := (n + 1)) hN.2.1 ?_
    refine B_len hE.1 rfl my_20 hN.2.2 hlen ?_
    refine B_ic_ge rfl my_20 rfl (tgt := 22) (nx := 13) rfl rfl (fun c2 => ?_) (fun c2 => ?_)
    · refine B_iconst rfl my_20 (by decide) ?_
      refine B_iret rfl my_20 rfl ?_
      refine ⟨?_, rfl⟩
      rw [rd_out (by omega)]
    · refine B_aloadn rfl my_20 rfl ?_
      refine B_ref hE.1 rfl my_20 rfl (r := (n + 1)) hN.2.1 ?_
      refine B_iloadn rfl my_20 rfl ?_
      refine B_ild hE.1 rfl my_20 hN.2.2 (by omega) (by omega) (hk (by omega) (by omega)) (fun r3 => ?_)
      refine B_goto rfl my_20 rfl (tgt := 23) rfl ?_
      refine B_iret rfl my_20 rfl ?_
      refine ⟨?_, rfl⟩
      rw [rd_in (by omega) (by omega)]
theorem g_put {E : mE} {σ : wSt} {n len : Nat} {i x : Int} (hE : wE E) (hN : Nm n len) (hlen : len < 2147483648) : Mv E 21 [wr n, wi i, wi x] σ (pt σ n len i x) := by
  refine Fn.of (nL := 3) ?_
  show Bt E 21 0 [wr n, wi i, wi x] [] σ _
  refine B_iloadn rfl my_21 rfl ?_
  refine B_if_lt rfl my_21 rfl (tgt := 20) (nx := 4) rfl rfl (fun c1 => ?_) (fun c1 => ?_)
  · refine B_ret rfl my_21 rfl ?_
    refine ⟨rfl, ?_⟩
    unfold pt
    rw [if_neg (by omega)]
  · refine B_iloadn rfl my_21 rfl ?_
    refine B_aloadn rfl my_21 rfl ?_
    refine B_ref hE.1 rfl my_21 rfl (r := (n + 1)) hN.2.1 ?_
    refine B_len hE.1 rfl my_21 hN.2.2 hlen ?_
    refine B_ic_ge rfl my_21 rfl (tgt := 20) (nx := 13) rfl rfl (fun c2 => ?_) (fun c2 => ?_)
    · refine B_ret rfl my_21 rfl ?_
      refine ⟨rfl, ?_⟩
      unfold pt
      rw [if_neg (by omega)]
    · refine B_aloadn rfl my_21 rfl ?_
      refine B_ref hE.1 rfl my_21 rfl (r := (n + 1)) hN.2.1 ?_
      refine B_iloadn rfl my_21 rfl ?_
      refine B_iloadn rfl my_21 rfl ?_
      refine B_ist hE.1 rfl my_21 hN.2.2 (by omega) (by omega) ?_
      refine B_ret rfl my_21 rfl ?_
      refine ⟨rfl, ?_⟩
      unfold pt
      rw [if_pos ⟨by omega, by omega⟩]
theorem g_isOneOrTwo {E : mE} {σ : wSt} {n : Int} (hE : wE E) : Ev E 10 [wi n] σ (fun x => (x = 0 ∨ x = 1) ∧ (x = 1 ↔ n = 1 ∨ n = 2)) := by
  refine Fn.of (nL := 1) ?_
  show Bt E 10 0 [wi n] [] σ _
  refine B_rng 0 rfl (fun ha0 => ?_)
  refine B_iloadn rfl my_10 rfl ?_
  refine B_iconst rfl my_10 (by decide) ?_
  refine B_ic_eq rfl my_10 rfl (tgt := 10) (nx := 5) rfl rfl (fun c1 => ?_) (fun c1 => ?_)
  · refine B_iconst rfl my_10 (by decide) ?_
    refine B_goto rfl my_10 rfl (tgt := 15) rfl ?_
    refine B_bret rfl my_10 rfl (by omega) ?_
    exact ⟨_, rfl, ⟨by omega, by omega⟩, rfl⟩
  · refine B_iloadn rfl my_10 rfl ?_
    refine B_iconst rfl my_10 (by decide) ?_
    refine B_ic_ne rfl my_10 rfl (tgt := 14) (nx := 10) rfl rfl (fun c2 => ?_) (fun c2 => ?_)
    · refine B_iconst rfl my_10 (by decide) ?_
      refine B_bret rfl my_10 rfl (by omega) ?_
      exact ⟨_, rfl, ⟨by omega, by omega⟩, rfl⟩
    · refine B_iconst rfl my_10 (by decide) ?_
      refine B_goto rfl my_10 rfl (tgt := 15) rfl ?_
      refine B_bret rfl my_10 rfl (by omega) ?_
      exact ⟨_, rfl, ⟨by omega, by omega⟩, rfl⟩
theorem g_behindMinus {E : mE} {σ : wSt} {n len : Nat} {s e : Int} (hE : wE E) (hN : Nm n len) (hK : ∀ i, kr σ n len i) (hlen : len < 2147483648) : Ev E 11 [wr n, wi s, wi e] σ (fun x => x = s ∨ x = s + 1 ∧ s < e) := by
  refine Fn.of (nL := 3) ?_
  show Bt E 11 0 [wr n, wi s, wi e] [] σ _
  refine B_rng 1 rfl (fun ha1 => ?_)
  refine B_rng 2 rfl (fun ha2 => ?_)
  refine B_iloadn rfl my_11 rfl ?_
  refine B_iloadn rfl my_11 rfl ?_
  refine B_ic_ge rfl my_11 rfl (tgt := 21) (nx := 5) rfl rfl (fun c1 => ?_) (fun c1 => ?_)
  · refine B_iloadn rfl my_11 rfl ?_
    refine B_iret rfl my_11 rfl ?_
    exact ⟨_, rfl, by omega, rfl⟩
  · refine B_aloadn rfl my_11 rfl ?_
    refine B_iloadn rfl my_11 rfl ?_
    refine B_cV hE.1 rfl hN.1 cw_11_20 (as := [wi s]) (rest := []) rfl (Nat.le_of_ble_eq_true rfl) (g_at hE hN hlen (hK _)) (fun vo s9 hq => ?_)
    obtain ⟨rfl, rfl⟩ := hq
    show Bt E 11 10 [wr n, wi s, wi e] [wi (rd σ n len s)] σ _
    refine B_top (fun r2 => ?_)
    refine B_bipush rfl my_11 (n := 8) rfl ?_
    refine B_ic_ne rfl my_11 rfl (tgt := 21) (nx := 15) rfl rfl (fun c3 => ?_) (fun c3 => ?_)
    · refine B_iloadn rfl my_11 rfl ?_
      refine B_iret rfl my_11 rfl ?_
      exact ⟨_, rfl, by omega, rfl⟩
    · refine B_iloadn rfl my_11 rfl ?_
      refine B_iconst rfl my_11 (by decide) ?_
      refine B_iadd rfl my_11 (by omega) (by omega) ?_
      refine B_goto rfl my_11 rfl (tgt := 22) rfl ?_
      refine B_iret rfl my_11 rfl ?_
      exact ⟨_, rfl, by omega, rfl⟩
theorem l_digitsFrom {E : mE} {σ : wSt} {n len : Nat} {s e : Int} (hE : wE E) (hN : Nm n len) (hK : ∀ i, kr σ n len i) (hlen : len < 2147483648) : ∀ (k : Nat) (p : Int), wI p → (e - p).toNat ≤ k → Bt E 12 2 [wr n, wi s, wi e, wi p] [] σ (fun vo t => ∃ x, vo = some (wi x) ∧ True ∧ σ = t) := by
  intro k
  induction k with
  | zero =>
    intro p h1 hm
    refine B_rng 2 rfl (fun he => ?_)
    refine B_iloadn rfl my_12 rfl ?_
    refine B_iloadn rfl my_12 rfl ?_
    refine B_ic_ge rfl my_12 rfl (tgt := 33) (nx := 7) rfl rfl (fun c1 => ?_) (fun c1 => ?_)
    · refine B_iloadn rfl my_12 rfl ?_
      refine B_iloadn rfl my_12 rfl ?_
      refine B_isubW rfl my_12 ?_
      refine B_top (fun r2 => ?_)
      refine B_iret rfl my_12 rfl ?_
      exact ⟨_, rfl, trivial, rfl⟩
    · exact absurd c1 (by omega)
  | succ k ih =>
    intro p h1 hm
    refine B_rng 2 rfl (fun he => ?_)
    refine B_iloadn rfl my_12 rfl ?_
    refine B_iloadn rfl my_12 rfl ?_
    refine B_ic_ge rfl my_12 rfl (tgt := 33) (nx := 7) rfl rfl (fun c1 => ?_) (fun c1 => ?_)
    · refine B_iloadn rfl my_12 rfl ?_
      refine B_iloadn rfl my_12 rfl ?_
      refine B_isubW rfl my_12 ?_
      refine B_top (fun r2 => ?_)
      refine B_iret rfl my_12 rfl ?_
      exact ⟨_, rfl, trivial, rfl⟩
    · refine B_aloadn rfl my_12 rfl ?_
      refine B_iloadn rfl my_12 rfl ?_
      refine B_cV hE.1 rfl hN.1 cw_12_20 (as := [wi p]) (rest := []) rfl (Nat.le_of_ble_eq_true rfl) (g_at hE hN hlen (hK _)) (fun vo s9 hq => ?_)
      obtain ⟨rfl, rfl⟩ := hq
      show Bt E 12 12 [wr n, wi s, wi e, wi p] [wi (rd σ n len p)] σ _
      refine B_top (fun r3 => ?_)
      refine B_bipush rfl my_12 (n := 10) rfl ?_
      refine B_ic_lt rfl my_12 rfl (tgt := 33) (nx := 17) rfl rfl (fun c4 => ?_) (fun c4 => ?_)
      · refine B_iloadn rfl my_12 rfl ?_
        refine B_iloadn rfl my_12 rfl ?_
        refine B_isubW rfl my_12 ?_
        refine B_top (fun r5 => ?_)
        refine B_iret rfl my_12 rfl ?_
        exact ⟨_, rfl, trivial, rfl⟩
      · refine B_aloadn rfl my_12 rfl ?_
        refine B_iloadn rfl my_12 rfl ?_
        refine B_cV hE.1 rfl hN.1 cw_12_20 (as := [wi p]) (rest := []) rfl (Nat.le_of_ble_eq_true rfl) (g_at hE hN hlen (hK _)) (fun vo s9 hq => ?_)
        obtain ⟨rfl, rfl⟩ := hq
        show Bt E 12 22 [wr n, wi s, wi e, wi p] [wi (rd σ n len p)] σ _
        refine B_top (fun r6 => ?_)
        refine B_bipush rfl my_12 (n := 19) rfl ?_
        refine B_ic_gt rfl my_12 rfl (tgt := 33) (nx := 27) rfl rfl (fun c7 => ?_) (fun c7 => ?_)
        · refine B_iloadn rfl my_12 rfl ?_
          refine B_iloadn rfl my_12 rfl ?_
          refine B_isubW rfl my_12 ?_
          refine B_top (fun r8 => ?_)
          refine B_iret rfl my_12 rfl ?_
          exact ⟨_, rfl, trivial, rfl⟩
        · refine B_iinc rfl my_12 (by decide) rfl rfl rfl (by omega) (by omega) (show _ = [wr n, wi s, wi e, wi (p + 1)] from rfl) ?_
          refine B_goto rfl my_12 rfl (tgt := 2) rfl ?_
          refine ih _ ?_ ?_
          · omega
          · omega
theorem g_digitsFrom {E : mE} {σ : wSt} {n len : Nat} {s e : Int} (hE : wE E) (hN : Nm n len) (hK : ∀ i, kr σ n len i) (hlen : len < 2147483648) : Ev E 12 [wr n, wi s, wi e] σ (fun x => True) := by
  refine Fn.of (nL := 4) ?_
  show Bt E 12 0 [wr n, wi s, wi e, wx] [] σ _
  refine B_rng 1 rfl (fun ha1 => ?_)
  refine B_rng 2 rfl (fun ha2 => ?_)
  refine B_iloadn rfl my_12 rfl ?_
  refine B_istoren rfl my_12 (by decide) rfl (show _ = [wr n, wi s, wi e, wi s] from rfl) ?_
  exact l_digitsFrom hE hN hK hlen (e - s).toNat s ha1 (Nat.le_refl _)
theorem l_number {E : mE} {σ : wSt} {n len : Nat} {s e : Int} (hE : wE E) (hN : Nm n len) (hK : ∀ i, kr σ n len i) (hlen : len < 2147483648) : ∀ (k : Nat) (a p : Int), wI p → (e - p).toNat ≤ k → Bt E 13 5 [wr n, wi s, wi e, wi a, wi p] [] σ (fun vo t => ∃ x, vo = some (wi x) ∧ True ∧ σ = t) := by
  intro k
  induction k with
  | zero =>
    intro a p h1 hm
    refine B_rng 2 rfl (fun he => ?_)
    refine B_iload rfl my_13 rfl ?_
    refine B_iloadn rfl my_13 rfl ?_
    refine B_ic_ge rfl my_13 rfl (tgt := 32) (nx := 11) rfl rfl (fun c1 => ?_) (fun c1 => ?_)
    · refine B_iloadn rfl my_13 rfl ?_
      refine B_iret rfl my_13 rfl ?_
      exact ⟨_, rfl, trivial, rfl⟩
    · exact absurd c1 (by omega)
  | succ k ih =>
    intro a p h1 hm
    refine B_rng 2 rfl (fun he => ?_)
    refine B_iload rfl my_13 rfl ?_
    refine B_iloadn rfl my_13 rfl ?_
    refine B_ic_ge rfl my_13 rfl (tgt := 32) (nx := 11) rfl rfl (fun c1 => ?_) (fun c1 => ?_)
    · refine B_iloadn rfl my_13 rfl ?_
      refine B_iret rfl my_13 rfl ?_
      exact ⟨_, rfl, trivial, rfl⟩
    · refine B_iloadn rfl my_13 rfl ?_
      refine B_bipush rfl my_13 (n := 10) rfl ?_
      refine B_imulW rfl my_13 ?_
      refine B_top (fun r2 => ?_)
      refine B_aloadn rfl my_13 rfl ?_
      refine B_iload rfl my_13 rfl ?_
      refine B_cV hE.1 rfl hN.1 cw_13_20 (as := [wi p]) (rest := [wi (w32 (a * 10))]) rfl (Nat.le_of_ble_eq_true rfl) (g_at hE hN hlen (hK _)) (fun vo s9 hq => ?_)
      obtain ⟨rfl, rfl⟩ := hq
      show Bt E 13 21 [wr n, wi s, wi e, wi a, wi p] [wi (rd σ n len p), wi (w32 (a * 10))] σ _
      refine B_top (fun r3 => ?_)
      refine B_iaddW rfl my_13 ?_
      refine B_top (fun r4 => ?_)
      refine B_bipush rfl my_13 (n := 10) rfl ?_
      refine B_isubW rfl my_13 ?_
      refine B_top (fun r5 => ?_)
      refine B_istoren rfl my_13 (by decide) rfl (show _ = [wr n, wi s, wi e, wi (w32 ((w32 ((w32 (a * 10)) + (rd σ n len p))) - 10)), wi p] from rfl) ?_
      refine B_iinc rfl my_13 (by decide) rfl rfl rfl (by omega) (by omega) (show _ = [wr n, wi s, wi e, wi (w32 ((w32 ((w32 (a * 10)) + (rd σ n len p))) - 10)), wi (p + 1)] from rfl) ?_
      refine B_goto rfl my_13 rfl (tgt := 5) rfl ?_
      refine ih _ _ ?_ ?_
      · omega
      · omega
theorem g_number {E : mE} {σ : wSt} {n len : Nat} {s e : Int} (hE : wE E) (hN : Nm n len) (hK : ∀ i, kr σ n len i) (hlen : len < 2147483648) : Ev E 13 [wr n, wi s, wi e] σ (fun x => True) := by
  refine Fn.of (nL := 5) ?_
  show Bt E 13 0 [wr n, wi s, wi e, wx, wx] [] σ _
  refine B_rng 1 rfl (fun ha1 => ?_)
  refine B_rng 2 rfl (fun ha2 => ?_)
  refine B_iconst rfl my_13 (by decide) ?_
  refine B_istoren rfl my_13 (by decide) rfl (show _ = [wr n, wi s, wi e, wi 0, wx] from rfl) ?_
  refine B_iloadn rfl my_13 rfl ?_
  refine B_istore rfl my_13 (by decide) rfl (show _ = [wr n, wi s, wi e, wi 0, wi s] from rfl) ?_
  exact l_number hE hN hK hlen (e - s).toNat 0 s ha1 (Nat.le_refl _)
theorem g_isWhole {E : mE} {σ : wSt} {n len : Nat} {s e : Int} (hE : wE E) (hN : Nm n len) (hK : ∀ i, kr σ n len i) (hlen : len < 2147483648) : Ev E 4 [wr n, wi s, wi e] σ (fun x => x = 0 ∨ x = 1) := by
  refine Fn.of (nL := 5) ?_
  show Bt E 4 0 [wr n, wi s, wi e, wx, wx] [] σ _
  refine B_rng 1 rfl (fun ha1 => ?_)
  refine B_rng 2 rfl (fun ha2 => ?_)
  refine B_aloadn rfl my_4 rfl ?_
  refine B_iloadn rfl my_4 rfl ?_
  refine B_iloadn rfl my_4 rfl ?_
  refine B_cS rfl cw_4_11_0 (as := [wr n, wi s, wi e]) (rest := []) rfl (Nat.le_of_ble_eq_true rfl) (g_behindMinus hE hN hK hlen) (fun vo s9 hq => ?_)
  obtain ⟨x1, rfl, h2, rfl⟩ := hq
  show Bt E 4 6 [wr n, wi s, wi e, wx, wx] [wi x1] σ _
  refine B_top (fun r3 => ?_)
  refine B_istoren rfl my_4 (by decide) rfl (show _ = [wr n, wi s, wi e, wi x1, wx] from rfl) ?_
  refine B_aloadn rfl my_4 rfl ?_
  refine B_iloadn rfl my_4 rfl ?_
  refine B_iloadn rfl my_4 rfl ?_
  refine B_cS rfl cw_4_12_0 (as := [wr n, wi x1, wi e]) (rest := []) rfl (Nat.le_of_ble_eq_true rfl) (g_digitsFrom hE hN hK hlen) (fun vo s9 hq => ?_)
  obtain ⟨x4, rfl, h5, rfl⟩ := hq
  show Bt E 4 13 [wr n, wi s, wi e, wi x1, wx] [wi x4] σ _
  refine B_top (fun r6 => ?_)
  refine B_istore rfl my_4 (by decide) rfl (show _ = [wr n, wi s, wi e, wi x1, wi x4] from rfl) ?_
  refine B_iload rfl my_4 rfl ?_
  refine B_iconst rfl my_4 (by decide) ?_
  refine B_ic_lt rfl my_4 rfl (tgt := 40) (nx := 21) rfl rfl (fun c7 => ?_) (fun c7 => ?_)
  · refine B_iconst rfl my_4 (by decide) ?_
    refine B_bret rfl my_4 rfl (by omega) ?_
    exact ⟨_, rfl, by omega, rfl⟩
  · refine B_iload rfl my_4 rfl ?_
    refine B_bipush rfl my_4 (n := 6) rfl ?_
    refine B_ic_gt rfl my_4 rfl (tgt := 40) (nx := 28) rfl rfl (fun c8 => ?_) (fun c8 => ?_)
    · refine B_iconst rfl my_4 (by decide) ?_
      refine B_bret rfl my_4 rfl (by omega) ?_
      exact ⟨_, rfl, by omega, rfl⟩
    · refine B_iloadn rfl my_4 rfl ?_
      refine B_iload rfl my_4 rfl ?_
      refine B_iaddW rfl my_4 ?_
      refine B_top (fun r9 => ?_)
      refine B_iloadn rfl my_4 rfl ?_
      refine B_ic_ne rfl my_4 rfl (tgt := 40) (nx := 36) rfl rfl (fun c10 => ?_) (fun c10 => ?_)
      · refine B_iconst rfl my_4 (by decide) ?_
        refine B_bret rfl my_4 rfl (by omega) ?_
        exact ⟨_, rfl, by omega, rfl⟩
      · refine B_iconst rfl my_4 (by decide) ?_
        refine B_goto rfl my_4 rfl (tgt := 41) rfl ?_
        refine B_bret rfl my_4 rfl (by omega) ?_
        exact ⟨_, rfl, by omega, rfl⟩
theorem g_isDecimal {E : mE} {σ : wSt} {n len : Nat} {s e : Int} (hE : wE E) (hN : Nm n len) (hK : ∀ i, kr σ n len i) (hlen : len < 2147483648) {k : Int} : Ev E 5 [wr n, wi s, wi e, wi k] σ (fun x => x = 0 ∨ x = 1) := by
  refine Fn.of (nL := 8) ?_
  show Bt E 5 0 [wr n, wi s, wi e, wi k, wx, wx, wx, wx] [] σ _
  refine B_rng 1 rfl (fun ha1 => ?_)
  refine B_rng 2 rfl (fun ha2 => ?_)
  refine B_rng 3 rfl (fun ha3 => ?_)
  refine B_aloadn rfl my_5 rfl ?_
  refine B_iloadn rfl my_5 rfl ?_
  refine B_iloadn rfl my_5 rfl ?_
  refine B_cS rfl cw_5_11_0 (as := [wr n, wi s, wi e]) (rest := []) rfl (Nat.le_of_ble_eq_true rfl) (g_behindMinus hE hN hK hlen) (fun vo s9 hq => ?_)
  obtain ⟨x1, rfl, h2, rfl⟩ := hq
  show Bt E 5 6 [wr n, wi s, wi e, wi k, wx, wx, wx, wx] [wi x1] σ _
  refine B_top (fun r3 => ?_)
  refine B_istore rfl my_5 (by decide) rfl (show _ = [wr n, wi s, wi e, wi k, wi x1, wx, wx, wx] from rfl) ?_
  refine B_aloadn rfl my_5 rfl ?_
  refine B_iload rfl my_5 rfl ?_
  refine B_iloadn rfl my_5 rfl ?_
  refine B_cS rfl cw_5_12_0 (as := [wr n, wi x1, wi e]) (rest := []) rfl (Nat.le_of_ble_eq_true rfl) (g_digitsFrom hE hN hK hlen) (fun vo s9 hq => ?_)
  obtain ⟨x4, rfl, h5, rfl⟩ := hq
  show Bt E 5 15 [wr n, wi s, wi e, wi k, wi x1, wx, wx, wx] [wi x4] σ _
  refine B_top (fun r6 => ?_)
  refine B_istore rfl my_5 (by decide) rfl (show _ = [wr n, wi s, wi e, wi k, wi x1, wi x4, wx, wx] from rfl) ?_
  refine B_iload rfl my_5 rfl ?_
  refine B_iload rfl my_5 rfl ?_
  refine B_iaddW rfl my_5 ?_
  refine B_top (fun r7 => ?_)
  refine B_istore rfl my_5 (by decide) rfl (show _ = [wr n, wi s, wi e, wi k, wi x1, wi x4, wi (w32 (x1 + x4)), wx] from rfl) ?_
  refine B_iload rfl my_5 rfl ?_
  refine B_iconst rfl my_5 (by decide) ?_
  refine B_ic_lt rfl my_5 rfl (tgt := 53) (nx := 30) rfl rfl (fun c8 => ?_) (fun c8 => ?_)
  · refine B_iconst rfl my_5 (by decide) ?_
    refine B_bret rfl my_5 rfl (by omega) ?_
    exact ⟨_, rfl, by omega, rfl⟩
  · refine B_iload rfl my_5 rfl ?_
    refine B_bipush rfl my_5 (n := 6) rfl ?_
    refine B_ic_gt rfl my_5 rfl (tgt := 53) (nx := 37) rfl rfl (fun c9 => ?_) (fun c9 => ?_)
    · refine B_iconst rfl my_5 (by decide) ?_
      refine B_bret rfl my_5 rfl (by omega) ?_
      exact ⟨_, rfl, by omega, rfl⟩
    · refine B_iload rfl my_5 rfl ?_
      refine B_iloadn rfl my_5 rfl ?_
      refine B_ic_ge rfl my_5 rfl (tgt := 53) (nx := 43) rfl rfl (fun c10 => ?_) (fun c10 => ?_)
      · refine B_iconst rfl my_5 (by decide) ?_
        refine B_bret rfl my_5 rfl (by omega) ?_
        exact ⟨_, rfl, by omega, rfl⟩
      · refine B_aloadn rfl my_5 rfl ?_
        refine B_iload rfl my_5 rfl ?_
        refine B_cV hE.1 rfl hN.1 cw_5_20 (as := [wi (w32 (x1 + x4))]) (rest := []) rfl (Nat.le_of_ble_eq_true rfl) (g_at hE hN hlen (hK _)) (fun vo s9 hq => ?_)
        obtain ⟨rfl, rfl⟩ := hq
        show Bt E 5 49 [wr n, wi s, wi e, wi k, wi x1, wi x4, wi (w32 (x1 + x4)), wx] [wi (rd σ n len (w32 (x1 + x4)))] σ _
        refine B_top (fun r11 => ?_)
        refine B_iloadn rfl my_5 rfl ?_
        refine B_ic_eq rfl my_5 rfl (tgt := 55) (nx := 53) rfl rfl (fun c12 => ?_) (fun c12 => ?_)
        · refine B_aloadn rfl my_5 rfl ?_
          refine B_iload rfl my_5 rfl ?_
          refine B_iconst rfl my_5 (by decide) ?_
          refine B_iadd rfl my_5 (by omega) (by omega) ?_
          refine B_iloadn rfl my_5 rfl ?_
          refine B_cS rfl cw_5_12_0 (as := [wr n, wi ((w32 (x1 + x4)) + 1), wi e]) (rest := []) rfl (Nat.le_of_ble_eq_true rfl) (g_digitsFrom hE hN hK hlen) (fun vo s9 hq => ?_)
          obtain ⟨x13, rfl, h14, rfl⟩ := hq
          show Bt E 5 64 [wr n, wi s, wi e, wi k, wi x1, wi x4, wi (w32 (x1 + x4)), wx] [wi x13] σ _
          refine B_top (fun r15 => ?_)
          refine B_istore rfl my_5 (by decide) rfl (show _ = [wr n, wi s, wi e, wi k, wi x1, wi x4, wi (w32 (x1 + x4)), wi x13] from rfl) ?_
          refine B_iload rfl my_5 rfl ?_
          refine B_iconst rfl my_5 (by decide) ?_
          refine B_ic_lt rfl my_5 rfl (tgt := 93) (nx := 72) rfl rfl (fun c16 => ?_) (fun c16 => ?_)
          · refine B_iconst rfl my_5 (by decide) ?_
            refine B_bret rfl my_5 rfl (by omega) ?_
            exact ⟨_, rfl, by omega, rfl⟩
          · refine B_iload rfl my_5 rfl ?_
            refine B_iconst rfl my_5 (by decide) ?_
            refine B_ic_gt rfl my_5 rfl (tgt := 93) (nx := 78) rfl rfl (fun c17 => ?_) (fun c17 => ?_)
            · refine B_iconst rfl my_5 (by decide) ?_
              refine B_bret rfl my_5 rfl (by omega) ?_
              exact ⟨_, rfl, by omega, rfl⟩
            · refine B_iload rfl my_5 rfl ?_
              refine B_iconst rfl my_5 (by decide) ?_
              refine B_iadd rfl my_5 (by omega) (by omega) ?_
              refine B_iload rfl my_5 rfl ?_
              refine B_iaddW rfl my_5 ?_
              refine B_top (fun r18 => ?_)
              refine B_iloadn rfl my_5 rfl ?_
              refine B_ic_ne rfl my_5 rfl (tgt := 93) (nx := 89) rfl rfl (fun c19 => ?_) (fun c19 => ?_)
              · refine B_iconst rfl my_5 (by decide) ?_
                refine B_bret rfl my_5 rfl (by omega) ?_
                exact ⟨_, rfl, by omega, rfl⟩
              · refine B_iconst rfl my_5 (by decide) ?_
                refine B_goto rfl my_5 rfl (tgt := 94) rfl ?_
                refine B_bret rfl my_5 rfl (by omega) ?_
                exact ⟨_, rfl, by omega, rfl⟩
        · refine B_iconst rfl my_5 (by decide) ?_
          refine B_bret rfl my_5 rfl (by omega) ?_
          exact ⟨_, rfl, by omega, rfl⟩
theorem g_isFlag {E : mE} {σ : wSt} {n len : Nat} {s e : Int} (hE : wE E) (hN : Nm n len) (hK : ∀ i, kr σ n len i) (hlen : len < 2147483648) : Ev E 6 [wr n, wi s, wi e] σ (fun x => x = 0 ∨ x = 1) := by
  refine Fn.of (nL := 3) ?_
  show Bt E 6 0 [wr n, wi s, wi e] [] σ _
  refine B_rng 1 rfl (fun ha1 => ?_)
  refine B_rng 2 rfl (fun ha2 => ?_)
  refine B_iloadn rfl my_6 rfl ?_
  refine B_iloadn rfl my_6 rfl ?_
  refine B_isubW rfl my_6 ?_
  refine B_top (fun r1 => ?_)
  refine B_iconst rfl my_6 (by decide) ?_
  refine B_ic_ne rfl my_6 rfl (tgt := 31) (nx := 7) rfl rfl (fun c2 => ?_) (fun c2 => ?_)
  · refine B_iconst rfl my_6 (by decide) ?_
    refine B_bret rfl my_6 rfl (by omega) ?_
    exact ⟨_, rfl, by omega, rfl⟩
  · refine B_aloadn rfl my_6 rfl ?_
    refine B_iloadn rfl my_6 rfl ?_
    refine B_cV hE.1 rfl hN.1 cw_6_20 (as := [wi s]) (rest := []) rfl (Nat.le_of_ble_eq_true rfl) (g_at hE hN hlen (hK _)) (fun vo s9 hq => ?_)
    obtain ⟨rfl, rfl⟩ := hq
    show Bt E 6 12 [wr n, wi s, wi e] [wi (rd σ n len s)] σ _
    refine B_top (fun r3 => ?_)
    refine B_bipush rfl my_6 (n := 44) rfl ?_
    refine B_ic_eq rfl my_6 rfl (tgt := 27) (nx := 17) rfl rfl (fun c4 => ?_) (fun c4 => ?_)
    · refine B_iconst rfl my_6 (by decide) ?_
      refine B_goto rfl my_6 rfl (tgt := 32) rfl ?_
      refine B_bret rfl my_6 rfl (by omega) ?_
      exact ⟨_, rfl, by omega, rfl⟩
    · refine B_aloadn rfl my_6 rfl ?_
      refine B_iloadn rfl my_6 rfl ?_
      refine B_cV hE.1 rfl hN.1 cw_6_20 (as := [wi s]) (rest := []) rfl (Nat.le_of_ble_eq_true rfl) (g_at hE hN hlen (hK _)) (fun vo s9 hq => ?_)
      obtain ⟨rfl, rfl⟩ := hq
      show Bt E 6 22 [wr n, wi s, wi e] [wi (rd σ n len s)] σ _
      refine B_top (fun r5 => ?_)
      refine B_bipush rfl my_6 (n := 33) rfl ?_
      refine B_ic_ne rfl my_6 rfl (tgt := 31) (nx := 27) rfl rfl (fun c6 => ?_) (fun c6 => ?_)
      · refine B_iconst rfl my_6 (by decide) ?_
        refine B_bret rfl my_6 rfl (by omega) ?_
        exact ⟨_, rfl, by omega, rfl⟩
      · refine B_iconst rfl my_6 (by decide) ?_
        refine B_goto rfl my_6 rfl (tgt := 32) rfl ?_
        refine B_bret rfl my_6 rfl (by omega) ?_
        exact ⟨_, rfl, by omega, rfl⟩
theorem g_wholeNumber {E : mE} {σ : wSt} {n len : Nat} {s e : Int} (hE : wE E) (hN : Nm n len) (hK : ∀ i, kr σ n len i) (hlen : len < 2147483648) : Ev E 7 [wr n, wi s, wi e] σ (fun x => True) := by
  refine Fn.of (nL := 4) ?_
  show Bt E 7 0 [wr n, wi s, wi e, wx] [] σ _
  refine B_rng 1 rfl (fun ha1 => ?_)
  refine B_rng 2 rfl (fun ha2 => ?_)
  refine B_aloadn rfl my_7 rfl ?_
  refine B_aloadn rfl my_7 rfl ?_
  refine B_iloadn rfl my_7 rfl ?_
  refine B_iloadn rfl my_7 rfl ?_
  refine B_cS rfl cw_7_11_0 (as := [wr n, wi s, wi e]) (rest := [wr n]) rfl (Nat.le_of_ble_eq_true rfl) (g_behindMinus hE hN hK hlen) (fun vo s9 hq => ?_)
  obtain ⟨x1, rfl, h2, rfl⟩ := hq
  show Bt E 7 7 [wr n, wi s, wi e, wx] [wi x1, wr n] σ _
  refine B_top (fun r3 => ?_)
  refine B_iloadn rfl my_7 rfl ?_
  refine B_cS rfl cw_7_13_0 (as := [wr n, wi x1, wi e]) (rest := []) rfl (Nat.le_of_ble_eq_true rfl) (g_number hE hN hK hlen) (fun vo s9 hq => ?_)
  obtain ⟨x4, rfl, h5, rfl⟩ := hq
  show Bt E 7 11 [wr n, wi s, wi e, wx] [wi x4] σ _
  refine B_top (fun r6 => ?_)
  refine B_istoren rfl my_7 (by decide) rfl (show _ = [wr n, wi s, wi e, wi x4] from rfl) ?_
  refine B_aloadn rfl my_7 rfl ?_
  refine B_iloadn rfl my_7 rfl ?_
  refine B_cV hE.1 rfl hN.1 cw_7_20 (as := [wi s]) (rest := []) rfl (Nat.le_of_ble_eq_true rfl) (g_at hE hN hlen (hK _)) (fun vo s9 hq => ?_)
  obtain ⟨rfl, rfl⟩ := hq
  show Bt E 7 17 [wr n, wi s, wi e, wi x4] [wi (rd σ n len s)] σ _
  refine B_top (fun r7 => ?_)
  refine B_bipush rfl my_7 (n := 8) rfl ?_
  refine B_ic_ne rfl my_7 rfl (tgt := 27) (nx := 22) rfl rfl (fun c8 => ?_) (fun c8 => ?_)
  · refine B_iloadn rfl my_7 rfl ?_
    refine B_iret rfl my_7 rfl ?_
    exact ⟨_, rfl, trivial, rfl⟩
  · refine B_iloadn rfl my_7 rfl ?_
    refine B_inegW rfl my_7 ?_
    refine B_top (fun r9 => ?_)
    refine B_goto rfl my_7 rfl (tgt := 28) rfl ?_
    refine B_iret rfl my_7 rfl ?_
    exact ⟨_, rfl, trivial, rfl⟩
theorem l_thousandths {E : mE} {σ : wSt} {n len : Nat} {s e : Int} (hE : wE E) (hN : Nm n len) (hK : ∀ i, kr σ n len i) (hlen : len < 2147483648) {f q : Int} : ∀ (k : Nat) (a u p : Int), 0 ≤ u → wI p → (e - p).toNat ≤ k → Bt E 8 40 [wr n, wi s, wi e, wi f, wi q, wi a, wi u, wi p] [] σ (fun vo t => ∃ x, vo = some (wi x) ∧ True ∧ σ = t) := by
  intro k
  induction k with
  | zero =>
    intro a u p h1 h2 hm
    refine B_rng 2 rfl (fun he => ?_)
    refine B_rng 6 rfl (fun hu => ?_)
    refine B_iload rfl my_8 rfl ?_
    refine B_iloadn rfl my_8 rfl ?_
    refine B_ic_ge rfl my_8 rfl (tgt := 76) (nx := 46) rfl rfl (fun c1 => ?_) (fun c1 => ?_)
    · refine B_aloadn rfl my_8 rfl ?_
      refine B_iloadn rfl my_8 rfl ?_
      refine B_cV hE.1 rfl hN.1 cw_8_20 (as := [wi s]) (rest := []) rfl (Nat.le_of_ble_eq_true rfl) (g_at hE hN hlen (hK _)) (fun vo s9 hq => ?_)
      obtain ⟨rfl, rfl⟩ := hq
      show Bt E 8 81 [wr n, wi s, wi e, wi f, wi q, wi a, wi u, wi p] [wi (rd σ n len s)] σ _
      refine B_top (fun r2 => ?_)
      refine B_bipush rfl my_8 (n := 8) rfl ?_
      refine B_ic_ne rfl my_8 rfl (tgt := 92) (nx := 86) rfl rfl (fun c3 => ?_) (fun c3 => ?_)
      · refine B_iload rfl my_8 rfl ?_
        refine B_iret rfl my_8 rfl ?_
        exact ⟨_, rfl, trivial, rfl⟩
      · refine B_iload rfl my_8 rfl ?_
        refine B_inegW rfl my_8 ?_
        refine B_top (fun r4 => ?_)
        refine B_goto rfl my_8 rfl (tgt := 94) rfl ?_
        refine B_iret rfl my_8 rfl ?_
        exact ⟨_, rfl, trivial, rfl⟩
    · exact absurd c1 (by omega)
  | succ k ih =>
    intro a u p h1 h2 hm
    refine B_rng 2 rfl (fun he => ?_)
    refine B_rng 6 rfl (fun hu => ?_)
    refine B_iload rfl my_8 rfl ?_
    refine B_iloadn rfl my_8 rfl ?_
    refine B_ic_ge rfl my_8 rfl (tgt := 76) (nx := 46) rfl rfl (fun c1 => ?_) (fun c1 => ?_)
    · refine B_aloadn rfl my_8 rfl ?_
      refine B_iloadn rfl my_8 rfl ?_
      refine B_cV hE.1 rfl hN.1 cw_8_20 (as := [wi s]) (rest := []) rfl (Nat.le_of_ble_eq_true rfl) (g_at hE hN hlen (hK _)) (fun vo s9 hq => ?_)
      obtain ⟨rfl, rfl⟩ := hq
      show Bt E 8 81 [wr n, wi s, wi e, wi f, wi q, wi a, wi u, wi p] [wi (rd σ n len s)] σ _
      refine B_top (fun r2 => ?_)
      refine B_bipush rfl my_8 (n := 8) rfl ?_
      refine B_ic_ne rfl my_8 rfl (tgt := 92) (nx := 86) rfl rfl (fun c3 => ?_) (fun c3 => ?_)
      · refine B_iload rfl my_8 rfl ?_
        refine B_iret rfl my_8 rfl ?_
        exact ⟨_, rfl, trivial, rfl⟩
      · refine B_iload rfl my_8 rfl ?_
        refine B_inegW rfl my_8 ?_
        refine B_top (fun r4 => ?_)
        refine B_goto rfl my_8 rfl (tgt := 94) rfl ?_
        refine B_iret rfl my_8 rfl ?_
        exact ⟨_, rfl, trivial, rfl⟩
    · refine B_iload rfl my_8 rfl ?_
      refine B_aloadn rfl my_8 rfl ?_
      refine B_iload rfl my_8 rfl ?_
      refine B_cV hE.1 rfl hN.1 cw_8_20 (as := [wi p]) (rest := [wi a]) rfl (Nat.le_of_ble_eq_true rfl) (g_at hE hN hlen (hK _)) (fun vo s9 hq => ?_)
      obtain ⟨rfl, rfl⟩ := hq
      show Bt E 8 54 [wr n, wi s, wi e, wi f, wi q, wi a, wi u, wi p] [wi (rd σ n len p), wi a] σ _
      refine B_top (fun r5 => ?_)
      refine B_bipush rfl my_8 (n := 10) rfl ?_
      refine B_isubW rfl my_8 ?_
      refine B_top (fun r6 => ?_)
      refine B_iload rfl my_8 rfl ?_
      refine B_imulW rfl my_8 ?_
      refine B_top (fun r7 => ?_)
      refine B_iaddW rfl my_8 ?_
      refine B_top (fun r8 => ?_)
      refine B_istore rfl my_8 (by decide) rfl (show _ = [wr n, wi s, wi e, wi f, wi q, wi (w32 (a + (w32 ((w32 ((rd σ n len p) - 10)) * u)))), wi u, wi p] from rfl) ?_
      refine B_iload rfl my_8 rfl ?_
      refine B_bipush rfl my_8 (n := 10) rfl ?_
      refine B_idiv rfl my_8 h1 (by decide) ?_
      refine B_istore rfl my_8 (by decide) rfl (show _ = [wr n, wi s, wi e, wi f, wi q, wi (w32 (a + (w32 ((w32 ((rd σ n len p) - 10)) * u)))), wi (u / 10), wi p] from rfl) ?_
      refine B_iinc rfl my_8 (by decide) rfl rfl rfl (by omega) (by omega) (show _ = [wr n, wi s, wi e, wi f, wi q, wi (w32 (a + (w32 ((w32 ((rd σ n len p) - 10)) * u)))), wi (u / 10), wi (p + 1)] from rfl) ?_
      refine B_goto rfl my_8 rfl (tgt := 40) rfl ?_
      refine ih _ _ _ ?_ ?_ ?_
      · exact Int.ediv_nonneg h1 (by decide)
      · omega
      · omega
theorem g_thousandths {E : mE} {σ : wSt} {n len : Nat} {s e : Int} (hE : wE E) (hN : Nm n len) (hK : ∀ i, kr σ n len i) (hlen : len < 2147483648) : Ev E 8 [wr n, wi s, wi e] σ (fun x => True) := by
  refine Fn.of (nL := 8) ?_
  show Bt E 8 0 [wr n, wi s, wi e, wx, wx, wx, wx, wx] [] σ _
  refine B_rng 1 rfl (fun ha1 => ?_)
  refine B_rng 2 rfl (fun ha2 => ?_)
  refine B_aloadn rfl my_8 rfl ?_
  refine B_iloadn rfl my_8 rfl ?_
  refine B_iloadn rfl my_8 rfl ?_
  refine B_cS rfl cw_8_11_0 (as := [wr n, wi s, wi e]) (rest := []) rfl (Nat.le_of_ble_eq_true rfl) (g_behindMinus hE hN hK hlen) (fun vo s9 hq => ?_)
  obtain ⟨x1, rfl, h2, rfl⟩ := hq
  show Bt E 8 6 [wr n, wi s, wi e, wx, wx, wx, wx, wx] [wi x1] σ _
  refine B_top (fun r3 => ?_)
  refine B_istoren rfl my_8 (by decide) rfl (show _ = [wr n, wi s, wi e, wi x1, wx, wx, wx, wx] from rfl) ?_
  refine B_iloadn rfl my_8 rfl ?_
  refine B_aloadn rfl my_8 rfl ?_
  refine B_iloadn rfl my_8 rfl ?_
  refine B_iloadn rfl my_8 rfl ?_
  refine B_cS rfl cw_8_12_0 (as := [wr n, wi x1, wi e]) (rest := [wi x1]) rfl (Nat.le_of_ble_eq_true rfl) (g_digitsFrom hE hN hK hlen) (fun vo s9 hq => ?_)
  obtain ⟨x4, rfl, h5, rfl⟩ := hq
  show Bt E 8 14 [wr n, wi s, wi e, wi x1, wx, wx, wx, wx] [wi x4, wi x1] σ _
  refine B_top (fun r6 => ?_)
  refine B_iaddW rfl my_8 ?_
  refine B_top (fun r7 => ?_)
  refine B_istore rfl my_8 (by decide) rfl (show _ = [wr n, wi s, wi e, wi x1, wi (w32 (x1 + x4)), wx, wx, wx] from rfl) ?_
  refine B_aloadn rfl my_8 rfl ?_
  refine B_iloadn rfl my_8 rfl ?_
  refine B_iload rfl my_8 rfl ?_
  refine B_cS rfl cw_8_13_0 (as := [wr n, wi x1, wi (w32 (x1 + x4))]) (rest := []) rfl (Nat.le_of_ble_eq_true rfl) (g_number hE hN hK hlen) (fun vo s9 hq => ?_)
  obtain ⟨x8, rfl, h9, rfl⟩ := hq
  show Bt E 8 24 [wr n, wi s, wi e, wi x1, wi (w32 (x1 + x4)), wx, wx, wx] [wi x8] σ _
  refine B_top (fun r10 => ?_)
  refine B_sipush rfl my_8 (n := 1000) rfl ?_
  refine B_imulW rfl my_8 ?_
  refine B_top (fun r11 => ?_)
  refine B_istore rfl my_8 (by decide) rfl (show _ = [wr n, wi s, wi e, wi x1, wi (w32 (x1 + x4)), wi (w32 (x8 * 1000)), wx, wx] from rfl) ?_
  refine B_bipush rfl my_8 (n := 100) rfl ?_
  refine B_istore rfl my_8 (by decide) rfl (show _ = [wr n, wi s, wi e, wi x1, wi (w32 (x1 + x4)), wi (w32 (x8 * 1000)), wi 100, wx] from rfl) ?_
  refine B_iload rfl my_8 rfl ?_
  refine B_iconst rfl my_8 (by decide) ?_
  refine B_iaddW rfl my_8 ?_
  refine B_top (fun r12 => ?_)
  refine B_istore rfl my_8 (by decide) rfl (show _ = [wr n, wi s, wi e, wi x1, wi (w32 (x1 + x4)), wi (w32 (x8 * 1000)), wi 100, wi (w32 ((w32 (x1 + x4)) + 1))] from rfl) ?_
  refine B_rng 7 rfl (fun hp => ?_)
  exact l_thousandths hE hN hK hlen _ _ _ _ (by omega) hp (Nat.le_refl _)
theorem g_leapYearsTo {E : mE} {σ : wSt} {y : Int} (hE : wE E) (hy : 0 ≤ y) : Ev E 17 [wi y] σ (fun x => True) := by
  refine Fn.of (nL := 1) ?_
  show Bt E 17 0 [wi y] [] σ _
  refine B_rng 0 rfl (fun hr0 => ?_)
  refine B_iloadn rfl my_17 rfl ?_
  refine B_iconst rfl my_17 (by decide) ?_
  refine B_idiv rfl my_17 hy (by decide) ?_
  refine B_iloadn rfl my_17 rfl ?_
  refine B_bipush rfl my_17 (n := 100) rfl ?_
  refine B_idiv rfl my_17 hy (by decide) ?_
  refine B_isubW rfl my_17 ?_
  refine B_top (fun r1 => ?_)
  refine B_iloadn rfl my_17 rfl ?_
  refine B_sipush rfl my_17 (n := 400) rfl ?_
  refine B_idiv rfl my_17 hy (by decide) ?_
  refine B_iaddW rfl my_17 ?_
  refine B_top (fun r2 => ?_)
  refine B_iret rfl my_17 rfl ?_
  exact ⟨_, rfl, trivial, rfl⟩
theorem g_isLeap {E : mE} {σ : wSt} {y : Int} (hE : wE E) (hy : 0 ≤ y) : Ev E 18 [wi y] σ (fun x => x = 0 ∨ x = 1) := by
  refine Fn.of (nL := 1) ?_
  show Bt E 18 0 [wi y] [] σ _
  refine B_rng 0 rfl (fun hr0 => ?_)
  refine B_iloadn rfl my_18 rfl ?_
  refine B_iconst rfl my_18 (by decide) ?_
  refine B_irem rfl my_18 hy (by decide) ?_
  refine B_if_ne rfl my_18 rfl (tgt := 25) (nx := 6) rfl rfl (fun c1 => ?_) (fun c1 => ?_)
  · refine B_iconst rfl my_18 (by decide) ?_
    refine B_bret rfl my_18 rfl (by omega) ?_
    exact ⟨_, rfl, by omega, rfl⟩
  · refine B_iloadn rfl my_18 rfl ?_
    refine B_bipush rfl my_18 (n := 100) rfl ?_
    refine B_irem rfl my_18 hy (by decide) ?_
    refine B_if_ne rfl my_18 rfl (tgt := 21) (nx := 13) rfl rfl (fun c2 => ?_) (fun c2 => ?_)
    · refine B_iconst rfl my_18 (by decide) ?_
      refine B_goto rfl my_18 rfl (tgt := 26) rfl ?_
      refine B_bret rfl my_18 rfl (by omega) ?_
      exact ⟨_, rfl, by omega, rfl⟩
    · refine B_iloadn rfl my_18 rfl ?_
      refine B_sipush rfl my_18 (n := 400) rfl ?_
      refine B_irem rfl my_18 hy (by decide) ?_
      refine B_if_ne rfl my_18 rfl (tgt := 25) (nx := 21) rfl rfl (fun c3 => ?_) (fun c3 => ?_)
      · refine B_iconst rfl my_18 (by decide) ?_
        refine B_bret rfl my_18 rfl (by omega) ?_
        exact ⟨_, rfl, by omega, rfl⟩
      · refine B_iconst rfl my_18 (by decide) ?_
        refine B_goto rfl my_18 rfl (tgt := 26) rfl ?_
        refine B_bret rfl my_18 rfl (by omega) ?_
        exact ⟨_, rfl, by omega, rfl⟩
theorem g_daysIn {E : mE} {σ : wSt} {d y : Int} (hE : wE E) (hy : 0 ≤ y) : Ev E 14 [wi d, wi y] σ (fun x => True) := by
  refine Fn.of (nL := 3) ?_
  show Bt E 14 0 [wi d, wi y, wx] [] σ _
  refine B_rng 0 rfl (fun hr0 => ?_)
  refine B_rng 1 rfl (fun hr1 => ?_)
  refine B_iloadn rfl my_14 rfl ?_
  refine B_iconst rfl my_14 (by decide) ?_
  refine B_ic_lt rfl my_14 rfl (tgt := 13) (nx := 5) rfl rfl (fun c1 => ?_) (fun c1 => ?_)
  · refine B_iconst rfl my_14 (by decide) ?_
    refine B_iret rfl my_14 rfl ?_
    exact ⟨_, rfl, trivial, rfl⟩
  · refine B_iloadn rfl my_14 rfl ?_
    refine B_static0 (n := 0) (r := 1) rfl my_14 rfl rfl ?_
    refine B_dlen hE rfl my_14 ?_
    refine B_ic_lt rfl my_14 rfl (tgt := 15) (nx := 13) rfl rfl (fun c2 => ?_) (fun c2 => ?_)
    · refine B_static0 (n := 0) (r := 1) rfl my_14 rfl rfl ?_
      refine B_iloadn rfl my_14 rfl ?_
      refine B_days hE rfl my_14 (by omega) (by omega) ?_
      refine B_top (fun r3 => ?_)
      refine B_static0 (n := 0) (r := 1) rfl my_14 rfl rfl ?_
      refine B_iloadn rfl my_14 rfl ?_
      refine B_iconst rfl my_14 (by decide) ?_
      refine B_isub rfl my_14 (by omega) (by omega) ?_
      refine B_days hE rfl my_14 (by omega) (by omega) ?_
      refine B_top (fun r4 => ?_)
      refine B_isubW rfl my_14 ?_
      refine B_top (fun r5 => ?_)
      refine B_istoren rfl my_14 (by decide) rfl (show _ = [wi d, wi y, wi (w32 ((wD E (d).toNat) - (wD E (d - 1).toNat)))] from rfl) ?_
      refine B_iloadn rfl my_14 rfl ?_
      refine B_iconst rfl my_14 (by decide) ?_
      refine B_ic_ne rfl my_14 rfl (tgt := 47) (nx := 34) rfl rfl (fun c6 => ?_) (fun c6 => ?_)
      · refine B_iloadn rfl my_14 rfl ?_
        refine B_iret rfl my_14 rfl ?_
        exact ⟨_, rfl, trivial, rfl⟩
      · refine B_iloadn rfl my_14 rfl ?_
        refine B_cS rfl cw_14_18_0 (as := [wi y]) (rest := []) rfl (Nat.le_of_ble_eq_true rfl) (g_isLeap hE (by omega)) (fun vo s9 hq => ?_)
        obtain ⟨x7, rfl, h8, rfl⟩ := hq
        show Bt E 14 38 [wi d, wi y, wi (w32 ((wD E (d).toNat) - (wD E (d - 1).toNat)))] [wi x7] σ _
        refine B_top (fun r9 => ?_)
        refine B_if_eq rfl my_14 rfl (tgt := 47) (nx := 41) rfl rfl (fun c10 => ?_) (fun c10 => ?_)
        · refine B_iloadn rfl my_14 rfl ?_
          refine B_iret rfl my_14 rfl ?_
          exact ⟨_, rfl, trivial, rfl⟩
        · refine B_iloadn rfl my_14 rfl ?_
          refine B_iconst rfl my_14 (by decide) ?_
          refine B_iaddW rfl my_14 ?_
          refine B_top (fun r11 => ?_)
          refine B_goto rfl my_14 rfl (tgt := 48) rfl ?_
          refine B_iret rfl my_14 rfl ?_
          exact ⟨_, rfl, trivial, rfl⟩
    · refine B_iconst rfl my_14 (by decide) ?_
      refine B_iret rfl my_14 rfl ?_
      exact ⟨_, rfl, trivial, rfl⟩
theorem g_daysAheadOfMonth {E : mE} {σ : wSt} {d y : Int} (hE : wE E) (hy : 0 ≤ y) : Ev E 15 [wi d, wi y] σ (fun x => True) := by
  refine Fn.of (nL := 3) ?_
  show Bt E 15 0 [wi d, wi y, wx] [] σ _
  refine B_rng 0 rfl (fun hr0 => ?_)
  refine B_rng 1 rfl (fun hr1 => ?_)
  refine B_iloadn rfl my_15 rfl ?_
  refine B_iconst rfl my_15 (by decide) ?_
  refine B_ic_lt rfl my_15 rfl (tgt := 13) (nx := 5) rfl rfl (fun c1 => ?_) (fun c1 => ?_)
  · refine B_iconst rfl my_15 (by decide) ?_
    refine B_iret rfl my_15 rfl ?_
    exact ⟨_, rfl, trivial, rfl⟩
  · refine B_iloadn rfl my_15 rfl ?_
    refine B_static0 (n := 0) (r := 1) rfl my_15 rfl rfl ?_
    refine B_dlen hE rfl my_15 ?_
    refine B_ic_lt rfl my_15 rfl (tgt := 15) (nx := 13) rfl rfl (fun c2 => ?_) (fun c2 => ?_)
    · refine B_static0 (n := 0) (r := 1) rfl my_15 rfl rfl ?_
      refine B_iloadn rfl my_15 rfl ?_
      refine B_iconst rfl my_15 (by decide) ?_
      refine B_isub rfl my_15 (by omega) (by omega) ?_
      refine B_days hE rfl my_15 (by omega) (by omega) ?_
      refine B_top (fun r3 => ?_)
      refine B_istoren rfl my_15 (by decide) rfl (show _ = [wi d, wi y, wi (wD E (d - 1).toNat)] from rfl) ?_
      refine B_iloadn rfl my_15 rfl ?_
      refine B_iconst rfl my_15 (by decide) ?_
      refine B_ic_le rfl my_15 rfl (tgt := 41) (nx := 28) rfl rfl (fun c4 => ?_) (fun c4 => ?_)
      · refine B_iloadn rfl my_15 rfl ?_
        refine B_iret rfl my_15 rfl ?_
        exact ⟨_, rfl, trivial, rfl⟩
      · refine B_iloadn rfl my_15 rfl ?_
        refine B_cS rfl cw_15_18_0 (as := [wi y]) (rest := []) rfl (Nat.le_of_ble_eq_true rfl) (g_isLeap hE (by omega)) (fun vo s9 hq => ?_)
        obtain ⟨x5, rfl, h6, rfl⟩ := hq
        show Bt E 15 32 [wi d, wi y, wi (wD E (d - 1).toNat)] [wi x5] σ _
        refine B_top (fun r7 => ?_)
        refine B_if_eq rfl my_15 rfl (tgt := 41) (nx := 35) rfl rfl (fun c8 => ?_) (fun c8 => ?_)
        · refine B_iloadn rfl my_15 rfl ?_
          refine B_iret rfl my_15 rfl ?_
          exact ⟨_, rfl, trivial, rfl⟩
        · refine B_iloadn rfl my_15 rfl ?_
          refine B_iconst rfl my_15 (by decide) ?_
          refine B_iaddW rfl my_15 ?_
          refine B_top (fun r9 => ?_)
          refine B_goto rfl my_15 rfl (tgt := 42) rfl ?_
          refine B_iret rfl my_15 rfl ?_
          exact ⟨_, rfl, trivial, rfl⟩
    · refine B_iconst rfl my_15 (by decide) ?_
      refine B_iret rfl my_15 rfl ?_
      exact ⟨_, rfl, trivial, rfl⟩
theorem g_daysAheadOfYear {E : mE} {σ : wSt} {y : Int} (hE : wE E) (hy : 1 ≤ y) : Ev E 16 [wi y] σ (fun x => True) := by
  refine Fn.of (nL := 1) ?_
  show Bt E 16 0 [wi y] [] σ _
  refine B_rng 0 rfl (fun hr0 => ?_)
  refine B_sipush rfl my_16 (n := 365) rfl ?_
  refine B_iloadn rfl my_16 rfl ?_
  refine B_sipush rfl my_16 (n := 1900) rfl ?_
  refine B_isub rfl my_16 (by omega) (by omega) ?_
  refine B_imulW rfl my_16 ?_
  refine B_top (fun r1 => ?_)
  refine B_iloadn rfl my_16 rfl ?_
  refine B_iconst rfl my_16 (by decide) ?_
  refine B_isub rfl my_16 (by omega) (by omega) ?_
  refine B_cS rfl cw_16_17_0 (as := [wi (y - 1)]) (rest := [wi (w32 (365 * (y - 1900)))]) rfl (Nat.le_of_ble_eq_true rfl) (g_leapYearsTo hE (by omega)) (fun vo s9 hq => ?_)
  obtain ⟨x2, rfl, h3, rfl⟩ := hq
  show Bt E 16 15 [wi y] [wi x2, wi (w32 (365 * (y - 1900)))] σ _
  refine B_top (fun r4 => ?_)
  refine B_iaddW rfl my_16 ?_
  refine B_top (fun r5 => ?_)
  refine B_sipush rfl my_16 (n := 1899) rfl ?_
  refine B_cS rfl cw_16_17_0 (as := [wi 1899]) (rest := [wi (w32 ((w32 (365 * (y - 1900))) + x2))]) rfl (Nat.le_of_ble_eq_true rfl) (g_leapYearsTo hE (by omega)) (fun vo s9 hq => ?_)
  obtain ⟨x6, rfl, h7, rfl⟩ := hq
  show Bt E 16 22 [wi y] [wi x6, wi (w32 ((w32 (365 * (y - 1900))) + x2))] σ _
  refine B_top (fun r8 => ?_)
  refine B_isubW rfl my_16 ?_
  refine B_top (fun r9 => ?_)
  refine B_iret rfl my_16 rfl ?_
  exact ⟨_, rfl, trivial, rfl⟩
theorem t_dayNumber {E : mE} {σ : wSt} {n len : Nat} {s e : Int} (hE : wE E) (hN : Nm n len) (hK : ∀ i, kr σ n len i) (hlen : len < 2147483648) {d f g x : Int} : Bt E 9 103 [wr n, wi s, wi e, wi d, wi f, wi g, wx, wx, wx, wx] [wi x] σ (fun vo t => ∃ x, vo = some (wi x) ∧ True ∧ σ = t) := by
  refine B_istore rfl my_9 (by decide) rfl (show _ = [wr n, wi s, wi e, wi d, wi f, wi g, wi x, wx, wx, wx] from rfl) ?_
  refine B_iload rfl my_9 rfl ?_
  refine B_if_ne rfl my_9 rfl (tgt := 112) (nx := 110) rfl rfl (fun c1 => ?_) (fun c1 => ?_)
  · refine B_aloadn rfl my_9 rfl ?_
    refine B_iloadn rfl my_9 rfl ?_
    refine B_iloadn rfl my_9 rfl ?_
    refine B_cS rfl cw_9_13_0 (as := [wr n, wi s, wi d]) (rest := []) rfl (Nat.le_of_ble_eq_true rfl) (g_number hE hN hK hlen) (fun vo s9 hq => ?_)
    obtain ⟨x2, rfl, h3, rfl⟩ := hq
    show Bt E 9 118 [wr n, wi s, wi e, wi d, wi f, wi g, wi x, wx, wx, wx] [wi x2] σ _
    refine B_top (fun r4 => ?_)
    refine B_istore rfl my_9 (by decide) rfl (show _ = [wr n, wi s, wi e, wi d, wi f, wi g, wi x, wi x2, wx, wx] from rfl) ?_
    refine B_aloadn rfl my_9 rfl ?_
    refine B_iloadn rfl my_9 rfl ?_
    refine B_iconst rfl my_9 (by decide) ?_
    refine B_iaddW rfl my_9 ?_
    refine B_top (fun r5 => ?_)
    refine B_iload rfl my_9 rfl ?_
    refine B_cS rfl cw_9_13_0 (as := [wr n, wi (w32 (d + 1)), wi f]) (rest := []) rfl (Nat.le_of_ble_eq_true rfl) (g_number hE hN hK hlen) (fun vo s9 hq => ?_)
    obtain ⟨x6, rfl, h7, rfl⟩ := hq
    show Bt E 9 129 [wr n, wi s, wi e, wi d, wi f, wi g, wi x, wi x2, wx, wx] [wi x6] σ _
    refine B_top (fun r8 => ?_)
    refine B_istore rfl my_9 (by decide) rfl (show _ = [wr n, wi s, wi e, wi d, wi f, wi g, wi x, wi x2, wi x6, wx] from rfl) ?_
    refine B_aloadn rfl my_9 rfl ?_
    refine B_iload rfl my_9 rfl ?_
    refine B_iconst rfl my_9 (by decide) ?_
    refine B_iaddW rfl my_9 ?_
    refine B_top (fun r9 => ?_)
    refine B_iload rfl my_9 rfl ?_
    refine B_cS rfl cw_9_13_0 (as := [wr n, wi (w32 (f + 1)), wi g]) (rest := []) rfl (Nat.le_of_ble_eq_true rfl) (g_number hE hN hK hlen) (fun vo s9 hq => ?_)
    obtain ⟨x10, rfl, h11, rfl⟩ := hq
    show Bt E 9 141 [wr n, wi s, wi e, wi d, wi f, wi g, wi x, wi x2, wi x6, wx] [wi x10] σ _
    refine B_top (fun r12 => ?_)
    refine B_istore rfl my_9 (by decide) rfl (show _ = [wr n, wi s, wi e, wi d, wi f, wi g, wi x, wi x2, wi x6, wi x10] from rfl) ?_
    refine B_iload rfl my_9 rfl ?_
    refine B_sipush rfl my_9 (n := 1900) rfl ?_
    refine B_ic_lt rfl my_9 rfl (tgt := 177) (nx := 151) rfl rfl (fun c13 => ?_) (fun c13 => ?_)
    · refine B_iconst rfl my_9 (by decide) ?_
      refine B_iret rfl my_9 rfl ?_
      exact ⟨_, rfl, trivial, rfl⟩
    · refine B_iload rfl my_9 rfl ?_
      refine B_sipush rfl my_9 (n := 2099) rfl ?_
      refine B_ic_gt rfl my_9 rfl (tgt := 177) (nx := 159) rfl rfl (fun c14 => ?_) (fun c14 => ?_)
      · refine B_iconst rfl my_9 (by decide) ?_
        refine B_iret rfl my_9 rfl ?_
        exact ⟨_, rfl, trivial, rfl⟩
      · refine B_iload rfl my_9 rfl ?_
        refine B_iconst rfl my_9 (by decide) ?_
        refine B_ic_lt rfl my_9 rfl (tgt := 177) (nx := 165) rfl rfl (fun c15 => ?_) (fun c15 => ?_)
        · refine B_iconst rfl my_9 (by decide) ?_
          refine B_iret rfl my_9 rfl ?_
          exact ⟨_, rfl, trivial, rfl⟩
        · refine B_iload rfl my_9 rfl ?_
          refine B_iload rfl my_9 rfl ?_
          refine B_iload rfl my_9 rfl ?_
          refine B_cS rfl cw_9_14_0 (as := [wi x6, wi x10]) (rest := [wi x2]) rfl (Nat.le_of_ble_eq_true rfl) (g_daysIn hE (by omega)) (fun vo s9 hq => ?_)
          obtain ⟨x16, rfl, h17, rfl⟩ := hq
          show Bt E 9 174 [wr n, wi s, wi e, wi d, wi f, wi g, wi x, wi x2, wi x6, wi x10] [wi x16, wi x2] σ _
          refine B_top (fun r18 => ?_)
          refine B_ic_le rfl my_9 rfl (tgt := 179) (nx := 177) rfl rfl (fun c19 => ?_) (fun c19 => ?_)
          · refine B_iload rfl my_9 rfl ?_
            refine B_cS rfl cw_9_16_0 (as := [wi x10]) (rest := []) rfl (Nat.le_of_ble_eq_true rfl) (g_daysAheadOfYear hE (by omega)) (fun vo s9 hq => ?_)
            obtain ⟨x20, rfl, h21, rfl⟩ := hq
            show Bt E 9 184 [wr n, wi s, wi e, wi d, wi f, wi g, wi x, wi x2, wi x6, wi x10] [wi x20] σ _
            refine B_top (fun r22 => ?_)
            refine B_iload rfl my_9 rfl ?_
            refine B_iload rfl my_9 rfl ?_
            refine B_cS rfl cw_9_15_0 (as := [wi x6, wi x10]) (rest := [wi x20]) rfl (Nat.le_of_ble_eq_true rfl) (g_daysAheadOfMonth hE (by omega)) (fun vo s9 hq => ?_)
            obtain ⟨x23, rfl, h24, rfl⟩ := hq
            show Bt E 9 191 [wr n, wi s, wi e, wi d, wi f, wi g, wi x, wi x2, wi x6, wi x10] [wi x23, wi x20] σ _
            refine B_top (fun r25 => ?_)
            refine B_iaddW rfl my_9 ?_
            refine B_top (fun r26 => ?_)
            refine B_iload rfl my_9 rfl ?_
            refine B_iaddW rfl my_9 ?_
            refine B_top (fun r27 => ?_)
            refine B_iconst rfl my_9 (by decide) ?_
            refine B_isubW rfl my_9 ?_
            refine B_top (fun r28 => ?_)
            refine B_iret rfl my_9 rfl ?_
            exact ⟨_, rfl, trivial, rfl⟩
          · refine B_iconst rfl my_9 (by decide) ?_
            refine B_iret rfl my_9 rfl ?_
            exact ⟨_, rfl, trivial, rfl⟩
  · refine B_iconst rfl my_9 (by decide) ?_
    refine B_iret rfl my_9 rfl ?_
    exact ⟨_, rfl, trivial, rfl⟩
theorem g_dayNumber {E : mE} {σ : wSt} {n len : Nat} {s e : Int} (hE : wE E) (hN : Nm n len) (hK : ∀ i, kr σ n len i) (hlen : len < 2147483648) : Ev E 9 [wr n, wi s, wi e] σ (fun x => True) := by
  refine Fn.of (nL := 10) ?_
  show Bt E 9 0 [wr n, wi s, wi e, wx, wx, wx, wx, wx, wx, wx] [] σ _
  refine B_rng 1 rfl (fun ha1 => ?_)
  refine B_rng 2 rfl (fun ha2 => ?_)
  refine B_iloadn rfl my_9 rfl ?_
  refine B_aloadn rfl my_9 rfl ?_
  refine B_iloadn rfl my_9 rfl ?_
  refine B_iloadn rfl my_9 rfl ?_
  refine B_cS rfl cw_9_12_0 (as := [wr n, wi s, wi e]) (rest := [wi s]) rfl (Nat.le_of_ble_eq_true rfl) (g_digitsFrom hE hN hK hlen) (fun vo s9 hq => ?_)
  obtain ⟨x1, rfl, h2, rfl⟩ := hq
  show Bt E 9 7 [wr n, wi s, wi e, wx, wx, wx, wx, wx, wx, wx] [wi x1, wi s] σ _
  refine B_top (fun r3 => ?_)
  refine B_iaddW rfl my_9 ?_
  refine B_top (fun r4 => ?_)
  refine B_istoren rfl my_9 (by decide) rfl (show _ = [wr n, wi s, wi e, wi (w32 (s + x1)), wx, wx, wx, wx, wx, wx] from rfl) ?_
  refine B_iloadn rfl my_9 rfl ?_
  refine B_iconst rfl my_9 (by decide) ?_
  refine B_iaddW rfl my_9 ?_
  refine B_top (fun r5 => ?_)
  refine B_aloadn rfl my_9 rfl ?_
  refine B_iloadn rfl my_9 rfl ?_
  refine B_iconst rfl my_9 (by decide) ?_
  refine B_iaddW rfl my_9 ?_
  refine B_top (fun r6 => ?_)
  refine B_iloadn rfl my_9 rfl ?_
  refine B_cS rfl cw_9_12_0 (as := [wr n, wi (w32 ((w32 (s + x1)) + 1)), wi e]) (rest := [wi (w32 ((w32 (s + x1)) + 1))]) rfl (Nat.le_of_ble_eq_true rfl) (g_digitsFrom hE hN hK hlen) (fun vo s9 hq => ?_)
  obtain ⟨x7, rfl, h8, rfl⟩ := hq
  show Bt E 9 20 [wr n, wi s, wi e, wi (w32 (s + x1)), wx, wx, wx, wx, wx, wx] [wi x7, wi (w32 ((w32 (s + x1)) + 1))] σ _
  refine B_top (fun r9 => ?_)
  refine B_iaddW rfl my_9 ?_
  refine B_top (fun r10 => ?_)
  refine B_istore rfl my_9 (by decide) rfl (show _ = [wr n, wi s, wi e, wi (w32 (s + x1)), wi (w32 ((w32 ((w32 (s + x1)) + 1)) + x7)), wx, wx, wx, wx, wx] from rfl) ?_
  refine B_iload rfl my_9 rfl ?_
  refine B_iconst rfl my_9 (by decide) ?_
  refine B_iaddW rfl my_9 ?_
  refine B_top (fun r11 => ?_)
  refine B_aloadn rfl my_9 rfl ?_
  refine B_iload rfl my_9 rfl ?_
  refine B_iconst rfl my_9 (by decide) ?_
  refine B_iaddW rfl my_9 ?_
  refine B_top (fun r12 => ?_)
  refine B_iloadn rfl my_9 rfl ?_
  refine B_cS rfl cw_9_12_0 (as := [wr n, wi (w32 ((w32 ((w32 ((w32 (s + x1)) + 1)) + x7)) + 1)), wi e]) (rest := [wi (w32 ((w32 ((w32 ((w32 (s + x1)) + 1)) + x7)) + 1))]) rfl (Nat.le_of_ble_eq_true rfl) (g_digitsFrom hE hN hK hlen) (fun vo s9 hq => ?_)
  obtain ⟨x13, rfl, h14, rfl⟩ := hq
  show Bt E 9 36 [wr n, wi s, wi e, wi (w32 (s + x1)), wi (w32 ((w32 ((w32 (s + x1)) + 1)) + x7)), wx, wx, wx, wx, wx] [wi x13, wi (w32 ((w32 ((w32 ((w32 (s + x1)) + 1)) + x7)) + 1))] σ _
  refine B_top (fun r15 => ?_)
  refine B_iaddW rfl my_9 ?_
  refine B_top (fun r16 => ?_)
  refine B_istore rfl my_9 (by decide) rfl (show _ = [wr n, wi s, wi e, wi (w32 (s + x1)), wi (w32 ((w32 ((w32 (s + x1)) + 1)) + x7)), wi (w32 ((w32 ((w32 ((w32 ((w32 (s + x1)) + 1)) + x7)) + 1)) + x13)), wx, wx, wx, wx] from rfl) ?_
  refine B_iloadn rfl my_9 rfl ?_
  refine B_iloadn rfl my_9 rfl ?_
  refine B_isubW rfl my_9 ?_
  refine B_top (fun r17 => ?_)
  refine B_cS rfl cw_9_10_0 (as := [wi (w32 ((w32 (s + x1)) - s))]) (rest := []) rfl (Nat.le_of_ble_eq_true rfl) (g_isOneOrTwo hE) (fun vo s9 hq => ?_)
  obtain ⟨x18, rfl, ⟨h19, _⟩, rfl⟩ := hq
  show Bt E 9 45 [wr n, wi s, wi e, wi (w32 (s + x1)), wi (w32 ((w32 ((w32 (s + x1)) + 1)) + x7)), wi (w32 ((w32 ((w32 ((w32 ((w32 (s + x1)) + 1)) + x7)) + 1)) + x13)), wx, wx, wx, wx] [wi x18] σ _
  refine B_top (fun r20 => ?_)
  refine B_if_eq rfl my_9 rfl (tgt := 102) (nx := 48) rfl rfl (fun c21 => ?_) (fun c21 => ?_)
  · refine B_iconst rfl my_9 (by decide) ?_
    exact t_dayNumber hE hN hK hlen
  · refine B_iload rfl my_9 rfl ?_
    refine B_iloadn rfl my_9 rfl ?_
    refine B_isubW rfl my_9 ?_
    refine B_top (fun r22 => ?_)
    refine B_iconst rfl my_9 (by decide) ?_
    refine B_isubW rfl my_9 ?_
    refine B_top (fun r23 => ?_)
    refine B_cS rfl cw_9_10_0 (as := [wi (w32 ((w32 ((w32 ((w32 ((w32 (s + x1)) + 1)) + x7)) - (w32 (s + x1)))) - 1))]) (rest := []) rfl (Nat.le_of_ble_eq_true rfl) (g_isOneOrTwo hE) (fun vo s9 hq => ?_)
    obtain ⟨x24, rfl, ⟨h25, _⟩, rfl⟩ := hq
    show Bt E 9 57 [wr n, wi s, wi e, wi (w32 (s + x1)), wi (w32 ((w32 ((w32 (s + x1)) + 1)) + x7)), wi (w32 ((w32 ((w32 ((w32 ((w32 (s + x1)) + 1)) + x7)) + 1)) + x13)), wx, wx, wx, wx] [wi x24] σ _
    refine B_top (fun r26 => ?_)
    refine B_if_eq rfl my_9 rfl (tgt := 102) (nx := 60) rfl rfl (fun c27 => ?_) (fun c27 => ?_)
    · refine B_iconst rfl my_9 (by decide) ?_
      exact t_dayNumber hE hN hK hlen
    · refine B_iload rfl my_9 rfl ?_
      refine B_iload rfl my_9 rfl ?_
      refine B_isubW rfl my_9 ?_
      refine B_top (fun r28 => ?_)
      refine B_iconst rfl my_9 (by decide) ?_
      refine B_isubW rfl my_9 ?_
      refine B_top (fun r29 => ?_)
      refine B_iconst rfl my_9 (by decide) ?_
      refine B_ic_ne rfl my_9 rfl (tgt := 102) (nx := 71) rfl rfl (fun c30 => ?_) (fun c30 => ?_)
      · refine B_iconst rfl my_9 (by decide) ?_
        exact t_dayNumber hE hN hK hlen
      · refine B_iload rfl my_9 rfl ?_
        refine B_iloadn rfl my_9 rfl ?_
        refine B_ic_ne rfl my_9 rfl (tgt := 102) (nx := 77) rfl rfl (fun c31 => ?_) (fun c31 => ?_)
        · refine B_iconst rfl my_9 (by decide) ?_
          exact t_dayNumber hE hN hK hlen
        · refine B_aloadn rfl my_9 rfl ?_
          refine B_iloadn rfl my_9 rfl ?_
          refine B_cV hE.1 rfl hN.1 cw_9_20 (as := [wi (w32 (s + x1))]) (rest := []) rfl (Nat.le_of_ble_eq_true rfl) (g_at hE hN hlen (hK _)) (fun vo s9 hq => ?_)
          obtain ⟨rfl, rfl⟩ := hq
          show Bt E 9 82 [wr n, wi s, wi e, wi (w32 (s + x1)), wi (w32 ((w32 ((w32 (s + x1)) + 1)) + x7)), wi (w32 ((w32 ((w32 ((w32 ((w32 (s + x1)) + 1)) + x7)) + 1)) + x13)), wx, wx, wx, wx] [wi (rd σ n len (w32 (s + x1)))] σ _
          refine B_top (fun r32 => ?_)
          refine B_bipush rfl my_9 (n := 9) rfl ?_
          refine B_ic_ne rfl my_9 rfl (tgt := 102) (nx := 87) rfl rfl (fun c33 => ?_) (fun c33 => ?_)
          · refine B_iconst rfl my_9 (by decide) ?_
            exact t_dayNumber hE hN hK hlen
          · refine B_aloadn rfl my_9 rfl ?_
            refine B_iload rfl my_9 rfl ?_
            refine B_cV hE.1 rfl hN.1 cw_9_20 (as := [wi (w32 ((w32 ((w32 (s + x1)) + 1)) + x7))]) (rest := []) rfl (Nat.le_of_ble_eq_true rfl) (g_at hE hN hlen (hK _)) (fun vo s9 hq => ?_)
            obtain ⟨rfl, rfl⟩ := hq
            show Bt E 9 93 [wr n, wi s, wi e, wi (w32 (s + x1)), wi (w32 ((w32 ((w32 (s + x1)) + 1)) + x7)), wi (w32 ((w32 ((w32 ((w32 ((w32 (s + x1)) + 1)) + x7)) + 1)) + x13)), wx, wx, wx, wx] [wi (rd σ n len (w32 ((w32 ((w32 (s + x1)) + 1)) + x7)))] σ _
            refine B_top (fun r34 => ?_)
            refine B_bipush rfl my_9 (n := 9) rfl ?_
            refine B_ic_ne rfl my_9 rfl (tgt := 102) (nx := 98) rfl rfl (fun c35 => ?_) (fun c35 => ?_)
            · refine B_iconst rfl my_9 (by decide) ?_
              exact t_dayNumber hE hN hK hlen
            · refine B_iconst rfl my_9 (by decide) ?_
              refine B_goto rfl my_9 rfl (tgt := 103) rfl ?_
              exact t_dayNumber hE hN hK hlen
end
section
/-! ===== Text, Told, what is written and told ===== -/
theorem cw_70_21 : wcV 70 0 21 1 2 2 = true := by decide +kernel
theorem cw_70_69 : wcV 70 0 69 4 1 1 = true := by decide +kernel
theorem cw_71_21 : wcV 71 0 21 1 2 2 = true := by decide +kernel
theorem cw_71_69 : wcV 71 0 69 4 1 1 = true := by decide +kernel
theorem cw_71_72_0 : wcS 71 0 72 1 1 = true := by decide +kernel
theorem cw_74_20 : wcV 74 0 20 1 1 1 = true := by decide +kernel
theorem cw_75_20 : wcV 75 0 20 1 1 1 = true := by decide +kernel
theorem cw_77_105_0 : wcS 77 0 105 1 1 = true := by decide +kernel
theorem cw_77_69 : wcV 77 0 69 4 1 1 = true := by decide +kernel
theorem cw_77_70 : wcV 77 0 70 4 1 1 = true := by decide +kernel
theorem cw_78_69 : wcV 78 0 69 4 1 1 = true := by decide +kernel
theorem cw_78_71 : wcV 78 0 71 4 1 1 = true := by decide +kernel
theorem cw_78_72_0 : wcS 78 0 72 1 1 = true := by decide +kernel
theorem cw_79_69 : wcV 79 0 69 4 1 1 = true := by decide +kernel
theorem cw_79_70 : wcV 79 0 70 4 1 1 = true := by decide +kernel
theorem cw_80_105_0 : wcS 80 0 105 1 1 = true := by decide +kernel
theorem cw_80_69 : wcV 80 0 69 4 1 1 = true := by decide +kernel
theorem cw_80_70 : wcV 80 0 70 4 1 1 = true := by decide +kernel
theorem cw_80_71 : wcV 80 0 71 4 1 1 = true := by decide +kernel
theorem cw_80_72_0 : wcS 80 0 72 1 1 = true := by decide +kernel
theorem cw_81_112 : wcV 81 0 112 6 0 0 = true := by decide +kernel
theorem cw_81_20 : wcV 81 0 20 1 1 1 = true := by decide +kernel
theorem cw_81_21 : wcV 81 0 21 1 2 2 = true := by decide +kernel
theorem cw_82_107_0 : wcS 82 0 107 1 1 = true := by decide +kernel
theorem cw_82_112 : wcV 82 0 112 6 0 0 = true := by decide +kernel
theorem cw_83_112 : wcV 83 0 112 6 0 0 = true := by decide +kernel
theorem cw_83_20 : wcV 83 0 20 1 1 1 = true := by decide +kernel
theorem cw_83_21 : wcV 83 0 21 1 2 2 = true := by decide +kernel
/-- all is known -/
def Al (σ : wSt) : Prop := ∀ a b, kn σ a b
theorem al_wup {σ : wSt} {a b : Nat} {x : Int} (h : Al σ) : Al (wup σ a b x) := fun p q => kn_up (h p q)
theorem al_pt {σ : wSt} {n len : Nat} {i x : Int} (h : Al σ) : Al (pt σ n len i x) := fun p q => kn_pt (h p q)
/-- the text: how many signs, none below 0 -/
def TX (σ : wSt) : Prop := 0 ≤ gv σ 3 1 ∧ gv σ 3 1 ≤ 500 ∧ ∀ i, 0 ≤ rd σ 4 500 i
def Rt (a : Nat) : Prop := a = 2 ∨ a = 3 ∨ a = 5
/-- d signs more -/
def Tq (σ s : wSt) (d : Int) : Prop := Al s ∧ TX s ∧ gv s 3 1 = gv σ 3 1 + d ∧ Off Rt σ s
theorem Tq.tr {σ s t : wSt} {d e : Int} (h1 : Tq σ s d) (h2 : Tq s t e) : Tq σ t (d + e) := ⟨h2.1, h2.2.1, by rw [h2.2.2.1, h1.2.2.1]; omega, h1.2.2.2.tr h2.2.2.2⟩
theorem tq_write {σ : wSt} {c x : Int} (hA : Al σ) (hT : TX σ) (hc : gv σ 3 1 < 500) (hx : 0 ≤ x) : Tq σ (wup (pt σ 4 500 c x) 3 1 (gv σ 3 1 + 1)) 1 := by
  refine ⟨al_wup (al_pt hA), ⟨?_, ?_, fun i => ?_⟩, ?_, ?_⟩
  · rw [gv_eq]; have := hT.1; omega
  · rw [gv_eq]; omega
  · rw [rd_wup (by decide), rd_pt]
    split
    · exact hx
    · exact hT.2.2 i
  · rw [gv_eq]
  · exact (off_pt (R := Rt) (Or.inr (Or.inr rfl))).tr (off_wup (R := Rt) (Or.inr (Or.inl rfl)))
/-- what unsettleAll leaves -/
def us (σ : wSt) : wSt := wup (wup (wup (wup σ 11 12 0) 46 12 0) 81 12 0) 116 12 0
theorem al_us {σ : wSt} (h : Al σ) : Al (us σ) := al_wup (al_wup (al_wup (al_wup h)))
theorem g_isSign {E : mE} {σ : wSt} (hE : wE E) {n : Int} : Ev E 105 [wi n] σ (fun x => (x = 0 ∨ x = 1) ∧ (x = 1 ↔ 0 ≤ n ∧ n ≤ 45)) := by
  refine Fn.of (nL := 1) ?_
  show Bt E 105 0 [wi n] [] σ _
  refine B_rng 0 rfl (fun ha0 => ?_)
  refine B_iloadn rfl my_105 rfl ?_
  refine B_if_lt rfl my_105 rfl (tgt := 14) (nx := 4) rfl rfl (fun c1 => ?_) (fun c1 => ?_)
  · refine B_iconst rfl my_105 (by decide) ?_
    refine B_bret rfl my_105 rfl (by omega) ?_
    exact ⟨_, rfl, ⟨by omega, by omega⟩, rfl⟩
  · refine B_iloadn rfl my_105 rfl ?_
    refine B_bipush rfl my_105 (n := 45) rfl ?_
    refine B_ic_gt rfl my_105 rfl (tgt := 14) (nx := 10) rfl rfl (fun c2 => ?_) (fun c2 => ?_)
    · refine B_iconst rfl my_105 (by decide) ?_
      refine B_bret rfl my_105 rfl (by omega) ?_
      exact ⟨_, rfl, ⟨by omega, by omega⟩, rfl⟩
    · refine B_iconst rfl my_105 (by decide) ?_
      refine B_goto rfl my_105 rfl (tgt := 15) rfl ?_
      refine B_bret rfl my_105 rfl (by omega) ?_
      exact ⟨_, rfl, ⟨by omega, by omega⟩, rfl⟩
theorem g_isParter {E : mE} {σ : wSt} (hE : wE E) {n : Int} : Ev E 106 [wi n] σ (fun x => (x = 0 ∨ x = 1) ∧ (x = 1 ↔ 0 ≤ n ∧ n ≤ 3)) := by
  refine Fn.of (nL := 1) ?_
  show Bt E 106 0 [wi n] [] σ _
  refine B_rng 0 rfl (fun ha0 => ?_)
  refine B_iloadn rfl my_106 rfl ?_
  refine B_if_lt rfl my_106 rfl (tgt := 13) (nx := 4) rfl rfl (fun c1 => ?_) (fun c1 => ?_)
  · refine B_iconst rfl my_106 (by decide) ?_
    refine B_bret rfl my_106 rfl (by omega) ?_
    exact ⟨_, rfl, ⟨by omega, by omega⟩, rfl⟩
  · refine B_iloadn rfl my_106 rfl ?_
    refine B_iconst rfl my_106 (by decide) ?_
    refine B_ic_gt rfl my_106 rfl (tgt := 13) (nx := 9) rfl rfl (fun c2 => ?_) (fun c2 => ?_)
    · refine B_iconst rfl my_106 (by decide) ?_
      refine B_bret rfl my_106 rfl (by omega) ?_
      exact ⟨_, rfl, ⟨by omega, by omega⟩, rfl⟩
    · refine B_iconst rfl my_106 (by decide) ?_
      refine B_goto rfl my_106 rfl (tgt := 14) rfl ?_
      refine B_bret rfl my_106 rfl (by omega) ?_
      exact ⟨_, rfl, ⟨by omega, by omega⟩, rfl⟩
theorem g_isShare {E : mE} {σ : wSt} (hE : wE E) {n : Int} : Ev E 107 [wi n] σ (fun x => (x = 0 ∨ x = 1) ∧ (x = 1 ↔ 1 ≤ n ∧ n ≤ 100)) := by
  refine Fn.of (nL := 1) ?_
  show Bt E 107 0 [wi n] [] σ _
  refine B_rng 0 rfl (fun ha0 => ?_)
  refine B_iloadn rfl my_107 rfl ?_
  refine B_iconst rfl my_107 (by decide) ?_
  refine B_ic_lt rfl my_107 rfl (tgt := 15) (nx := 5) rfl rfl (fun c1 => ?_) (fun c1 => ?_)
  · refine B_iconst rfl my_107 (by decide) ?_
    refine B_bret rfl my_107 rfl (by omega) ?_
    exact ⟨_, rfl, ⟨by omega, by omega⟩, rfl⟩
  · refine B_iloadn rfl my_107 rfl ?_
    refine B_bipush rfl my_107 (n := 100) rfl ?_
    refine B_ic_gt rfl my_107 rfl (tgt := 15) (nx := 11) rfl rfl (fun c2 => ?_) (fun c2 => ?_)
    · refine B_iconst rfl my_107 (by decide) ?_
      refine B_bret rfl my_107 rfl (by omega) ?_
      exact ⟨_, rfl, ⟨by omega, by omega⟩, rfl⟩
    · refine B_iconst rfl my_107 (by decide) ?_
      refine B_goto rfl my_107 rfl (tgt := 16) rfl ?_
      refine B_bret rfl my_107 rfl (by omega) ?_
      exact ⟨_, rfl, ⟨by omega, by omega⟩, rfl⟩
theorem g_hasRoomFor {E : mE} {σ : wSt} (hE : wE E) (hA : Al σ) (hT : TX σ) {n : Int} (h1 : 0 ≤ n) (h2 : n ≤ 1000) : Ev E 69 [wr 3, wi n] σ (fun x => (x = 0 ∨ x = 1) ∧ (x = 1 ↔ gv σ 3 1 + n ≤ 500)) := by
  obtain ⟨ht1, ht2, ht3⟩ := hT
  refine Fn.of (nL := 2) ?_
  show Bt E 69 0 [wr 3, wi n] [] σ _
  refine B_rng 1 rfl (fun ha1 => ?_)
  refine B_aloadn rfl my_69 rfl ?_
  refine B_int hE.1 rfl my_69 rfl rfl (hA _ _) (fun r1 => ?_)
  refine B_iloadn rfl my_69 rfl ?_
  refine B_iadd rfl my_69 (by omega) (by omega) ?_
  refine B_sipush rfl my_69 (n := 500) rfl ?_
  refine B_ic_gt rfl my_69 rfl (tgt := 16) (nx := 12) rfl rfl (fun c2 => ?_) (fun c2 => ?_)
  · refine B_iconst rfl my_69 (by decide) ?_
    refine B_bret rfl my_69 rfl (by omega) ?_
    exact ⟨_, rfl, ⟨by omega, by omega⟩, rfl⟩
  · refine B_iconst rfl my_69 (by decide) ?_
    refine B_goto rfl my_69 rfl (tgt := 17) rfl ?_
    refine B_bret rfl my_69 rfl (by omega) ?_
    exact ⟨_, rfl, ⟨by omega, by omega⟩, rfl⟩
theorem g_write {E : mE} {σ : wSt} (hE : wE E) (hA : Al σ) (hT : TX σ) {n : Int} (h1 : 0 ≤ n) (h2 : gv σ 3 1 < 500) : Fn E 70 [wr 3, wi n] σ (fun vo s => vo = none ∧ Tq σ s 1) := by
  refine Fn.of (nL := 2) ?_
  show Bt E 70 0 [wr 3, wi n] [] σ _
  refine B_rng 1 rfl (fun ha1 => ?_)
  refine B_aloadn rfl my_70 rfl ?_
  refine B_iconst rfl my_70 (by decide) ?_
  refine B_cV hE.1 rfl rfl cw_70_69 (as := [wi 1]) (rest := []) rfl (Nat.le_of_ble_eq_true rfl) (g_hasRoomFor hE hA hT (by omega) (by omega)) (fun vo s9 hq => ?_)
  obtain ⟨x1, rfl, ⟨hz2, q2⟩, rfl⟩ := hq
  show Bt E 70 5 [wr 3, wi n] [wi x1] σ _
  refine B_top (fun r3 => ?_)
  refine B_if_eq rfl my_70 rfl (tgt := 30) (nx := 8) rfl rfl (fun c4 => ?_) (fun c4 => ?_)
  · refine B_ret rfl my_70 rfl ?_
    exfalso
    omega
  · refine B_aloadn rfl my_70 rfl ?_
    refine B_ref hE.1 rfl my_70 rfl (r := 4) rfl ?_
    refine B_aloadn rfl my_70 rfl ?_
    refine B_int hE.1 rfl my_70 rfl rfl (hA _ _) (fun r5 => ?_)
    refine B_iloadn rfl my_70 rfl ?_
    refine B_cV hE.1 rfl nmc_4.1 cw_70_21 (as := [wi (gv σ 3 1), wi n]) (rest := []) rfl (Nat.le_of_ble_eq_true rfl) (g_put hE nmc_4 (by decide)) (fun vo s9 hq => ?_)
    obtain ⟨rfl, rfl⟩ := hq
    show Bt E 70 20 [wr 3, wi n] [] (pt σ 4 500 (gv σ 3 1) n) _
    have e1 : gv (pt σ 4 500 (gv σ 3 1) n) 3 1 = gv σ 3 1 := gv_pt (by decide)
    refine B_aloadn rfl my_70 rfl ?_
    refine B_dup rfl my_70 (by decide) ?_
    refine B_int hE.1 rfl my_70 rfl rfl ((al_pt hA) _ _) (fun r6 => ?_)
    refine B_iconst rfl my_70 (by decide) ?_
    refine B_iadd rfl my_70 (by omega) (by omega) ?_
    refine B_put hE.1 rfl my_70 rfl rfl (Or.inl rfl) ?_
    refine B_ret rfl my_70 rfl ?_
    refine ⟨rfl, ?_⟩
    rw [e1]
    exact tq_write hA hT h2 h1
theorem l_digitsOf {E : mE} {σ : wSt} (hE : wE E) {n : Int} : ∀ (k : Nat) (l r : Int), 0 ≤ r → 1 ≤ l → l ≤ 10 → ((n < 100 → l = 1 ∧ r < 10 ∨ l = 2 ∧ r < 1) ∧ (n < 10000 → l = 1 ∧ r < 1000 ∨ l = 2 ∧ r < 100 ∨ l = 3 ∧ r < 10 ∨ l = 4 ∧ r < 1)) → r.toNat ≤ k → Bt E 72 7 [wi n, wi l, wi r] [] σ (fun vo t => ∃ x, vo = some (wi x) ∧ (1 ≤ x ∧ x ≤ 10 ∧ (n < 100 → x ≤ 2) ∧ (n < 10000 → x ≤ 4)) ∧ σ = t) := by
  intro k
  induction k with
  | zero =>
    intro l r h1 h2 h3 h4 hm
    refine B_rng 0 rfl (fun ha0 => ?_)
    refine B_rng 1 rfl (fun ha1 => ?_)
    refine B_rng 2 rfl (fun ha2 => ?_)
    refine B_iloadn rfl my_72 rfl ?_
    refine B_if_le rfl my_72 rfl (tgt := 28) (nx := 11) rfl rfl (fun c1 => ?_) (fun c1 => ?_)
    · refine B_iloadn rfl my_72 rfl ?_
      refine B_iret rfl my_72 rfl ?_
      exact ⟨_, rfl, ⟨by omega, by omega, fun g => by have := h4.1 g; omega, fun g => by have := h4.2 g; omega⟩, rfl⟩
    · exact absurd hm (by omega)
  | succ k ih =>
    intro l r h1 h2 h3 h4 hm
    refine B_rng 0 rfl (fun ha0 => ?_)
    refine B_rng 1 rfl (fun ha1 => ?_)
    refine B_rng 2 rfl (fun ha2 => ?_)
    refine B_iloadn rfl my_72 rfl ?_
    refine B_if_le rfl my_72 rfl (tgt := 28) (nx := 11) rfl rfl (fun c1 => ?_) (fun c1 => ?_)
    · refine B_iloadn rfl my_72 rfl ?_
      refine B_iret rfl my_72 rfl ?_
      exact ⟨_, rfl, ⟨by omega, by omega, fun g => by have := h4.1 g; omega, fun g => by have := h4.2 g; omega⟩, rfl⟩
    · refine B_iloadn rfl my_72 rfl ?_
      refine B_bipush rfl my_72 (n := 10) rfl ?_
      refine B_ic_ge rfl my_72 rfl (tgt := 28) (nx := 17) rfl rfl (fun c2 => ?_) (fun c2 => ?_)
      · refine B_iloadn rfl my_72 rfl ?_
        refine B_iret rfl my_72 rfl ?_
        exact ⟨_, rfl, ⟨by omega, by omega, fun g => by have := h4.1 g; omega, fun g => by have := h4.2 g; omega⟩, rfl⟩
      · refine B_iinc rfl my_72 (by decide) rfl rfl rfl (by omega) (by omega) (show _ = [wi n, wi (l + 1), wi r] from rfl) ?_
        refine B_iloadn rfl my_72 rfl ?_
        refine B_bipush rfl my_72 (n := 10) rfl ?_
        refine B_idiv rfl my_72 (by omega) (by omega) ?_
        refine B_istoren rfl my_72 (by decide) rfl (show _ = [wi n, wi (l + 1), wi (r / 10)] from rfl) ?_
        refine B_goto rfl my_72 rfl (tgt := 7) rfl ?_
        refine ih _ _ ?_ ?_ ?_ ⟨fun g => ?_, fun g => ?_⟩ ?_
        · omega
        · omega
        · omega
        · have := h4.1 g
          omega
        · have := h4.2 g
          omega
        · omega
theorem g_digitsOf {E : mE} {σ : wSt} (hE : wE E) {n : Int} (h0 : 0 ≤ n) : Ev E 72 [wi n] σ (fun x => 1 ≤ x ∧ x ≤ 10 ∧ (n < 100 → x ≤ 2) ∧ (n < 10000 → x ≤ 4)) := by
  refine Fn.of (nL := 3) ?_
  show Bt E 72 0 [wi n, wx, wx] [] σ _
  refine B_rng 0 rfl (fun ha0 => ?_)
  refine B_iconst rfl my_72 (by decide) ?_
  refine B_istoren rfl my_72 (by decide) rfl (show _ = [wi n, wi 1, wx] from rfl) ?_
  refine B_iloadn rfl my_72 rfl ?_
  refine B_bipush rfl my_72 (n := 10) rfl ?_
  refine B_idiv rfl my_72 (by omega) (by omega) ?_
  refine B_istoren rfl my_72 (by decide) rfl (show _ = [wi n, wi 1, wi (n / 10)] from rfl) ?_
  exact l_digitsOf hE _ 1 (n / 10) (by omega) (by omega) (by omega) ⟨fun g => by omega, fun g => by omega⟩ (Nat.le_refl _)
theorem l_writeNumber {E : mE} {σ : wSt} (hE : wE E) (hT : TX σ) {n d : Int} (hd1 : 0 ≤ d) (hd2 : d ≤ 10) (h5 : gv σ 3 1 + d ≤ 500) : ∀ (k : Nat) (s : wSt) (r p : Int), Al s → (∀ i, 0 ≤ rd s 4 500 i) → Off (fun a => a = 5) σ s → 0 ≤ r → p ≤ 600 → (p + 1 - gv s 3 1).toNat ≤ k → Bt E 71 25 [wr 3, wi n, wi d, wi r, wi p] [] s (fun vo t => vo = none ∧ Tq σ t d) := by
  intro k
  induction k with
  | zero =>
    intro s r p h1 h2 h3 h4 h5 hm
    have e3 : gv s 3 1 = gv σ 3 1 := off_gv h3 (by decide)
    have ht1 := hT.1
    refine B_rng 1 rfl (fun ha1 => ?_)
    refine B_rng 2 rfl (fun ha2 => ?_)
    refine B_rng 3 rfl (fun ha3 => ?_)
    refine B_rng 4 rfl (fun ha4 => ?_)
    refine B_iload rfl my_71 rfl ?_
    refine B_aloadn rfl my_71 rfl ?_
    refine B_int hE.1 rfl my_71 rfl rfl (h1 _ _) (fun r1 => ?_)
    refine B_ic_lt rfl my_71 rfl (tgt := 61) (nx := 34) rfl rfl (fun c2 => ?_) (fun c2 => ?_)
    · refine B_aloadn rfl my_71 rfl ?_
      refine B_aloadn rfl my_71 rfl ?_
      refine B_int hE.1 rfl my_71 rfl rfl (h1 _ _) (fun r3 => ?_)
      refine B_iloadn rfl my_71 rfl ?_
      refine B_iadd rfl my_71 (by omega) (by omega) ?_
      refine B_put hE.1 rfl my_71 rfl rfl (Or.inl rfl) ?_
      refine B_ret rfl my_71 rfl ?_
      refine ⟨rfl, al_wup h1, ⟨?_, ?_, fun i => ?_⟩, ?_, ?_⟩
      · rw [gv_eq, e3]; omega
      · rw [gv_eq, e3]; omega
      · rw [rd_wup (by decide)]; exact h2 i
      · rw [gv_eq, e3]
      · exact (h3.mono (R' := Rt) (fun a h => Or.inr (Or.inr h))).tr (off_wup (R := Rt) (Or.inr (Or.inl rfl)))
    · exact absurd hm (by omega)
  | succ k ih =>
    intro s r p h1 h2 h3 h4 h5 hm
    have e3 : gv s 3 1 = gv σ 3 1 := off_gv h3 (by decide)
    have ht1 := hT.1
    refine B_rng 1 rfl (fun ha1 => ?_)
    refine B_rng 2 rfl (fun ha2 => ?_)
    refine B_rng 3 rfl (fun ha3 => ?_)
    refine B_rng 4 rfl (fun ha4 => ?_)
    refine B_iload rfl my_71 rfl ?_
    refine B_aloadn rfl my_71 rfl ?_
    refine B_int hE.1 rfl my_71 rfl rfl (h1 _ _) (fun r1 => ?_)
    refine B_ic_lt rfl my_71 rfl (tgt := 61) (nx := 34) rfl rfl (fun c2 => ?_) (fun c2 => ?_)
    · refine B_aloadn rfl my_71 rfl ?_
      refine B_aloadn rfl my_71 rfl ?_
      refine B_int hE.1 rfl my_71 rfl rfl (h1 _ _) (fun r3 => ?_)
      refine B_iloadn rfl my_71 rfl ?_
      refine B_iadd rfl my_71 (by omega) (by omega) ?_
      refine B_put hE.1 rfl my_71 rfl rfl (Or.inl rfl) ?_
      refine B_ret rfl my_71 rfl ?_
      refine ⟨rfl, al_wup h1, ⟨?_, ?_, fun i => ?_⟩, ?_, ?_⟩
      · rw [gv_eq, e3]; omega
      · rw [gv_eq, e3]; omega
      · rw [rd_wup (by decide)]; exact h2 i
      · rw [gv_eq, e3]
      · exact (h3.mono (R' := Rt) (fun a h => Or.inr (Or.inr h))).tr (off_wup (R := Rt) (Or.inr (Or.inl rfl)))
    · refine B_aloadn rfl my_71 rfl ?_
      refine B_ref hE.1 rfl my_71 rfl (r := 4) rfl ?_
      refine B_iload rfl my_71 rfl ?_
      refine B_bipush rfl my_71 (n := 10) rfl ?_
      refine B_iloadn rfl my_71 rfl ?_
      refine B_bipush rfl my_71 (n := 10) rfl ?_
      refine B_irem rfl my_71 (by omega) (by omega) ?_
      refine B_iadd rfl my_71 (by omega) (by omega) ?_
      refine B_cV hE.1 rfl nmc_4.1 cw_71_21 (as := [wi p, wi (10 + (r % 10))]) (rest := []) rfl (Nat.le_of_ble_eq_true rfl) (g_put hE nmc_4 (by decide)) (fun vo s9 hq => ?_)
      obtain ⟨rfl, rfl⟩ := hq
      show Bt E 71 50 [wr 3, wi n, wi d, wi r, wi p] [] (pt s 4 500 p (10 + (r % 10))) _
      refine B_iloadn rfl my_71 rfl ?_
      refine B_bipush rfl my_71 (n := 10) rfl ?_
      refine B_idiv rfl my_71 (by omega) (by omega) ?_
      refine B_istoren rfl my_71 (by decide) rfl (show _ = [wr 3, wi n, wi d, wi (r / 10), wi p] from rfl) ?_
      refine B_iinc rfl my_71 (by decide) rfl rfl rfl (by omega) (by omega) (show _ = [wr 3, wi n, wi d, wi (r / 10), wi (p + (-1))] from rfl) ?_
      refine B_goto rfl my_71 rfl (tgt := 25) rfl ?_
      refine ih _ _ _ (al_pt h1) (fun i => ?_) (h3.tr (off_pt (R := fun a => a = 5) rfl)) ?_ ?_ ?_
      · rw [rd_pt]
        split
        · omega
        · exact h2 i
      · omega
      · omega
      · rw [gv_pt (by decide)]; omega
theorem g_writeNumber {E : mE} {σ : wSt} (hE : wE E) (hA : Al σ) (hT : TX σ) {n : Int} (h1 : 0 ≤ n) (h2 : gv σ 3 1 ≤ 480) : Fn E 71 [wr 3, wi n] σ (fun vo s => vo = none ∧ ∃ x, (1 ≤ x ∧ x ≤ 10 ∧ (n < 100 → x ≤ 2) ∧ (n < 10000 → x ≤ 4)) ∧ Tq σ s x) := by
  have ht1 := hT.1
  refine Fn.of (nL := 5) ?_
  show Bt E 71 0 [wr 3, wi n, wx, wx, wx] [] σ _
  refine B_rng 1 rfl (fun ha1 => ?_)
  refine B_iloadn rfl my_71 rfl ?_
  refine B_cS rfl cw_71_72_0 (as := [wi n]) (rest := []) rfl (Nat.le_of_ble_eq_true rfl) (g_digitsOf hE (by omega)) (fun vo s9 hq => ?_)
  obtain ⟨x1, rfl, ⟨hz2, g1a, g1b, g1c⟩, rfl⟩ := hq
  show Bt E 71 4 [wr 3, wi n, wx, wx, wx] [wi x1] σ _
  refine B_top (fun r3 => ?_)
  refine B_istoren rfl my_71 (by decide) rfl (show _ = [wr 3, wi n, wi x1, wx, wx] from rfl) ?_
  refine B_aloadn rfl my_71 rfl ?_
  refine B_iloadn rfl my_71 rfl ?_
  refine B_cV hE.1 rfl rfl cw_71_69 (as := [wi x1]) (rest := []) rfl (Nat.le_of_ble_eq_true rfl) (g_hasRoomFor hE hA hT (by omega) (by omega)) (fun vo s9 hq => ?_)
  obtain ⟨x4, rfl, ⟨hz5, q7⟩, rfl⟩ := hq
  show Bt E 71 10 [wr 3, wi n, wi x1, wx, wx] [wi x4] σ _
  refine B_top (fun r6 => ?_)
  refine B_if_eq rfl my_71 rfl (tgt := 71) (nx := 13) rfl rfl (fun c7 => ?_) (fun c7 => ?_)
  · refine B_ret rfl my_71 rfl ?_
    exfalso
    omega
  · refine B_iloadn rfl my_71 rfl ?_
    refine B_istoren rfl my_71 (by decide) rfl (show _ = [wr 3, wi n, wi x1, wi n, wx] from rfl) ?_
    refine B_aloadn rfl my_71 rfl ?_
    refine B_int hE.1 rfl my_71 rfl rfl (hA _ _) (fun r8 => ?_)
    refine B_iloadn rfl my_71 rfl ?_
    refine B_iadd rfl my_71 (by omega) (by omega) ?_
    refine B_iconst rfl my_71 (by decide) ?_
    refine B_isub rfl my_71 (by omega) (by omega) ?_
    refine B_istore rfl my_71 (by decide) rfl (show _ = [wr 3, wi n, wi x1, wi n, wi (((gv σ 3 1) + x1) - 1)] from rfl) ?_
    refine (l_writeNumber hE hT (by omega) (by omega) (by omega) _ σ n _ hA hT.2.2 Off.rf h1 (by omega) (Nat.le_refl _)).mono (fun vo s hq => ?_)
    exact ⟨hq.1, _, ⟨by omega, by omega, by omega, by omega⟩, hq.2⟩
theorem tq_flag {σ s : wSt} {d : Int} (h : Tq σ s d) : Tq σ (wup s 2 6 0) d ∧ gv (wup s 2 6 0) 2 6 = 0 := by
  obtain ⟨h1, h2, h3, h4⟩ := h
  refine ⟨⟨al_wup h1, ⟨?_, ?_, fun i => ?_⟩, ?_, ?_⟩, gv_eq⟩
  · rw [gv_ne (by decide)]; exact h2.1
  · rw [gv_ne (by decide)]; exact h2.2.1
  · rw [rd_wup (by decide)]; exact h2.2.2 i
  · rw [gv_ne (by decide)]; exact h3
  · exact h4.tr (off_wup (R := Rt) (Or.inl rfl))
theorem g_sign {E : mE} {σ : wSt} (hE : wE E) (hA : Al σ) (hT : TX σ) {n : Int} (h1 : 0 ≤ n) (h2 : n ≤ 45) (h3 : gv σ 3 1 ≤ 440) : Fn E 77 [wr 2, wi n] σ (fun vo s => ∃ x d, vo = some (wi x) ∧ d = 1 ∧ Tq σ s d ∧ gv s 2 6 = 0) := by
  have ht1 := hT.1
  have ht2 := hT.2.1
  refine Fn.of (nL := 2) ?_
  show Bt E 77 0 [wr 2, wi n] [] σ _
  refine B_rng 1 rfl (fun ha1 => ?_)
  refine B_iloadn rfl my_77 rfl ?_
  refine B_cS rfl cw_77_105_0 (as := [wi n]) (rest := []) rfl (Nat.le_of_ble_eq_true rfl) (g_isSign hE) (fun vo s9 hq => ?_)
  obtain ⟨x1, rfl, hz2, rfl⟩ := hq
  show Bt E 77 4 [wr 2, wi n] [wi x1] σ _
  refine B_top (fun r3 => ?_)
  refine B_if_ne rfl my_77 rfl (tgt := 17) (nx := 7) rfl rfl (fun c4 => ?_) (fun c4 => ?_)
  · refine B_aloadn rfl my_77 rfl ?_
    refine B_ref hE.1 rfl my_77 rfl (r := 3) rfl ?_
    refine B_iconst rfl my_77 (by decide) ?_
    refine B_cV hE.1 rfl rfl cw_77_69 (as := [wi 1]) (rest := []) rfl (Nat.le_of_ble_eq_true rfl) (g_hasRoomFor hE hA hT (by omega) (by omega)) (fun vo s9 hq => ?_)
    obtain ⟨x5, rfl, ⟨hz6, q22⟩, rfl⟩ := hq
    show Bt E 77 25 [wr 2, wi n] [wi x5] σ _
    refine B_top (fun r7 => ?_)
    refine B_if_ne rfl my_77 rfl (tgt := 38) (nx := 28) rfl rfl (fun c8 => ?_) (fun c8 => ?_)
    · refine B_aloadn rfl my_77 rfl ?_
      refine B_ref hE.1 rfl my_77 rfl (r := 3) rfl ?_
      refine B_iloadn rfl my_77 rfl ?_
      refine B_cV hE.1 rfl rfl cw_77_70 (as := [wi n]) (rest := []) rfl (Nat.le_of_ble_eq_true rfl) (g_write hE hA hT (by omega) (by omega)) (fun vo s1 hq => ?_)
      obtain ⟨rfl, hq1⟩ := hq
      have e1 := hq1.2.2.1
      have hA1 := hq1.1
      have hT1 := hq1.2.1
      show Bt E 77 46 [wr 2, wi n] [] s1 _
      refine B_aloadn rfl my_77 rfl ?_
      refine B_iconst rfl my_77 (by decide) ?_
      refine B_put hE.1 rfl my_77 rfl rfl (Or.inr ⟨rfl, Or.inl rfl⟩) ?_
      refine B_aloadn rfl my_77 rfl ?_
      refine B_ref hE.1 rfl my_77 rfl (r := 3) rfl ?_
      refine B_int hE.1 rfl my_77 rfl rfl ((al_wup hA1) _ _) (fun r9 => ?_)
      refine B_iret rfl my_77 rfl ?_
      exact ⟨_, _, rfl, rfl, (tq_flag hq1).1, (tq_flag hq1).2⟩
    · exfalso
      omega
  · exfalso
    omega
theorem g_digits {E : mE} {σ : wSt} (hE : wE E) (hA : Al σ) (hT : TX σ) {n : Int} (h1 : 0 ≤ n) (h3 : gv σ 3 1 ≤ 440) : Fn E 78 [wr 2, wi n] σ (fun vo s => ∃ x d, vo = some (wi x) ∧ (0 ≤ d ∧ (n < 100 → d ≤ 2)) ∧ Tq σ s d ∧ gv s 2 6 = 0) := by
  have ht1 := hT.1
  have ht2 := hT.2.1
  refine Fn.of (nL := 2) ?_
  show Bt E 78 0 [wr 2, wi n] [] σ _
  refine B_rng 1 rfl (fun ha1 => ?_)
  refine B_iloadn rfl my_78 rfl ?_
  refine B_if_ge rfl my_78 rfl (tgt := 14) (nx := 4) rfl rfl (fun c1 => ?_) (fun c1 => ?_)
  · refine B_aloadn rfl my_78 rfl ?_
    refine B_ref hE.1 rfl my_78 rfl (r := 3) rfl ?_
    refine B_iloadn rfl my_78 rfl ?_
    refine B_cS rfl cw_78_72_0 (as := [wi n]) (rest := [wr 3]) rfl (Nat.le_of_ble_eq_true rfl) (g_digitsOf hE (by omega)) (fun vo s9 hq => ?_)
    obtain ⟨x2, rfl, ⟨hz3, g19a, g19b, g19c⟩, rfl⟩ := hq
    show Bt E 78 22 [wr 2, wi n] [wi x2, wr 3] σ _
    refine B_top (fun r4 => ?_)
    refine B_cV hE.1 rfl rfl cw_78_69 (as := [wi x2]) (rest := []) rfl (Nat.le_of_ble_eq_true rfl) (g_hasRoomFor hE hA hT (by omega) (by omega)) (fun vo s9 hq => ?_)
    obtain ⟨x5, rfl, ⟨hz6, q22⟩, rfl⟩ := hq
    show Bt E 78 25 [wr 2, wi n] [wi x5] σ _
    refine B_top (fun r7 => ?_)
    refine B_if_ne rfl my_78 rfl (tgt := 38) (nx := 28) rfl rfl (fun c8 => ?_) (fun c8 => ?_)
    · refine B_aloadn rfl my_78 rfl ?_
      refine B_ref hE.1 rfl my_78 rfl (r := 3) rfl ?_
      refine B_iloadn rfl my_78 rfl ?_
      refine B_cV hE.1 rfl rfl cw_78_71 (as := [wi n]) (rest := []) rfl (Nat.le_of_ble_eq_true rfl) (g_writeNumber hE hA hT (by omega) (by omega)) (fun vo s1 hq => ?_)
      obtain ⟨rfl, d1, ⟨_, _, j1a, j1b⟩, hq1⟩ := hq
      have e1 := hq1.2.2.1
      have hA1 := hq1.1
      have hT1 := hq1.2.1
      show Bt E 78 46 [wr 2, wi n] [] s1 _
      refine B_aloadn rfl my_78 rfl ?_
      refine B_iconst rfl my_78 (by decide) ?_
      refine B_put hE.1 rfl my_78 rfl rfl (Or.inr ⟨rfl, Or.inl rfl⟩) ?_
      refine B_aloadn rfl my_78 rfl ?_
      refine B_ref hE.1 rfl my_78 rfl (r := 3) rfl ?_
      refine B_int hE.1 rfl my_78 rfl rfl ((al_wup hA1) _ _) (fun r9 => ?_)
      refine B_iret rfl my_78 rfl ?_
      exact ⟨_, _, rfl, ⟨by omega, by omega⟩, (tq_flag hq1).1, (tq_flag hq1).2⟩
    · exfalso
      omega
  · exfalso
    omega
theorem g_three {E : mE} {σ : wSt} (hE : wE E) (hA : Al σ) (hT : TX σ) {a b c n : Int} (h1 : 0 ≤ a) (h2 : 0 ≤ b) (h4 : 0 ≤ c) (h5 : 0 ≤ n) (h6 : n ≤ 45) (h3 : gv σ 3 1 ≤ 440) : Fn E 80 [wr 2, wi a, wi b, wi c, wi n] σ (fun vo s => ∃ x d, vo = some (wi x) ∧ (0 ≤ d ∧ (a < 100 → b < 100 → c < 10000 → d ≤ 10)) ∧ Tq σ s d ∧ gv s 2 6 = 0) := by
  have ht1 := hT.1
  have ht2 := hT.2.1
  refine Fn.of (nL := 5) ?_
  show Bt E 80 0 [wr 2, wi a, wi b, wi c, wi n] [] σ _
  refine B_rng 1 rfl (fun ha1 => ?_)
  refine B_rng 2 rfl (fun ha2 => ?_)
  refine B_rng 3 rfl (fun ha3 => ?_)
  refine B_rng 4 rfl (fun ha4 => ?_)
  refine B_iloadn rfl my_80 rfl ?_
  refine B_if_lt rfl my_80 rfl (tgt := 20) (nx := 4) rfl rfl (fun c1 => ?_) (fun c1 => ?_)
  · exfalso
    omega
  · refine B_iloadn rfl my_80 rfl ?_
    refine B_if_lt rfl my_80 rfl (tgt := 20) (nx := 8) rfl rfl (fun c2 => ?_) (fun c2 => ?_)
    · exfalso
      omega
    · refine B_iloadn rfl my_80 rfl ?_
      refine B_if_lt rfl my_80 rfl (tgt := 20) (nx := 12) rfl rfl (fun c3 => ?_) (fun c3 => ?_)
      · exfalso
        omega
      · refine B_iload rfl my_80 rfl ?_
        refine B_cS rfl cw_80_105_0 (as := [wi n]) (rest := []) rfl (Nat.le_of_ble_eq_true rfl) (g_isSign hE) (fun vo s9 hq => ?_)
        obtain ⟨x4, rfl, hz5, rfl⟩ := hq
        show Bt E 80 17 [wr 2, wi a, wi b, wi c, wi n] [wi x4] σ _
        refine B_top (fun r6 => ?_)
        refine B_if_ne rfl my_80 rfl (tgt := 30) (nx := 20) rfl rfl (fun c7 => ?_) (fun c7 => ?_)
        · refine B_aloadn rfl my_80 rfl ?_
          refine B_ref hE.1 rfl my_80 rfl (r := 3) rfl ?_
          refine B_iloadn rfl my_80 rfl ?_
          refine B_cS rfl cw_80_72_0 (as := [wi a]) (rest := [wr 3]) rfl (Nat.le_of_ble_eq_true rfl) (g_digitsOf hE (by omega)) (fun vo s9 hq => ?_)
          obtain ⟨x8, rfl, ⟨hz9, g35a, g35b, g35c⟩, rfl⟩ := hq
          show Bt E 80 38 [wr 2, wi a, wi b, wi c, wi n] [wi x8, wr 3] σ _
          refine B_top (fun r10 => ?_)
          refine B_iloadn rfl my_80 rfl ?_
          refine B_cS rfl cw_80_72_0 (as := [wi b]) (rest := [wi x8, wr 3]) rfl (Nat.le_of_ble_eq_true rfl) (g_digitsOf hE (by omega)) (fun vo s9 hq => ?_)
          obtain ⟨x11, rfl, ⟨hz12, g39a, g39b, g39c⟩, rfl⟩ := hq
          show Bt E 80 42 [wr 2, wi a, wi b, wi c, wi n] [wi x11, wi x8, wr 3] σ _
          refine B_top (fun r13 => ?_)
          refine B_iadd rfl my_80 (by omega) (by omega) ?_
          refine B_iloadn rfl my_80 rfl ?_
          refine B_cS rfl cw_80_72_0 (as := [wi c]) (rest := [wi (x8 + x11), wr 3]) rfl (Nat.le_of_ble_eq_true rfl) (g_digitsOf hE (by omega)) (fun vo s9 hq => ?_)
          obtain ⟨x14, rfl, ⟨hz15, g44a, g44b, g44c⟩, rfl⟩ := hq
          show Bt E 80 47 [wr 2, wi a, wi b, wi c, wi n] [wi x14, wi (x8 + x11), wr 3] σ _
          refine B_top (fun r16 => ?_)
          refine B_iadd rfl my_80 (by omega) (by omega) ?_
          refine B_iconst rfl my_80 (by decide) ?_
          refine B_iadd rfl my_80 (by omega) (by omega) ?_
          refine B_cV hE.1 rfl rfl cw_80_69 (as := [wi (((x8 + x11) + x14) + 2)]) (rest := []) rfl (Nat.le_of_ble_eq_true rfl) (g_hasRoomFor hE hA hT (by omega) (by omega)) (fun vo s9 hq => ?_)
          obtain ⟨x17, rfl, ⟨hz18, q50⟩, rfl⟩ := hq
          show Bt E 80 53 [wr 2, wi a, wi b, wi c, wi n] [wi x17] σ _
          refine B_top (fun r19 => ?_)
          refine B_if_ne rfl my_80 rfl (tgt := 66) (nx := 56) rfl rfl (fun c20 => ?_) (fun c20 => ?_)
          · refine B_aloadn rfl my_80 rfl ?_
            refine B_ref hE.1 rfl my_80 rfl (r := 3) rfl ?_
            refine B_iloadn rfl my_80 rfl ?_
            refine B_cV hE.1 rfl rfl cw_80_71 (as := [wi a]) (rest := []) rfl (Nat.le_of_ble_eq_true rfl) (g_writeNumber hE hA hT (by omega) (by omega)) (fun vo s1 hq => ?_)
            obtain ⟨rfl, d1, ⟨_, _, j1a, j1b⟩, hq1⟩ := hq
            have e1 := hq1.2.2.1
            have hA1 := hq1.1
            have hT1 := hq1.2.1
            show Bt E 80 74 [wr 2, wi a, wi b, wi c, wi n] [] s1 _
            refine B_aloadn rfl my_80 rfl ?_
            refine B_ref hE.1 rfl my_80 rfl (r := 3) rfl ?_
            refine B_iload rfl my_80 rfl ?_
            refine B_cV hE.1 rfl rfl cw_80_70 (as := [wi n]) (rest := []) rfl (Nat.le_of_ble_eq_true rfl) (g_write hE hA1 hT1 (by omega) (by omega)) (fun vo s2 hq => ?_)
            obtain ⟨rfl, hq2⟩ := hq
            have e2 := hq2.2.2.1
            have hA2 := hq2.1
            have hT2 := hq2.2.1
            show Bt E 80 83 [wr 2, wi a, wi b, wi c, wi n] [] s2 _
            refine B_aloadn rfl my_80 rfl ?_
            refine B_ref hE.1 rfl my_80 rfl (r := 3) rfl ?_
            refine B_iloadn rfl my_80 rfl ?_
            refine B_cV hE.1 rfl rfl cw_80_71 (as := [wi b]) (rest := []) rfl (Nat.le_of_ble_eq_true rfl) (g_writeNumber hE hA2 hT2 (by omega) (by omega)) (fun vo s3 hq => ?_)
            obtain ⟨rfl, d3, ⟨_, _, j3a, j3b⟩, hq3⟩ := hq
            have e3 := hq3.2.2.1
            have hA3 := hq3.1
            have hT3 := hq3.2.1
            show Bt E 80 91 [wr 2, wi a, wi b, wi c, wi n] [] s3 _
            refine B_aloadn rfl my_80 rfl ?_
            refine B_ref hE.1 rfl my_80 rfl (r := 3) rfl ?_
            refine B_iload rfl my_80 rfl ?_
            refine B_cV hE.1 rfl rfl cw_80_70 (as := [wi n]) (rest := []) rfl (Nat.le_of_ble_eq_true rfl) (g_write hE hA3 hT3 (by omega) (by omega)) (fun vo s4 hq => ?_)
            obtain ⟨rfl, hq4⟩ := hq
            have e4 := hq4.2.2.1
            have hA4 := hq4.1
            have hT4 := hq4.2.1
            show Bt E 80 100 [wr 2, wi a, wi b, wi c, wi n] [] s4 _
            refine B_aloadn rfl my_80 rfl ?_
            refine B_ref hE.1 rfl my_80 rfl (r := 3) rfl ?_
            refine B_iloadn rfl my_80 rfl ?_
            refine B_cV hE.1 rfl rfl cw_80_71 (as := [wi c]) (rest := []) rfl (Nat.le_of_ble_eq_true rfl) (g_writeNumber hE hA4 hT4 (by omega) (by omega)) (fun vo s5 hq => ?_)
            obtain ⟨rfl, d5, ⟨_, _, j5a, j5b⟩, hq5⟩ := hq
            have e5 := hq5.2.2.1
            have hA5 := hq5.1
            have hT5 := hq5.2.1
            show Bt E 80 108 [wr 2, wi a, wi b, wi c, wi n] [] s5 _
            refine B_aloadn rfl my_80 rfl ?_
            refine B_iconst rfl my_80 (by decide) ?_
            refine B_put hE.1 rfl my_80 rfl rfl (Or.inr ⟨rfl, Or.inl rfl⟩) ?_
            refine B_aloadn rfl my_80 rfl ?_
            refine B_ref hE.1 rfl my_80 rfl (r := 3) rfl ?_
            refine B_int hE.1 rfl my_80 rfl rfl ((al_wup hA5) _ _) (fun r21 => ?_)
            refine B_iret rfl my_80 rfl ?_
            have hz := (((hq1.tr hq2).tr hq3).tr hq4).tr hq5
            exact ⟨_, _, rfl, ⟨by omega, fun x1 x2 x3 => by have := j1a x1; have := j3a x2; have := j5b x3; omega⟩, (tq_flag hz).1, (tq_flag hz).2⟩
          · exfalso
            omega
        · exfalso
          omega
theorem l_letters {E : mE} {σ : wSt} (hE : wE E) (hT : TX σ) {a c : Int} (ha : 0 ≤ a) (hb : a < 26) (hc1 : 1 ≤ c) (hc2 : c ≤ 12) (h5 : gv σ 3 1 ≤ 440) : ∀ (k : Nat) (s : wSt) (p : Int), Tq σ s p → 0 ≤ p → p ≤ c → (c - p).toNat ≤ k → Bt E 79 54 [wr 2, wi a, wi c, wi p] [] s (fun vo t => ∃ x d, vo = some (wi x) ∧ d = c ∧ Tq σ t d ∧ gv t 2 6 = 0) := by
  intro k
  induction k with
  | zero =>
    intro s p h1 h2 h3 hm
    have e3 := h1.2.2.1
    have ht1 := hT.1
    refine B_rng 1 rfl (fun ha1 => ?_)
    refine B_rng 2 rfl (fun ha2 => ?_)
    refine B_rng 3 rfl (fun ha3 => ?_)
    refine B_iloadn rfl my_79 rfl ?_
    refine B_iloadn rfl my_79 rfl ?_
    refine B_ic_ge rfl my_79 rfl (tgt := 81) (nx := 59) rfl rfl (fun c1 => ?_) (fun c1 => ?_)
    · refine B_aloadn rfl my_79 rfl ?_
      refine B_iconst rfl my_79 (by decide) ?_
      refine B_put hE.1 rfl my_79 rfl rfl (Or.inr ⟨rfl, Or.inl rfl⟩) ?_
      refine B_aloadn rfl my_79 rfl ?_
      refine B_ref hE.1 rfl my_79 rfl (r := 3) rfl ?_
      refine B_int hE.1 rfl my_79 rfl rfl ((al_wup h1.1) _ _) (fun r2 => ?_)
      refine B_iret rfl my_79 rfl ?_
      have hz : Tq σ s c := by
        rw [show c = p by omega]
        exact h1
      exact ⟨_, _, rfl, rfl, (tq_flag hz).1, (tq_flag hz).2⟩
    · exact absurd hm (by omega)
  | succ k ih =>
    intro s p h1 h2 h3 hm
    have e3 := h1.2.2.1
    have ht1 := hT.1
    refine B_rng 1 rfl (fun ha1 => ?_)
    refine B_rng 2 rfl (fun ha2 => ?_)
    refine B_rng 3 rfl (fun ha3 => ?_)
    refine B_iloadn rfl my_79 rfl ?_
    refine B_iloadn rfl my_79 rfl ?_
    refine B_ic_ge rfl my_79 rfl (tgt := 81) (nx := 59) rfl rfl (fun c1 => ?_) (fun c1 => ?_)
    · refine B_aloadn rfl my_79 rfl ?_
      refine B_iconst rfl my_79 (by decide) ?_
      refine B_put hE.1 rfl my_79 rfl rfl (Or.inr ⟨rfl, Or.inl rfl⟩) ?_
      refine B_aloadn rfl my_79 rfl ?_
      refine B_ref hE.1 rfl my_79 rfl (r := 3) rfl ?_
      refine B_int hE.1 rfl my_79 rfl rfl ((al_wup h1.1) _ _) (fun r2 => ?_)
      refine B_iret rfl my_79 rfl ?_
      have hz : Tq σ s c := by
        rw [show c = p by omega]
        exact h1
      exact ⟨_, _, rfl, rfl, (tq_flag hz).1, (tq_flag hz).2⟩
    · refine B_aloadn rfl my_79 rfl ?_
      refine B_ref hE.1 rfl my_79 rfl (r := 3) rfl ?_
      refine B_bipush rfl my_79 (n := 20) rfl ?_
      refine B_iloadn rfl my_79 rfl ?_
      refine B_iloadn rfl my_79 rfl ?_
      refine B_iadd rfl my_79 (by omega) (by omega) ?_
      refine B_bipush rfl my_79 (n := 26) rfl ?_
      refine B_irem rfl my_79 (by omega) (by omega) ?_
      refine B_iadd rfl my_79 (by omega) (by omega) ?_
      refine B_cV hE.1 rfl rfl cw_79_70 (as := [wi (20 + ((a + p) % 26))]) (rest := []) rfl (Nat.le_of_ble_eq_true rfl) (g_write hE h1.1 h1.2.1 (by omega) (by omega)) (fun vo s1 hq => ?_)
      obtain ⟨rfl, hq1⟩ := hq
      have hA1 := hq1.1
      show Bt E 79 75 [wr 2, wi a, wi c, wi p] [] s1 _
      refine B_iinc rfl my_79 (by decide) rfl rfl rfl (by omega) (by omega) (show _ = [wr 2, wi a, wi c, wi (p + 1)] from rfl) ?_
      refine B_goto rfl my_79 rfl (tgt := 54) rfl ?_
      exact ih _ _ (h1.tr hq1) (by omega) (by omega) (by omega)
theorem g_letters {E : mE} {σ : wSt} (hE : wE E) (hA : Al σ) (hT : TX σ) {a c : Int} (h1 : 0 ≤ a) (h2 : a < 26) (h4 : 1 ≤ c) (h5 : c ≤ 12) (h3 : gv σ 3 1 ≤ 440) : Fn E 79 [wr 2, wi a, wi c] σ (fun vo s => ∃ x d, vo = some (wi x) ∧ d = c ∧ Tq σ s d ∧ gv s 2 6 = 0) := by
  have ht1 := hT.1
  have ht2 := hT.2.1
  refine Fn.of (nL := 4) ?_
  show Bt E 79 0 [wr 2, wi a, wi c, wx] [] σ _
  refine B_rng 1 rfl (fun ha1 => ?_)
  refine B_rng 2 rfl (fun ha2 => ?_)
  refine B_iloadn rfl my_79 rfl ?_
  refine B_if_lt rfl my_79 rfl (tgt := 21) (nx := 4) rfl rfl (fun c1 => ?_) (fun c1 => ?_)
  · exfalso
    omega
  · refine B_iloadn rfl my_79 rfl ?_
    refine B_bipush rfl my_79 (n := 26) rfl ?_
    refine B_ic_ge rfl my_79 rfl (tgt := 21) (nx := 10) rfl rfl (fun c2 => ?_) (fun c2 => ?_)
    · exfalso
      omega
    · refine B_iloadn rfl my_79 rfl ?_
      refine B_iconst rfl my_79 (by decide) ?_
      refine B_ic_lt rfl my_79 rfl (tgt := 21) (nx := 15) rfl rfl (fun c3 => ?_) (fun c3 => ?_)
      · exfalso
        omega
      · refine B_iloadn rfl my_79 rfl ?_
        refine B_bipush rfl my_79 (n := 12) rfl ?_
        refine B_ic_le rfl my_79 rfl (tgt := 31) (nx := 21) rfl rfl (fun c4 => ?_) (fun c4 => ?_)
        · refine B_aloadn rfl my_79 rfl ?_
          refine B_ref hE.1 rfl my_79 rfl (r := 3) rfl ?_
          refine B_iloadn rfl my_79 rfl ?_
          refine B_cV hE.1 rfl rfl cw_79_69 (as := [wi c]) (rest := []) rfl (Nat.le_of_ble_eq_true rfl) (g_hasRoomFor hE hA hT (by omega) (by omega)) (fun vo s9 hq => ?_)
          obtain ⟨x5, rfl, ⟨hz6, q36⟩, rfl⟩ := hq
          show Bt E 79 39 [wr 2, wi a, wi c, wx] [wi x5] σ _
          refine B_top (fun r7 => ?_)
          refine B_if_ne rfl my_79 rfl (tgt := 52) (nx := 42) rfl rfl (fun c8 => ?_) (fun c8 => ?_)
          · refine B_iconst rfl my_79 (by decide) ?_
            refine B_istoren rfl my_79 (by decide) rfl (show _ = [wr 2, wi a, wi c, wi 0] from rfl) ?_
            exact l_letters hE hT h1 h2 h4 h5 h3 _ σ 0 ⟨hA, hT, by omega, Off.rf⟩ (by omega) (by omega) (Nat.le_refl _)
          · exfalso
            omega
        · exfalso
          omega
theorem g_unsettleAll {E : mE} {σ : wSt} (hE : wE E) : Mv E 112 [wr 2] σ (us σ) := by
  refine Fn.of (nL := 1) ?_
  show Bt E 112 0 [wr 2] [] σ _
  refine B_aloadn rfl my_112 rfl ?_
  refine B_ref hE.1 rfl my_112 rfl (r := 11) rfl ?_
  refine B_iconst rfl my_112 (by decide) ?_
  refine B_put hE.1 rfl my_112 rfl rfl (Or.inr ⟨rfl, Or.inl rfl⟩) ?_
  refine B_aloadn rfl my_112 rfl ?_
  refine B_ref hE.1 rfl my_112 rfl (r := 46) rfl ?_
  refine B_iconst rfl my_112 (by decide) ?_
  refine B_put hE.1 rfl my_112 rfl rfl (Or.inr ⟨rfl, Or.inl rfl⟩) ?_
  refine B_aloadn rfl my_112 rfl ?_
  refine B_ref hE.1 rfl my_112 rfl (r := 81) rfl ?_
  refine B_iconst rfl my_112 (by decide) ?_
  refine B_put hE.1 rfl my_112 rfl rfl (Or.inr ⟨rfl, Or.inl rfl⟩) ?_
  refine B_aloadn rfl my_112 rfl ?_
  refine B_ref hE.1 rfl my_112 rfl (r := 116) rfl ?_
  refine B_iconst rfl my_112 (by decide) ?_
  refine B_put hE.1 rfl my_112 rfl rfl (Or.inr ⟨rfl, Or.inl rfl⟩) ?_
  refine B_ret rfl my_112 rfl ?_
  exact ⟨rfl, rfl⟩
theorem g_tell {E : mE} {σ : wSt} (hE : wE E) {a n : Int} (hk : kr σ 7 3 a) (h1 : 0 ≤ a) (h2 : a ≤ 2) (h3 : -1 ≤ n) (h4 : n ≤ 1 ∨ a = 0 ∧ n ≤ 3) : Fvs E 81 [wr 2, wi a, wi n] σ (wi (rd σ 7 3 a)) (us (pt σ 7 3 a n)) := by
  refine Fn.of (nL := 4) ?_
  show Bt E 81 0 [wr 2, wi a, wi n, wx] [] σ _
  refine B_rng 1 rfl (fun ha1 => ?_)
  refine B_rng 2 rfl (fun ha2 => ?_)
  refine B_iloadn rfl my_81 rfl ?_
  refine B_if_lt rfl my_81 rfl (tgt := 9) (nx := 4) rfl rfl (fun c1 => ?_) (fun c1 => ?_)
  · exfalso
    omega
  · refine B_iloadn rfl my_81 rfl ?_
    refine B_iconst rfl my_81 (by decide) ?_
    refine B_ic_le rfl my_81 rfl (tgt := 19) (nx := 9) rfl rfl (fun c2 => ?_) (fun c2 => ?_)
    · refine B_iloadn rfl my_81 rfl ?_
      refine B_iconst rfl my_81 (by decide) ?_
      refine B_ic_lt rfl my_81 rfl (tgt := 37) (nx := 24) rfl rfl (fun c3 => ?_) (fun c3 => ?_)
      · exfalso
        omega
      · refine B_iloadn rfl my_81 rfl ?_
        refine B_iloadn rfl my_81 rfl ?_
        refine B_if_ne rfl my_81 rfl (tgt := 33) (nx := 29) rfl rfl (fun c4 => ?_) (fun c4 => ?_)
        · refine B_iconst rfl my_81 (by decide) ?_
          refine B_ic_le rfl my_81 rfl (tgt := 47) (nx := 37) rfl rfl (fun c5 => ?_) (fun c5 => ?_)
          · refine B_aloadn rfl my_81 rfl ?_
            refine B_ref hE.1 rfl my_81 rfl (r := 6) rfl ?_
            refine B_ref hE.1 rfl my_81 rfl (r := 7) rfl ?_
            refine B_iloadn rfl my_81 rfl ?_
            refine B_cV hE.1 rfl nmc_7.1 cw_81_20 (as := [wi a]) (rest := []) rfl (Nat.le_of_ble_eq_true rfl) (g_at hE nmc_7 (by decide) hk) (fun vo s9 hq => ?_)
            obtain ⟨rfl, rfl⟩ := hq
            show Bt E 81 58 [wr 2, wi a, wi n, wx] [wi (rd σ 7 3 a)] σ _
            refine B_top (fun r6 => ?_)
            refine B_istoren rfl my_81 (by decide) rfl (show _ = [wr 2, wi a, wi n, wi (rd σ 7 3 a)] from rfl) ?_
            refine B_aloadn rfl my_81 rfl ?_
            refine B_ref hE.1 rfl my_81 rfl (r := 6) rfl ?_
            refine B_ref hE.1 rfl my_81 rfl (r := 7) rfl ?_
            refine B_iloadn rfl my_81 rfl ?_
            refine B_iloadn rfl my_81 rfl ?_
            refine B_cV hE.1 rfl nmc_7.1 cw_81_21 (as := [wi a, wi n]) (rest := []) rfl (Nat.le_of_ble_eq_true rfl) (g_put hE nmc_7 (by decide)) (fun vo s9 hq => ?_)
            obtain ⟨rfl, rfl⟩ := hq
            show Bt E 81 71 [wr 2, wi a, wi n, wi (rd σ 7 3 a)] [] (pt σ 7 3 a n) _
            refine B_aloadn rfl my_81 rfl ?_
            refine B_cV hE.1 rfl rfl cw_81_112 (as := []) (rest := []) rfl (Nat.le_of_ble_eq_true rfl) (g_unsettleAll hE) (fun vo s9 hq => ?_)
            obtain ⟨rfl, rfl⟩ := hq
            show Bt E 81 75 [wr 2, wi a, wi n, wi (rd σ 7 3 a)] [] (us (pt σ 7 3 a n)) _
            refine B_iloadn rfl my_81 rfl ?_
            refine B_iret rfl my_81 rfl ?_
            exact ⟨rfl, rfl⟩
          · exfalso
            omega
        · refine B_iconst rfl my_81 (by decide) ?_
          refine B_goto rfl my_81 rfl (tgt := 34) rfl ?_
          refine B_ic_le rfl my_81 rfl (tgt := 47) (nx := 37) rfl rfl (fun c7 => ?_) (fun c7 => ?_)
          · refine B_aloadn rfl my_81 rfl ?_
            refine B_ref hE.1 rfl my_81 rfl (r := 6) rfl ?_
            refine B_ref hE.1 rfl my_81 rfl (r := 7) rfl ?_
            refine B_iloadn rfl my_81 rfl ?_
            refine B_cV hE.1 rfl nmc_7.1 cw_81_20 (as := [wi a]) (rest := []) rfl (Nat.le_of_ble_eq_true rfl) (g_at hE nmc_7 (by decide) hk) (fun vo s9 hq => ?_)
            obtain ⟨rfl, rfl⟩ := hq
            show Bt E 81 58 [wr 2, wi a, wi n, wx] [wi (rd σ 7 3 a)] σ _
            refine B_top (fun r8 => ?_)
            refine B_istoren rfl my_81 (by decide) rfl (show _ = [wr 2, wi a, wi n, wi (rd σ 7 3 a)] from rfl) ?_
            refine B_aloadn rfl my_81 rfl ?_
            refine B_ref hE.1 rfl my_81 rfl (r := 6) rfl ?_
            refine B_ref hE.1 rfl my_81 rfl (r := 7) rfl ?_
            refine B_iloadn rfl my_81 rfl ?_
            refine B_iloadn rfl my_81 rfl ?_
            refine B_cV hE.1 rfl nmc_7.1 cw_81_21 (as := [wi a, wi n]) (rest := []) rfl (Nat.le_of_ble_eq_true rfl) (g_put hE nmc_7 (by decide)) (fun vo s9 hq => ?_)
            obtain ⟨rfl, rfl⟩ := hq
            show Bt E 81 71 [wr 2, wi a, wi n, wi (rd σ 7 3 a)] [] (pt σ 7 3 a n) _
            refine B_aloadn rfl my_81 rfl ?_
            refine B_cV hE.1 rfl rfl cw_81_112 (as := []) (rest := []) rfl (Nat.le_of_ble_eq_true rfl) (g_unsettleAll hE) (fun vo s9 hq => ?_)
            obtain ⟨rfl, rfl⟩ := hq
            show Bt E 81 75 [wr 2, wi a, wi n, wi (rd σ 7 3 a)] [] (us (pt σ 7 3 a n)) _
            refine B_iloadn rfl my_81 rfl ?_
            refine B_iret rfl my_81 rfl ?_
            exact ⟨rfl, rfl⟩
          · exfalso
            omega
    · exfalso
      omega
theorem g_setShare {E : mE} {σ : wSt} (hE : wE E) {n : Int} (hk : kn σ 6 2) (h1 : 1 ≤ n) (h2 : n ≤ 100) : Fvs E 82 [wr 2, wi n] σ (wi (gv σ 6 2)) (us (wup σ 6 2 n)) := by
  refine Fn.of (nL := 3) ?_
  show Bt E 82 0 [wr 2, wi n, wx] [] σ _
  refine B_rng 1 rfl (fun ha1 => ?_)
  refine B_iloadn rfl my_82 rfl ?_
  refine B_cS rfl cw_82_107_0 (as := [wi n]) (rest := []) rfl (Nat.le_of_ble_eq_true rfl) (g_isShare hE) (fun vo s9 hq => ?_)
  obtain ⟨x1, rfl, hz2, rfl⟩ := hq
  show Bt E 82 4 [wr 2, wi n, wx] [wi x1] σ _
  refine B_top (fun r3 => ?_)
  refine B_if_ne rfl my_82 rfl (tgt := 17) (nx := 7) rfl rfl (fun c4 => ?_) (fun c4 => ?_)
  · refine B_aloadn rfl my_82 rfl ?_
    refine B_ref hE.1 rfl my_82 rfl (r := 6) rfl ?_
    refine B_int hE.1 rfl my_82 rfl rfl hk (fun r5 => ?_)
    refine B_istoren rfl my_82 (by decide) rfl (show _ = [wr 2, wi n, wi (gv σ 6 2)] from rfl) ?_
    refine B_aloadn rfl my_82 rfl ?_
    refine B_ref hE.1 rfl my_82 rfl (r := 6) rfl ?_
    refine B_iloadn rfl my_82 rfl ?_
    refine B_put hE.1 rfl my_82 rfl rfl (Or.inl rfl) ?_
    refine B_aloadn rfl my_82 rfl ?_
    refine B_cV hE.1 rfl rfl cw_82_112 (as := []) (rest := []) rfl (Nat.le_of_ble_eq_true rfl) (g_unsettleAll hE) (fun vo s9 hq => ?_)
    obtain ⟨rfl, rfl⟩ := hq
    show Bt E 82 37 [wr 2, wi n, wi (gv σ 6 2)] [] (us (wup σ 6 2 n)) _
    refine B_iloadn rfl my_82 rfl ?_
    refine B_iret rfl my_82 rfl ?_
    exact ⟨rfl, rfl⟩
  · exfalso
    omega
theorem g_setRule {E : mE} {σ : wSt} (hE : wE E) {a n : Int} (hk : kr σ 9 20 a) (h1 : 0 ≤ a) (h2 : a < 20) (h3 : 0 ≤ n) (h4 : n ≤ 3) : Fvs E 83 [wr 2, wi a, wi n] σ (wi (rd σ 9 20 a)) (us (pt σ 9 20 a n)) := by
  refine Fn.of (nL := 4) ?_
  show Bt E 83 0 [wr 2, wi a, wi n, wx] [] σ _
  refine B_rng 1 rfl (fun ha1 => ?_)
  refine B_rng 2 rfl (fun ha2 => ?_)
  refine B_iloadn rfl my_83 rfl ?_
  refine B_if_lt rfl my_83 rfl (tgt := 10) (nx := 4) rfl rfl (fun c1 => ?_) (fun c1 => ?_)
  · exfalso
    omega
  · refine B_iloadn rfl my_83 rfl ?_
    refine B_bipush rfl my_83 (n := 20) rfl ?_
    refine B_ic_lt rfl my_83 rfl (tgt := 20) (nx := 10) rfl rfl (fun c2 => ?_) (fun c2 => ?_)
    · refine B_iloadn rfl my_83 rfl ?_
      refine B_if_lt rfl my_83 rfl (tgt := 29) (nx := 24) rfl rfl (fun c3 => ?_) (fun c3 => ?_)
      · exfalso
        omega
      · refine B_iloadn rfl my_83 rfl ?_
        refine B_iconst rfl my_83 (by decide) ?_
        refine B_ic_le rfl my_83 rfl (tgt := 39) (nx := 29) rfl rfl (fun c4 => ?_) (fun c4 => ?_)
        · refine B_aloadn rfl my_83 rfl ?_
          refine B_ref hE.1 rfl my_83 rfl (r := 6) rfl ?_
          refine B_ref hE.1 rfl my_83 rfl (r := 9) rfl ?_
          refine B_iloadn rfl my_83 rfl ?_
          refine B_cV hE.1 rfl nmc_9.1 cw_83_20 (as := [wi a]) (rest := []) rfl (Nat.le_of_ble_eq_true rfl) (g_at hE nmc_9 (by decide) hk) (fun vo s9 hq => ?_)
          obtain ⟨rfl, rfl⟩ := hq
          show Bt E 83 50 [wr 2, wi a, wi n, wx] [wi (rd σ 9 20 a)] σ _
          refine B_top (fun r5 => ?_)
          refine B_istoren rfl my_83 (by decide) rfl (show _ = [wr 2, wi a, wi n, wi (rd σ 9 20 a)] from rfl) ?_
          refine B_aloadn rfl my_83 rfl ?_
          refine B_ref hE.1 rfl my_83 rfl (r := 6) rfl ?_
          refine B_ref hE.1 rfl my_83 rfl (r := 9) rfl ?_
          refine B_iloadn rfl my_83 rfl ?_
          refine B_iloadn rfl my_83 rfl ?_
          refine B_cV hE.1 rfl nmc_9.1 cw_83_21 (as := [wi a, wi n]) (rest := []) rfl (Nat.le_of_ble_eq_true rfl) (g_put hE nmc_9 (by decide)) (fun vo s9 hq => ?_)
          obtain ⟨rfl, rfl⟩ := hq
          show Bt E 83 63 [wr 2, wi a, wi n, wi (rd σ 9 20 a)] [] (pt σ 9 20 a n) _
          refine B_aloadn rfl my_83 rfl ?_
          refine B_cV hE.1 rfl rfl cw_83_112 (as := []) (rest := []) rfl (Nat.le_of_ble_eq_true rfl) (g_unsettleAll hE) (fun vo s9 hq => ?_)
          obtain ⟨rfl, rfl⟩ := hq
          show Bt E 83 67 [wr 2, wi a, wi n, wi (rd σ 9 20 a)] [] (us (pt σ 9 20 a n)) _
          refine B_iloadn rfl my_83 rfl ?_
          refine B_iret rfl my_83 rfl ?_
          exact ⟨rfl, rfl⟩
        · exfalso
          omega
    · exfalso
      omega
theorem g_mustBeFilled {E : mE} {σ : wSt} (hE : wE E) {a : Int} (hk : kr σ 9 20 a) : Ev E 74 [wr 6, wi a] σ (fun x => x = 0 ∨ x = 1) := by
  refine Fn.of (nL := 3) ?_
  show Bt E 74 0 [wr 6, wi a, wx] [] σ _
  refine B_rng 1 rfl (fun ha1 => ?_)
  refine B_aloadn rfl my_74 rfl ?_
  refine B_ref hE.1 rfl my_74 rfl (r := 9) rfl ?_
  refine B_iloadn rfl my_74 rfl ?_
  refine B_cV hE.1 rfl nmc_9.1 cw_74_20 (as := [wi a]) (rest := []) rfl (Nat.le_of_ble_eq_true rfl) (g_at hE nmc_9 (by decide) hk) (fun vo s9 hq => ?_)
  obtain ⟨rfl, rfl⟩ := hq
  show Bt E 74 8 [wr 6, wi a, wx] [wi (rd σ 9 20 a)] σ _
  refine B_top (fun r1 => ?_)
  refine B_istoren rfl my_74 (by decide) rfl (show _ = [wr 6, wi a, wi (rd σ 9 20 a)] from rfl) ?_
  refine B_iloadn rfl my_74 rfl ?_
  refine B_iconst rfl my_74 (by decide) ?_
  refine B_ic_eq rfl my_74 rfl (tgt := 19) (nx := 14) rfl rfl (fun c2 => ?_) (fun c2 => ?_)
  · refine B_iconst rfl my_74 (by decide) ?_
    refine B_goto rfl my_74 rfl (tgt := 24) rfl ?_
    refine B_bret rfl my_74 rfl (by omega) ?_
    exact ⟨_, rfl, by omega, rfl⟩
  · refine B_iloadn rfl my_74 rfl ?_
    refine B_iconst rfl my_74 (by decide) ?_
    refine B_ic_ne rfl my_74 rfl (tgt := 23) (nx := 19) rfl rfl (fun c3 => ?_) (fun c3 => ?_)
    · refine B_iconst rfl my_74 (by decide) ?_
      refine B_bret rfl my_74 rfl (by omega) ?_
      exact ⟨_, rfl, by omega, rfl⟩
    · refine B_iconst rfl my_74 (by decide) ?_
      refine B_goto rfl my_74 rfl (tgt := 24) rfl ?_
      refine B_bret rfl my_74 rfl (by omega) ?_
      exact ⟨_, rfl, by omega, rfl⟩
theorem g_mustDiffer {E : mE} {σ : wSt} (hE : wE E) {a : Int} (hk : kr σ 9 20 a) : Ev E 75 [wr 6, wi a] σ (fun x => x = 0 ∨ x = 1) := by
  refine Fn.of (nL := 3) ?_
  show Bt E 75 0 [wr 6, wi a, wx] [] σ _
  refine B_rng 1 rfl (fun ha1 => ?_)
  refine B_aloadn rfl my_75 rfl ?_
  refine B_ref hE.1 rfl my_75 rfl (r := 9) rfl ?_
  refine B_iloadn rfl my_75 rfl ?_
  refine B_cV hE.1 rfl nmc_9.1 cw_75_20 (as := [wi a]) (rest := []) rfl (Nat.le_of_ble_eq_true rfl) (g_at hE nmc_9 (by decide) hk) (fun vo s9 hq => ?_)
  obtain ⟨rfl, rfl⟩ := hq
  show Bt E 75 8 [wr 6, wi a, wx] [wi (rd σ 9 20 a)] σ _
  refine B_top (fun r1 => ?_)
  refine B_istoren rfl my_75 (by decide) rfl (show _ = [wr 6, wi a, wi (rd σ 9 20 a)] from rfl) ?_
  refine B_iloadn rfl my_75 rfl ?_
  refine B_iconst rfl my_75 (by decide) ?_
  refine B_ic_eq rfl my_75 rfl (tgt := 19) (nx := 14) rfl rfl (fun c2 => ?_) (fun c2 => ?_)
  · refine B_iconst rfl my_75 (by decide) ?_
    refine B_goto rfl my_75 rfl (tgt := 24) rfl ?_
    refine B_bret rfl my_75 rfl (by omega) ?_
    exact ⟨_, rfl, by omega, rfl⟩
  · refine B_iloadn rfl my_75 rfl ?_
    refine B_iconst rfl my_75 (by decide) ?_
    refine B_ic_ne rfl my_75 rfl (tgt := 23) (nx := 19) rfl rfl (fun c3 => ?_) (fun c3 => ?_)
    · refine B_iconst rfl my_75 (by decide) ?_
      refine B_bret rfl my_75 rfl (by omega) ?_
      exact ⟨_, rfl, by omega, rfl⟩
    · refine B_iconst rfl my_75 (by decide) ?_
      refine B_goto rfl my_75 rfl (tgt := 24) rfl ?_
      refine B_bret rfl my_75 rfl (by omega) ?_
      exact ⟨_, rfl, by omega, rfl⟩
/-- the table of a parter -/
def tof (p : Int) : Nat := if p = 0 then 11 else if p = 1 then 46 else if p = 2 then 81 else 116
theorem tof_tb (p : Int) : Tb (tof p) := by
  unfold tof
  by_cases h0 : p = 0
  · rw [if_pos h0]; exact Or.inl rfl
  · rw [if_neg h0]
    by_cases h1 : p = 1
    · rw [if_pos h1]; exact Or.inr (Or.inl rfl)
    · rw [if_neg h1]
      by_cases h2 : p = 2
      · rw [if_pos h2]; exact Or.inr (Or.inr (Or.inl rfl))
      · rw [if_neg h2]; exact Or.inr (Or.inr (Or.inr rfl))
theorem g_tableWith {E : mE} {σ : wSt} (hE : wE E) {n : Int} (h1 : 0 ≤ n) (h2 : n ≤ 3) : Gv E 110 [wr 2, wi n] σ (wr (tof n)) := by
  refine Fn.of (nL := 2) ?_
  show Bt E 110 0 [wr 2, wi n] [] σ _
  refine B_rng 1 rfl (fun ha1 => ?_)
  refine B_iloadn rfl my_110 rfl ?_
  refine B_switch rfl my_110 rfl (fun c1 => ?_) (fun c1a c1b => ?_)
  · show Bt E 110 43 _ _ _ _
    refine B_aloadn rfl my_110 rfl ?_
    refine B_ref hE.1 rfl my_110 rfl (r := 116) rfl ?_
    refine B_aret rfl my_110 rfl ?_
    refine ⟨?_, rfl⟩
    unfold tof
    rw [if_neg (by omega), if_neg (by omega), if_neg (by omega)]
  · have c1 : n = 0 ∨ n = 1 ∨ n = 2 := by omega
    rcases c1 with c1 | c1 | c1
    · refine ⟨27, by rw [c1]; rfl, rfl, ?_⟩
      show Bt E 110 28 _ _ _ _
      refine B_aloadn rfl my_110 rfl ?_
      refine B_ref hE.1 rfl my_110 rfl (r := 11) rfl ?_
      refine B_aret rfl my_110 rfl ?_
      refine ⟨?_, rfl⟩
      unfold tof
      rw [if_pos (by omega)]
    · refine ⟨32, by rw [c1]; rfl, rfl, ?_⟩
      show Bt E 110 33 _ _ _ _
      refine B_aloadn rfl my_110 rfl ?_
      refine B_ref hE.1 rfl my_110 rfl (r := 46) rfl ?_
      refine B_aret rfl my_110 rfl ?_
      refine ⟨?_, rfl⟩
      unfold tof
      rw [if_neg (by omega), if_pos (by omega)]
    · refine ⟨37, by rw [c1]; rfl, rfl, ?_⟩
      show Bt E 110 38 _ _ _ _
      refine B_aloadn rfl my_110 rfl ?_
      refine B_ref hE.1 rfl my_110 rfl (r := 81) rfl ?_
      refine B_aret rfl my_110 rfl ?_
      refine ⟨?_, rfl⟩
      unfold tof
      rw [if_neg (by omega), if_neg (by omega), if_pos (by omega)]
end
section
/-! ===== Reading, as it stands ===== -/
theorem cw_34_33 : wcV 34 0 33 2 0 0 = true := by decide +kernel
theorem cw_35_20 : wcV 35 0 20 1 1 1 = true := by decide +kernel
theorem cw_36_20 : wcV 36 0 20 1 1 1 = true := by decide +kernel
theorem cw_36_35 : wcV 36 0 35 2 1 1 = true := by decide +kernel
theorem cw_37_20 : wcV 37 0 20 1 1 1 = true := by decide +kernel
theorem cw_38_20 : wcV 38 0 20 1 1 1 = true := by decide +kernel
/-- a reading that is known; what holds of it -/
def KRd (T : Nat) (σ : wSt) : Prop := ∀ a, T + 1 ≤ a → a ≤ T + 15 → ∀ b, kn σ a b
def RI (T : Nat) (σ : wSt) : Prop := (0 ≤ gv σ (T + 1) 9 ∧ gv σ (T + 1) 9 ≤ 60 ∧ 0 ≤ gv σ (T + 1) 8 ∧ gv σ (T + 1) 8 ≤ 501) ∧
  (∀ r, 0 ≤ r → r < gv σ (T + 1) 9 → 1 ≤ rd σ (T + 14) 60 r ∧ rd σ (T + 14) 60 r ≤ 501 ∧ 0 ≤ rd σ (T + 12) 60 r ∧ rd σ (T + 12) 60 r + min (rd σ (T + 14) 60 r) 20 ≤ gv σ (T + 1) 8) ∧
  (∀ c, 0 ≤ c → c < gv σ (T + 1) 8 → 0 ≤ rd σ (T + 6) 501 c ∧ rd σ (T + 6) 501 c ≤ 500 ∧ 0 ≤ rd σ (T + 4) 501 c ∧ rd σ (T + 4) 501 c ≤ 500 ∧ 0 ≤ rd σ (T + 10) 501 c ∧ rd σ (T + 10) 501 c ≤ 2 ∧ (rd σ (T + 8) 501 c = 0 ∨ rd σ (T + 8) 501 c = 1)) ∧
  (∀ i, 0 ≤ rd σ (T + 2) 500 i) ∧
  ((gv σ (T + 1) 9 = 0 → gv σ (T + 1) 12 = 0 ∧ gv σ (T + 1) 13 = 0) ∧ (0 < gv σ (T + 1) 9 → ∃ r, 0 ≤ r ∧ r < gv σ (T + 1) 9 ∧ gv σ (T + 1) 12 = rd σ (T + 14) 60 r) ∧ 0 ≤ gv σ (T + 1) 13 ∧ gv σ (T + 1) 13 ≤ gv σ (T + 1) 9)
theorem RI.uw {T : Nat} {σ : wSt} (h : RI T σ) : 0 ≤ gv σ (T + 1) 12 ∧ gv σ (T + 1) 12 ≤ 501 ∧ (gv σ (T + 1) 9 = 0 → gv σ (T + 1) 12 = 0) ∧ (0 < gv σ (T + 1) 9 → 1 ≤ gv σ (T + 1) 12) := by
  obtain ⟨⟨h1, h2, h3, h4⟩, h5, -, -, h6, h7, h8, h9⟩ := h
  rcases Int.lt_or_le 0 (gv σ (T + 1) 9) with g | g
  · obtain ⟨r, g1, g2, g3⟩ := h7 g
    obtain ⟨g4, g5, -⟩ := h5 r g1 g2
    rw [g3]
    exact ⟨by omega, by omega, fun g6 => by omega, fun _ => by omega⟩
  · have := (h6 (by omega)).1
    exact ⟨by omega, by omega, fun _ => this, fun g6 => by omega⟩
/-- the cell at a place of a row; -1: none -/
def ca (σ : wSt) (T : Nat) (r c : Int) : Int := if 0 ≤ r ∧ r < gv σ (T + 1) 9 ∧ 0 ≤ c ∧ c < min (rd σ (T + 14) 60 r) 20 then rd σ (T + 12) 60 r + c else -1
theorem ca_c {T : Nat} {σ : wSt} {r c : Int} (h : RI T σ) : (ca σ T r c = -1 ∧ ¬ (0 ≤ r ∧ r < gv σ (T + 1) 9 ∧ 0 ≤ c ∧ c < min (rd σ (T + 14) 60 r) 20)) ∨ ((0 ≤ r ∧ r < gv σ (T + 1) 9 ∧ 0 ≤ c ∧ c < min (rd σ (T + 14) 60 r) 20) ∧ ca σ T r c = rd σ (T + 12) 60 r + c ∧ 0 ≤ ca σ T r c ∧ ca σ T r c < gv σ (T + 1) 8) := by
  unfold ca
  by_cases g : 0 ≤ r ∧ r < gv σ (T + 1) 9 ∧ 0 ≤ c ∧ c < min (rd σ (T + 14) 60 r) 20
  · rw [if_pos g]
    obtain ⟨g1, g2, g3, g4⟩ := g
    have := h.2.1 r g1 g2
    exact Or.inr ⟨⟨g1, g2, g3, g4⟩, rfl, by omega, by omega⟩
  · rw [if_neg g]
    exact Or.inl ⟨rfl, g⟩
theorem ca_rng {T : Nat} {σ : wSt} {r c : Int} (h : RI T σ) : -1 ≤ ca σ T r c ∧ ca σ T r c ≤ 500 := by
  have h1 := h.1
  rcases ca_c h (r := r) (c := c) with g | g
  · omega
  · omega
/-- the score -/
def pts (σ : wSt) (T : Nat) : Int := if min (gv σ (T + 1) 12) 20 < 2 ∨ gv σ (T + 1) 9 < 1 then 0 else 100 * gv σ (T + 1) 13 / gv σ (T + 1) 9 + min (gv σ (T + 1) 12) 20
theorem g_columnCount {E : mE} {σ : wSt} {T : Nat} (hE : wE E) (hT : Tb T) (hR : KRd T σ) : Gv E 33 [wr (T + 1)] σ (wi (min (gv σ (T + 1) 12) 20)) := by
  refine Fn.of (nL := 1) ?_
  show Bt E 33 0 [wr (T + 1)] [] σ _
  refine B_aloadn rfl my_33 rfl ?_
  refine B_int hE.1 rfl my_33 rfl (wn_1_12 hT) (hR _ (by omega) (by omega) _) (fun r1 => ?_)
  refine B_bipush rfl my_33 (n := 20) rfl ?_
  refine B_min rfl (by decide +kernel) ?_
  refine B_iret rfl my_33 rfl ?_
  exact ⟨rfl, rfl⟩
theorem g_cellsIn {E : mE} {σ : wSt} {T : Nat} (hE : wE E) (hT : Tb T) (hR : KRd T σ) {r : Int} : Gv E 35 [wr (T + 1), wi r] σ (wi (min (rd σ (T + 14) 60 r) 20)) := by
  refine Fn.of (nL := 2) ?_
  show Bt E 35 0 [wr (T + 1), wi r] [] σ _
  refine B_rng 1 rfl (fun ha1 => ?_)
  refine B_aloadn rfl my_35 rfl ?_
  refine B_ref hE.1 rfl my_35 rfl (r := (T + 14)) (wf_1_6 hT) ?_
  refine B_iloadn rfl my_35 rfl ?_
  refine B_cV hE.1 rfl (nm_14 hT).1 cw_35_20 (as := [wi r]) (rest := []) rfl (Nat.le_of_ble_eq_true rfl) (g_at hE (nm_14 hT) (by decide) (kr_of fun _ => hR _ (by omega) (by omega) _)) (fun vo s9 hq => ?_)
  obtain ⟨rfl, rfl⟩ := hq
  show Bt E 35 8 [wr (T + 1), wi r] [wi (rd σ (T + 14) 60 r)] σ _
  refine B_top (fun r1 => ?_)
  refine B_bipush rfl my_35 (n := 20) rfl ?_
  refine B_min rfl (by decide +kernel) ?_
  refine B_iret rfl my_35 rfl ?_
  exact ⟨rfl, rfl⟩
theorem g_cellAt {E : mE} {σ : wSt} {T : Nat} (hE : wE E) (hT : Tb T) (hR : KRd T σ) (hI : RI T σ) {r c : Int} : Gv E 36 [wr (T + 1), wi r, wi c] σ (wi (ca σ T r c)) := by
  refine Fn.of (nL := 3) ?_
  show Bt E 36 0 [wr (T + 1), wi r, wi c] [] σ _
  refine B_rng 1 rfl (fun ha1 => ?_)
  refine B_rng 2 rfl (fun ha2 => ?_)
  refine B_iloadn rfl my_36 rfl ?_
  refine B_if_lt rfl my_36 rfl (tgt := 25) (nx := 4) rfl rfl (fun c1 => ?_) (fun c1 => ?_)
  · refine B_iconst rfl my_36 (by decide) ?_
    refine B_iret rfl my_36 rfl ?_
    refine ⟨?_, rfl⟩
    unfold ca
    rw [if_neg (by omega)]
  · refine B_iloadn rfl my_36 rfl ?_
    refine B_aloadn rfl my_36 rfl ?_
    refine B_int hE.1 rfl my_36 rfl (wn_1_9 hT) (hR _ (by omega) (by omega) _) (fun r2 => ?_)
    refine B_ic_ge rfl my_36 rfl (tgt := 25) (nx := 12) rfl rfl (fun c3 => ?_) (fun c3 => ?_)
    · refine B_iconst rfl my_36 (by decide) ?_
      refine B_iret rfl my_36 rfl ?_
      refine ⟨?_, rfl⟩
      unfold ca
      rw [if_neg (by omega)]
    · refine B_iloadn rfl my_36 rfl ?_
      refine B_if_lt rfl my_36 rfl (tgt := 25) (nx := 16) rfl rfl (fun c4 => ?_) (fun c4 => ?_)
      · refine B_iconst rfl my_36 (by decide) ?_
        refine B_iret rfl my_36 rfl ?_
        refine ⟨?_, rfl⟩
        unfold ca
        rw [if_neg (by omega)]
      · refine B_iloadn rfl my_36 rfl ?_
        refine B_aloadn rfl my_36 rfl ?_
        refine B_iloadn rfl my_36 rfl ?_
        refine B_cV hE.1 rfl (wc_1 hT) cw_36_35 (as := [wi r]) (rest := [wi c]) rfl (Nat.le_of_ble_eq_true rfl) (g_cellsIn hE hT hR) (fun vo s9 hq => ?_)
        obtain ⟨rfl, rfl⟩ := hq
        show Bt E 36 22 [wr (T + 1), wi r, wi c] [wi (min (rd σ (T + 14) 60 r) 20), wi c] σ _
        refine B_top (fun r5 => ?_)
        refine B_ic_lt rfl my_36 rfl (tgt := 27) (nx := 25) rfl rfl (fun c6 => ?_) (fun c6 => ?_)
        · have hr := hI.2.1 r (by omega) (by omega)
          have hr0 := hI.1
          refine B_aloadn rfl my_36 rfl ?_
          refine B_ref hE.1 rfl my_36 rfl (r := (T + 12)) (wf_1_5 hT) ?_
          refine B_iloadn rfl my_36 rfl ?_
          refine B_cV hE.1 rfl (nm_12 hT).1 cw_36_20 (as := [wi r]) (rest := []) rfl (Nat.le_of_ble_eq_true rfl) (g_at hE (nm_12 hT) (by decide) (kr_of fun _ => hR _ (by omega) (by omega) _)) (fun vo s9 hq => ?_)
          obtain ⟨rfl, rfl⟩ := hq
          show Bt E 36 35 [wr (T + 1), wi r, wi c] [wi (rd σ (T + 12) 60 r)] σ _
          refine B_top (fun r7 => ?_)
          refine B_iloadn rfl my_36 rfl ?_
          refine B_iadd rfl my_36 (by omega) (by omega) ?_
          refine B_iret rfl my_36 rfl ?_
          refine ⟨?_, rfl⟩
          unfold ca
          rw [if_pos (by omega)]
        · refine B_iconst rfl my_36 (by decide) ?_
          refine B_iret rfl my_36 rfl ?_
          refine ⟨?_, rfl⟩
          unfold ca
          rw [if_neg (by omega)]
theorem g_points {E : mE} {σ : wSt} {T : Nat} (hE : wE E) (hT : Tb T) (hR : KRd T σ) (hI : RI T σ) : Gv E 34 [wr (T + 1)] σ (wi (pts σ T)) := by
  have hq0 := hI.1
  have hq1 := hI.2.2.2.2.2.2
  have hq2 := hI.uw
  refine Fn.of (nL := 1) ?_
  show Bt E 34 0 [wr (T + 1)] [] σ _
  refine B_aloadn rfl my_34 rfl ?_
  refine B_cV hE.1 rfl (wc_1 hT) cw_34_33 (as := []) (rest := []) rfl (Nat.le_of_ble_eq_true rfl) (g_columnCount hE hT hR) (fun vo s9 hq => ?_)
  obtain ⟨rfl, rfl⟩ := hq
  show Bt E 34 4 [wr (T + 1)] [wi (min (gv σ (T + 1) 12) 20)] σ _
  refine B_top (fun r1 => ?_)
  refine B_iconst rfl my_34 (by decide) ?_
  refine B_ic_lt rfl my_34 rfl (tgt := 16) (nx := 8) rfl rfl (fun c2 => ?_) (fun c2 => ?_)
  · refine B_iconst rfl my_34 (by decide) ?_
    refine B_iret rfl my_34 rfl ?_
    refine ⟨?_, rfl⟩
    unfold pts
    rw [if_pos (by omega)]
  · refine B_aloadn rfl my_34 rfl ?_
    refine B_int hE.1 rfl my_34 rfl (wn_1_9 hT) (hR _ (by omega) (by omega) _) (fun r3 => ?_)
    refine B_iconst rfl my_34 (by decide) ?_
    refine B_ic_ge rfl my_34 rfl (tgt := 18) (nx := 16) rfl rfl (fun c4 => ?_) (fun c4 => ?_)
    · refine B_bipush rfl my_34 (n := 100) rfl ?_
      refine B_aloadn rfl my_34 rfl ?_
      refine B_int hE.1 rfl my_34 rfl (wn_1_13 hT) (hR _ (by omega) (by omega) _) (fun r5 => ?_)
      refine B_imul rfl my_34 (by omega) (by omega) ?_
      refine B_aloadn rfl my_34 rfl ?_
      refine B_int hE.1 rfl my_34 rfl (wn_1_9 hT) (hR _ (by omega) (by omega) _) (fun r6 => ?_)
      refine B_idiv rfl my_34 (by omega) (by omega) ?_
      refine B_aloadn rfl my_34 rfl ?_
      refine B_cV hE.1 rfl (wc_1 hT) cw_34_33 (as := []) (rest := [wi ((100 * (gv σ (T + 1) 13)) / (gv σ (T + 1) 9))]) rfl (Nat.le_of_ble_eq_true rfl) (g_columnCount hE hT hR) (fun vo s9 hq => ?_)
      obtain ⟨rfl, rfl⟩ := hq
      show Bt E 34 34 [wr (T + 1)] [wi (min (gv σ (T + 1) 12) 20), wi ((100 * (gv σ (T + 1) 13)) / (gv σ (T + 1) 9))] σ _
      refine B_top (fun r7 => ?_)
      refine B_iadd rfl my_34 (by have := Int.ediv_nonneg (show 0 ≤ 100 * (gv σ (T + 1) 13) by omega) (show 0 ≤ gv σ (T + 1) 9 by omega); omega) (by have := Int.ediv_le_self (b := gv σ (T + 1) 9) (show 0 ≤ 100 * (gv σ (T + 1) 13) by omega); omega) ?_
      refine B_iret rfl my_34 rfl ?_
      refine ⟨?_, rfl⟩
      unfold pts
      rw [if_neg (by omega)]
    · refine B_iconst rfl my_34 (by decide) ?_
      refine B_iret rfl my_34 rfl ?_
      refine ⟨?_, rfl⟩
      unfold pts
      rw [if_pos (by omega)]
theorem l_haveSameSigns {E : mE} {σ : wSt} {T : Nat} (hE : wE E) (hT : Tb T) (hR : KRd T σ) {o q n a b : Int} : ∀ (k : Nat) (i : Int), wI i → (n - i).toNat ≤ k → Bt E 37 46 [wr (T + 1), wi o, wi q, wi n, wi a, wi b, wi i] [] σ (fun vo t => ∃ x, vo = some (wi x) ∧ (x = 0 ∨ x = 1) ∧ σ = t) := by
  intro k
  induction k with
  | zero =>
    intro i h1 hm
    refine B_rng 1 rfl (fun ha1 => ?_)
    refine B_rng 2 rfl (fun ha2 => ?_)
    refine B_rng 3 rfl (fun ha3 => ?_)
    refine B_rng 4 rfl (fun ha4 => ?_)
    refine B_rng 5 rfl (fun ha5 => ?_)
    refine B_rng 6 rfl (fun ha6 => ?_)
    refine B_iload rfl my_37 rfl ?_
    refine B_iloadn rfl my_37 rfl ?_
    refine B_ic_ge rfl my_37 rfl (tgt := 87) (nx := 52) rfl rfl (fun c1 => ?_) (fun c1 => ?_)
    · refine B_iconst rfl my_37 (by decide) ?_
      refine B_bret rfl my_37 rfl (by omega) ?_
      exact ⟨_, rfl, by omega, rfl⟩
    · exact absurd hm (by omega)
  | succ k ih =>
    intro i h1 hm
    refine B_rng 1 rfl (fun ha1 => ?_)
    refine B_rng 2 rfl (fun ha2 => ?_)
    refine B_rng 3 rfl (fun ha3 => ?_)
    refine B_rng 4 rfl (fun ha4 => ?_)
    refine B_rng 5 rfl (fun ha5 => ?_)
    refine B_rng 6 rfl (fun ha6 => ?_)
    refine B_iload rfl my_37 rfl ?_
    refine B_iloadn rfl my_37 rfl ?_
    refine B_ic_ge rfl my_37 rfl (tgt := 87) (nx := 52) rfl rfl (fun c1 => ?_) (fun c1 => ?_)
    · refine B_iconst rfl my_37 (by decide) ?_
      refine B_bret rfl my_37 rfl (by omega) ?_
      exact ⟨_, rfl, by omega, rfl⟩
    · refine B_aloadn rfl my_37 rfl ?_
      refine B_ref hE.1 rfl my_37 rfl (r := (T + 2)) (wf_1_0 hT) ?_
      refine B_iload rfl my_37 rfl ?_
      refine B_iload rfl my_37 rfl ?_
      refine B_iaddW rfl my_37 ?_
      refine B_top (fun r2 => ?_)
      refine B_cV hE.1 rfl (nm_2 hT).1 cw_37_20 (as := [wi (w32 (a + i))]) (rest := []) rfl (Nat.le_of_ble_eq_true rfl) (g_at hE (nm_2 hT) (by decide) (kr_of fun _ => hR _ (by omega) (by omega) _)) (fun vo s9 hq => ?_)
      obtain ⟨rfl, rfl⟩ := hq
      show Bt E 37 64 [wr (T + 1), wi o, wi q, wi n, wi a, wi b, wi i] [wi (rd σ (T + 2) 500 (w32 (a + i)))] σ _
      refine B_top (fun r3 => ?_)
      refine B_aloadn rfl my_37 rfl ?_
      refine B_ref hE.1 rfl my_37 rfl (r := (T + 2)) (wf_1_0 hT) ?_
      refine B_iload rfl my_37 rfl ?_
      refine B_iload rfl my_37 rfl ?_
      refine B_iaddW rfl my_37 ?_
      refine B_top (fun r4 => ?_)
      refine B_cV hE.1 rfl (nm_2 hT).1 cw_37_20 (as := [wi (w32 (b + i))]) (rest := [wi (rd σ (T + 2) 500 (w32 (a + i)))]) rfl (Nat.le_of_ble_eq_true rfl) (g_at hE (nm_2 hT) (by decide) (kr_of fun _ => hR _ (by omega) (by omega) _)) (fun vo s9 hq => ?_)
      obtain ⟨rfl, rfl⟩ := hq
      show Bt E 37 76 [wr (T + 1), wi o, wi q, wi n, wi a, wi b, wi i] [wi (rd σ (T + 2) 500 (w32 (b + i))), wi (rd σ (T + 2) 500 (w32 (a + i)))] σ _
      refine B_top (fun r5 => ?_)
      refine B_ic_eq rfl my_37 rfl (tgt := 81) (nx := 79) rfl rfl (fun c6 => ?_) (fun c6 => ?_)
      · refine B_iinc rfl my_37 (by decide) rfl rfl rfl (by omega) (by omega) (show _ = [wr (T + 1), wi o, wi q, wi n, wi a, wi b, wi (i + 1)] from rfl) ?_
        refine B_goto rfl my_37 rfl (tgt := 46) rfl ?_
        exact ih _ (by omega) (by omega)
      · refine B_iconst rfl my_37 (by decide) ?_
        refine B_bret rfl my_37 rfl (by omega) ?_
        exact ⟨_, rfl, by omega, rfl⟩
theorem g_haveSameSigns {E : mE} {σ : wSt} {T : Nat} (hE : wE E) (hT : Tb T) (hR : KRd T σ) {o q : Int} : Ev E 37 [wr (T + 1), wi o, wi q] σ (fun x => (x = 0 ∨ x = 1) ∧ (x = 1 → rd σ (T + 6) 501 o = rd σ (T + 6) 501 q)) := by
  refine Fn.of (nL := 7) ?_
  show Bt E 37 0 [wr (T + 1), wi o, wi q, wx, wx, wx, wx] [] σ _
  refine B_rng 1 rfl (fun ha1 => ?_)
  refine B_rng 2 rfl (fun ha2 => ?_)
  refine B_aloadn rfl my_37 rfl ?_
  refine B_ref hE.1 rfl my_37 rfl (r := (T + 6)) (wf_1_2 hT) ?_
  refine B_iloadn rfl my_37 rfl ?_
  refine B_cV hE.1 rfl (nm_6 hT).1 cw_37_20 (as := [wi o]) (rest := []) rfl (Nat.le_of_ble_eq_true rfl) (g_at hE (nm_6 hT) (by decide) (kr_of fun _ => hR _ (by omega) (by omega) _)) (fun vo s9 hq => ?_)
  obtain ⟨rfl, rfl⟩ := hq
  show Bt E 37 8 [wr (T + 1), wi o, wi q, wx, wx, wx, wx] [wi (rd σ (T + 6) 501 o)] σ _
  refine B_top (fun r1 => ?_)
  refine B_istoren rfl my_37 (by decide) rfl (show _ = [wr (T + 1), wi o, wi q, wi (rd σ (T + 6) 501 o), wx, wx, wx] from rfl) ?_
  refine B_iloadn rfl my_37 rfl ?_
  refine B_aloadn rfl my_37 rfl ?_
  refine B_ref hE.1 rfl my_37 rfl (r := (T + 6)) (wf_1_2 hT) ?_
  refine B_iloadn rfl my_37 rfl ?_
  refine B_cV hE.1 rfl (nm_6 hT).1 cw_37_20 (as := [wi q]) (rest := [wi (rd σ (T + 6) 501 o)]) rfl (Nat.le_of_ble_eq_true rfl) (g_at hE (nm_6 hT) (by decide) (kr_of fun _ => hR _ (by omega) (by omega) _)) (fun vo s9 hq => ?_)
  obtain ⟨rfl, rfl⟩ := hq
  show Bt E 37 18 [wr (T + 1), wi o, wi q, wi (rd σ (T + 6) 501 o), wx, wx, wx] [wi (rd σ (T + 6) 501 q), wi (rd σ (T + 6) 501 o)] σ _
  refine B_top (fun r2 => ?_)
  refine B_ic_eq rfl my_37 rfl (tgt := 23) (nx := 21) rfl rfl (fun c3 => ?_) (fun c3 => ?_)
  · refine B_aloadn rfl my_37 rfl ?_
    refine B_ref hE.1 rfl my_37 rfl (r := (T + 4)) (wf_1_1 hT) ?_
    refine B_iloadn rfl my_37 rfl ?_
    refine B_cV hE.1 rfl (nm_4 hT).1 cw_37_20 (as := [wi o]) (rest := []) rfl (Nat.le_of_ble_eq_true rfl) (g_at hE (nm_4 hT) (by decide) (kr_of fun _ => hR _ (by omega) (by omega) _)) (fun vo s9 hq => ?_)
    obtain ⟨rfl, rfl⟩ := hq
    show Bt E 37 31 [wr (T + 1), wi o, wi q, wi (rd σ (T + 6) 501 o), wx, wx, wx] [wi (rd σ (T + 4) 501 o)] σ _
    refine B_top (fun r4 => ?_)
    refine B_istore rfl my_37 (by decide) rfl (show _ = [wr (T + 1), wi o, wi q, wi (rd σ (T + 6) 501 o), wi (rd σ (T + 4) 501 o), wx, wx] from rfl) ?_
    refine B_aloadn rfl my_37 rfl ?_
    refine B_ref hE.1 rfl my_37 rfl (r := (T + 4)) (wf_1_1 hT) ?_
    refine B_iloadn rfl my_37 rfl ?_
    refine B_cV hE.1 rfl (nm_4 hT).1 cw_37_20 (as := [wi q]) (rest := []) rfl (Nat.le_of_ble_eq_true rfl) (g_at hE (nm_4 hT) (by decide) (kr_of fun _ => hR _ (by omega) (by omega) _)) (fun vo s9 hq => ?_)
    obtain ⟨rfl, rfl⟩ := hq
    show Bt E 37 41 [wr (T + 1), wi o, wi q, wi (rd σ (T + 6) 501 o), wi (rd σ (T + 4) 501 o), wx, wx] [wi (rd σ (T + 4) 501 q)] σ _
    refine B_top (fun r5 => ?_)
    refine B_istore rfl my_37 (by decide) rfl (show _ = [wr (T + 1), wi o, wi q, wi (rd σ (T + 6) 501 o), wi (rd σ (T + 4) 501 o), wi (rd σ (T + 4) 501 q), wx] from rfl) ?_
    refine B_iconst rfl my_37 (by decide) ?_
    refine B_istore rfl my_37 (by decide) rfl (show _ = [wr (T + 1), wi o, wi q, wi (rd σ (T + 6) 501 o), wi (rd σ (T + 4) 501 o), wi (rd σ (T + 4) 501 q), wi 0] from rfl) ?_
    refine (l_haveSameSigns hE hT hR _ 0 (by omega) (Nat.le_refl _)).mono (fun vo s hq => ?_)
    obtain ⟨x, rfl, g1, rfl⟩ := hq
    exact ⟨x, rfl, ⟨g1, fun _ => by omega⟩, rfl⟩
  · refine B_iconst rfl my_37 (by decide) ?_
    refine B_bret rfl my_37 rfl (by omega) ?_
    exact ⟨_, rfl, ⟨by omega, by omega⟩, rfl⟩
theorem l_quotedCells {E : mE} {σ : wSt} {T : Nat} (hE : wE E) (hT : Tb T) (hR : KRd T σ) : ∀ (k : Nat) (a i : Int), wI i → (gv σ (T + 1) 8 - i).toNat ≤ k → Bt E 38 4 [wr (T + 1), wi a, wi i] [] σ (fun vo t => ∃ x, vo = some (wi x) ∧ True ∧ σ = t) := by
  intro k
  induction k with
  | zero =>
    intro a i h1 hm
    refine B_rng 1 rfl (fun ha1 => ?_)
    refine B_rng 2 rfl (fun ha2 => ?_)
    refine B_iloadn rfl my_38 rfl ?_
    refine B_aloadn rfl my_38 rfl ?_
    refine B_int hE.1 rfl my_38 rfl (wn_1_8 hT) (hR _ (by omega) (by omega) _) (fun r1 => ?_)
    refine B_ic_ge rfl my_38 rfl (tgt := 29) (nx := 12) rfl rfl (fun c2 => ?_) (fun c2 => ?_)
    · refine B_iloadn rfl my_38 rfl ?_
      refine B_iret rfl my_38 rfl ?_
      exact ⟨_, rfl, trivial, rfl⟩
    · exact absurd hm (by omega)
  | succ k ih =>
    intro a i h1 hm
    refine B_rng 1 rfl (fun ha1 => ?_)
    refine B_rng 2 rfl (fun ha2 => ?_)
    refine B_iloadn rfl my_38 rfl ?_
    refine B_aloadn rfl my_38 rfl ?_
    refine B_int hE.1 rfl my_38 rfl (wn_1_8 hT) (hR _ (by omega) (by omega) _) (fun r1 => ?_)
    refine B_ic_ge rfl my_38 rfl (tgt := 29) (nx := 12) rfl rfl (fun c2 => ?_) (fun c2 => ?_)
    · refine B_iloadn rfl my_38 rfl ?_
      refine B_iret rfl my_38 rfl ?_
      exact ⟨_, rfl, trivial, rfl⟩
    · refine B_iloadn rfl my_38 rfl ?_
      refine B_aloadn rfl my_38 rfl ?_
      refine B_ref hE.1 rfl my_38 rfl (r := (T + 8)) (wf_1_3 hT) ?_
      refine B_iloadn rfl my_38 rfl ?_
      refine B_cV hE.1 rfl (nm_8 hT).1 cw_38_20 (as := [wi i]) (rest := [wi a]) rfl (Nat.le_of_ble_eq_true rfl) (g_at hE (nm_8 hT) (by decide) (kr_of fun _ => hR _ (by omega) (by omega) _)) (fun vo s9 hq => ?_)
      obtain ⟨rfl, rfl⟩ := hq
      show Bt E 38 21 [wr (T + 1), wi a, wi i] [wi (rd σ (T + 8) 501 i), wi a] σ _
      refine B_top (fun r3 => ?_)
      refine B_iaddW rfl my_38 ?_
      refine B_top (fun r4 => ?_)
      refine B_istoren rfl my_38 (by decide) rfl (show _ = [wr (T + 1), wi (w32 (a + (rd σ (T + 8) 501 i))), wi i] from rfl) ?_
      refine B_iinc rfl my_38 (by decide) rfl rfl rfl (by omega) (by omega) (show _ = [wr (T + 1), wi (w32 (a + (rd σ (T + 8) 501 i))), wi (i + 1)] from rfl) ?_
      refine B_goto rfl my_38 rfl (tgt := 4) rfl ?_
      exact ih _ _ (by omega) (by omega)
theorem g_quotedCells {E : mE} {σ : wSt} {T : Nat} (hE : wE E) (hT : Tb T) (hR : KRd T σ) : Ev E 38 [wr (T + 1)] σ (fun x => True) := by
  refine Fn.of (nL := 3) ?_
  show Bt E 38 0 [wr (T + 1), wx, wx] [] σ _
  refine B_iconst rfl my_38 (by decide) ?_
  refine B_istoren rfl my_38 (by decide) rfl (show _ = [wr (T + 1), wi 0, wx] from rfl) ?_
  refine B_iconst rfl my_38 (by decide) ?_
  refine B_istoren rfl my_38 (by decide) rfl (show _ = [wr (T + 1), wi 0, wi 0] from rfl) ?_
  exact l_quotedCells hE hT hR _ _ 0 (by omega) (Nat.le_refl _)
end
section
/-! ===== Reading: how it reads ===== -/
theorem cw_25_20 : wcV 25 0 20 1 1 1 = true := by decide +kernel
theorem cw_25_27 : wcV 25 0 27 2 3 3 = true := by decide +kernel
theorem cw_25_28 : wcV 25 0 28 2 3 3 = true := by decide +kernel
theorem cw_26_20 : wcV 26 0 20 1 1 1 = true := by decide +kernel
theorem cw_26_27 : wcV 26 0 27 2 3 3 = true := by decide +kernel
theorem cw_26_28 : wcV 26 0 28 2 3 3 = true := by decide +kernel
theorem cw_27_20 : wcV 27 0 20 1 1 1 = true := by decide +kernel
theorem cw_28_20 : wcV 28 0 20 1 1 1 = true := by decide +kernel
theorem cw_28_21 : wcV 28 0 21 1 2 2 = true := by decide +kernel
/-- d signs more are taken -/
def TS (T : Nat) (σ s : wSt) (d : Int) : Prop := Al s ∧ Off (fun a => a = T + 1 ∨ a = T + 3) σ s ∧ (∀ b, b ≠ 7 → gv s (T + 1) b = gv σ (T + 1) b) ∧ gv s (T + 1) 7 = gv σ (T + 1) 7 + d ∧ ∀ i, 0 ≤ rd s (T + 2) 500 i
theorem ts_step {T : Nat} {σ s : wSt} {d c x : Int} (h : TS T σ s d) (hx : 0 ≤ x) : TS T σ (wup (pt s (T + 2) 500 c x) (T + 1) 7 (gv (pt s (T + 2) 500 c x) (T + 1) 7 + 1)) (d + 1) := by
  obtain ⟨h1, h2, h3, h4, h5⟩ := h
  refine ⟨al_wup (al_pt h1), ?_, fun b hb => ?_, ?_, fun i => ?_⟩
  · exact (h2.tr (off_pt (R := fun a => a = T + 1 ∨ a = T + 3) (Or.inr rfl))).tr (off_wup (R := fun a => a = T + 1 ∨ a = T + 3) (Or.inl rfl))
  · rw [gv_ne (fun e => hb e.2), gv_pt (by omega), h3 b hb]
  · rw [gv_eq, gv_pt (by omega), h4]
    omega
  · rw [rd_wup (by omega), rd_pt]
    split
    · exact hx
    · exact h5 i
theorem ts_tr {T : Nat} {σ s t : wSt} {d e : Int} (h1 : TS T σ s d) (h2 : TS T s t e) : TS T σ t (d + e) := by
  refine ⟨h2.1, h1.2.1.tr h2.2.1, fun b hb => by rw [h2.2.2.1 b hb, h1.2.2.1 b hb], ?_, h2.2.2.2.2⟩
  rw [h2.2.2.2.1, h1.2.2.2.1]
  omega
/-- .. of a cell, and its fault -/
def TF (T : Nat) (σ s : wSt) (d : Int) : Prop := Al s ∧ Off (fun a => a = T + 1 ∨ a = T + 3) σ s ∧ (∀ b, b ≠ 7 → b ≠ 11 → gv s (T + 1) b = gv σ (T + 1) b) ∧ gv s (T + 1) 7 = gv σ (T + 1) 7 + d ∧ (∀ i, 0 ≤ rd s (T + 2) 500 i) ∧ 0 ≤ gv s (T + 1) 11 ∧ gv s (T + 1) 11 ≤ 2
theorem ts_tf {T : Nat} {σ s : wSt} {d x : Int} (h : TS T σ s d) (h1 : 0 ≤ x) (h2 : x ≤ 2) : TF T σ (wup s (T + 1) 11 x) d := by
  refine ⟨al_wup h.1, h.2.1.tr (off_wup (R := fun a => a = T + 1 ∨ a = T + 3) (Or.inl rfl)), fun b hb hb2 => ?_, ?_, fun i => ?_, ?_, ?_⟩
  · rw [gv_ne (fun e => hb2 e.2), h.2.2.1 b hb]
  · rw [gv_ne (fun e => absurd e.2 (by decide)), h.2.2.2.1]
  · rw [rd_wup (by omega)]
    exact h.2.2.2.2 i
  · rw [gv_eq]; exact h1
  · rw [gv_eq]; exact h2
theorem tx_off {σ s : wSt} {R : Nat → Prop} (h : TX σ) (ho : Off R σ s) (h3 : ¬ R 3) (h5 : ¬ R 5) : TX s ∧ gv s 3 1 = gv σ 3 1 := by
  refine ⟨⟨?_, ?_, fun i => ?_⟩, off_gv ho h3⟩
  · rw [off_gv ho h3]; exact h.1
  · rw [off_gv ho h3]; exact h.2.1
  · rw [off_rd ho h5]; exact h.2.2 i
theorem g_isMoreToRead {E : mE} {σ : wSt} {T : Nat} (hE : wE E) (hT : Tb T) (hA : Al σ) {q : Int} : Ev E 24 [wr (T + 1), wr 3, wi q] σ (fun x => (x = 0 ∨ x = 1) ∧ (x = 1 ↔ gv σ (T + 1) 9 < 60 ∧ (q < gv σ 3 1 ∨ 0 < gv σ (T + 1) 10))) := by
  refine Fn.of (nL := 3) ?_
  show Bt E 24 0 [wr (T + 1), wr 3, wi q] [] σ _
  refine B_rng 2 rfl (fun ha2 => ?_)
  refine B_aloadn rfl my_24 rfl ?_
  refine B_int hE.1 rfl my_24 rfl (wn_1_9 hT) (hA _ _) (fun r1 => ?_)
  refine B_bipush rfl my_24 (n := 60) rfl ?_
  refine B_ic_ge rfl my_24 rfl (tgt := 28) (nx := 9) rfl rfl (fun c2 => ?_) (fun c2 => ?_)
  · refine B_iconst rfl my_24 (by decide) ?_
    refine B_bret rfl my_24 rfl (by omega) ?_
    exact ⟨_, rfl, ⟨by omega, by omega⟩, rfl⟩
  · refine B_iloadn rfl my_24 rfl ?_
    refine B_aloadn rfl my_24 rfl ?_
    refine B_int hE.1 rfl my_24 rfl rfl (hA _ _) (fun r3 => ?_)
    refine B_ic_lt rfl my_24 rfl (tgt := 24) (nx := 17) rfl rfl (fun c4 => ?_) (fun c4 => ?_)
    · refine B_iconst rfl my_24 (by decide) ?_
      refine B_goto rfl my_24 rfl (tgt := 29) rfl ?_
      refine B_bret rfl my_24 rfl (by omega) ?_
      exact ⟨_, rfl, ⟨by omega, by omega⟩, rfl⟩
    · refine B_aloadn rfl my_24 rfl ?_
      refine B_int hE.1 rfl my_24 rfl (wn_1_10 hT) (hA _ _) (fun r5 => ?_)
      refine B_if_le rfl my_24 rfl (tgt := 28) (nx := 24) rfl rfl (fun c6 => ?_) (fun c6 => ?_)
      · refine B_iconst rfl my_24 (by decide) ?_
        refine B_bret rfl my_24 rfl (by omega) ?_
        exact ⟨_, rfl, ⟨by omega, by omega⟩, rfl⟩
      · refine B_iconst rfl my_24 (by decide) ?_
        refine B_goto rfl my_24 rfl (tgt := 29) rfl ?_
        refine B_bret rfl my_24 rfl (by omega) ?_
        exact ⟨_, rfl, ⟨by omega, by omega⟩, rfl⟩
theorem l_endOfCell {E : mE} {σ : wSt} {T : Nat} (hE : wE E) (hT : Tb T) (hA : Al σ) {n a : Int} : ∀ (k : Nat) (i : Int), a ≤ i → (i = a ∨ i ≤ gv σ 3 1) → (gv σ 3 1 - i).toNat ≤ k → Bt E 27 3 [wr (T + 1), wr 3, wi n, wi a, wi i] [] σ (fun vo t => ∃ x, vo = some (wi x) ∧ (a ≤ x ∧ (x = a ∨ x ≤ gv σ 3 1)) ∧ σ = t) := by
  intro k
  induction k with
  | zero =>
    intro i h1 h2 hm
    refine B_rng 2 rfl (fun ha2 => ?_)
    refine B_rng 3 rfl (fun ha3 => ?_)
    refine B_rng 4 rfl (fun ha4 => ?_)
    refine B_iload rfl my_27 rfl ?_
    refine B_aloadn rfl my_27 rfl ?_
    refine B_int hE.1 rfl my_27 rfl rfl (hA _ _) (fun r1 => ?_)
    refine B_ic_ge rfl my_27 rfl (tgt := 44) (nx := 12) rfl rfl (fun c2 => ?_) (fun c2 => ?_)
    · refine B_iload rfl my_27 rfl ?_
      refine B_iret rfl my_27 rfl ?_
      exact ⟨_, rfl, ⟨by omega, by omega⟩, rfl⟩
    · exact absurd hm (by omega)
  | succ k ih =>
    intro i h1 h2 hm
    refine B_rng 2 rfl (fun ha2 => ?_)
    refine B_rng 3 rfl (fun ha3 => ?_)
    refine B_rng 4 rfl (fun ha4 => ?_)
    refine B_iload rfl my_27 rfl ?_
    refine B_aloadn rfl my_27 rfl ?_
    refine B_int hE.1 rfl my_27 rfl rfl (hA _ _) (fun r1 => ?_)
    refine B_ic_ge rfl my_27 rfl (tgt := 44) (nx := 12) rfl rfl (fun c2 => ?_) (fun c2 => ?_)
    · refine B_iload rfl my_27 rfl ?_
      refine B_iret rfl my_27 rfl ?_
      exact ⟨_, rfl, ⟨by omega, by omega⟩, rfl⟩
    · refine B_aloadn rfl my_27 rfl ?_
      refine B_ref hE.1 rfl my_27 rfl (r := 4) rfl ?_
      refine B_iload rfl my_27 rfl ?_
      refine B_cV hE.1 rfl nmc_4.1 cw_27_20 (as := [wi i]) (rest := []) rfl (Nat.le_of_ble_eq_true rfl) (g_at hE nmc_4 (by decide) (kr_of fun _ => hA _ _)) (fun vo s9 hq => ?_)
      obtain ⟨rfl, rfl⟩ := hq
      show Bt E 27 21 [wr (T + 1), wr 3, wi n, wi a, wi i] [wi (rd σ 4 500 i)] σ _
      refine B_top (fun r3 => ?_)
      refine B_iloadn rfl my_27 rfl ?_
      refine B_ic_eq rfl my_27 rfl (tgt := 44) (nx := 25) rfl rfl (fun c4 => ?_) (fun c4 => ?_)
      · refine B_iload rfl my_27 rfl ?_
        refine B_iret rfl my_27 rfl ?_
        exact ⟨_, rfl, ⟨by omega, by omega⟩, rfl⟩
      · refine B_aloadn rfl my_27 rfl ?_
        refine B_ref hE.1 rfl my_27 rfl (r := 4) rfl ?_
        refine B_iload rfl my_27 rfl ?_
        refine B_cV hE.1 rfl nmc_4.1 cw_27_20 (as := [wi i]) (rest := []) rfl (Nat.le_of_ble_eq_true rfl) (g_at hE nmc_4 (by decide) (kr_of fun _ => hA _ _)) (fun vo s9 hq => ?_)
        obtain ⟨rfl, rfl⟩ := hq
        show Bt E 27 34 [wr (T + 1), wr 3, wi n, wi a, wi i] [wi (rd σ 4 500 i)] σ _
        refine B_top (fun r5 => ?_)
        refine B_iconst rfl my_27 (by decide) ?_
        refine B_ic_eq rfl my_27 rfl (tgt := 44) (nx := 38) rfl rfl (fun c6 => ?_) (fun c6 => ?_)
        · refine B_iload rfl my_27 rfl ?_
          refine B_iret rfl my_27 rfl ?_
          exact ⟨_, rfl, ⟨by omega, by omega⟩, rfl⟩
        · refine B_iinc rfl my_27 (by decide) rfl rfl rfl (by omega) (by omega) (show _ = [wr (T + 1), wr 3, wi n, wi a, wi (i + 1)] from rfl) ?_
          refine B_goto rfl my_27 rfl (tgt := 3) rfl ?_
          exact ih _ (by omega) (by omega) (by omega)
theorem g_endOfCell {E : mE} {σ : wSt} {T : Nat} (hE : wE E) (hT : Tb T) (hA : Al σ) {n a : Int} : Ev E 27 [wr (T + 1), wr 3, wi n, wi a] σ (fun x => a ≤ x ∧ (x = a ∨ x ≤ gv σ 3 1)) := by
  refine Fn.of (nL := 5) ?_
  show Bt E 27 0 [wr (T + 1), wr 3, wi n, wi a, wx] [] σ _
  refine B_rng 2 rfl (fun ha2 => ?_)
  refine B_rng 3 rfl (fun ha3 => ?_)
  refine B_iloadn rfl my_27 rfl ?_
  refine B_istore rfl my_27 (by decide) rfl (show _ = [wr (T + 1), wr 3, wi n, wi a, wi a] from rfl) ?_
  exact l_endOfCell hE hT hA _ a (by omega) (by omega) (Nat.le_refl _)
theorem tb_ge {T : Nat} (hT : Tb T) : 11 ≤ T := by omega
theorem l_takeSigns {E : mE} {σ : wSt} {T : Nat} (hE : wE E) (hT : Tb T) (hA : Al σ) (hX : TX σ) (hS : ∀ i, 0 ≤ rd σ (T + 2) 500 i) {a b : Int} (ha : 0 ≤ a) (hb : b ≤ 500) (hc : 0 ≤ gv σ (T + 1) 7) (hc2 : gv σ (T + 1) 7 ≤ 500) : ∀ (k : Nat) (s : wSt) (i : Int), TS T σ s (i - a) → a ≤ i → (i = a ∨ i ≤ b) → (b - i).toNat ≤ k → Bt E 28 3 [wr (T + 1), wr 3, wi a, wi b, wi i] [] s (fun vo t => vo = none ∧ ∃ d, (0 ≤ d ∧ (d = b - a ∨ d = 0 ∧ b ≤ a)) ∧ TS T σ t d) := by
  intro k
  induction k with
  | zero =>
    intro s i h1 h2 h3 hm
    have h11 := tb_ge hT
    have hx : 0 ≤ rd s 4 500 i := by
      rw [off_rd h1.2.1 (by omega)]
      exact hX.2.2 i
    have h17 := h1.2.2.2.1
    refine B_rng 2 rfl (fun ha2 => ?_)
    refine B_rng 3 rfl (fun ha3 => ?_)
    refine B_rng 4 rfl (fun ha4 => ?_)
    refine B_iload rfl my_28 rfl ?_
    refine B_iloadn rfl my_28 rfl ?_
    refine B_ic_ge rfl my_28 rfl (tgt := 45) (nx := 9) rfl rfl (fun c1 => ?_) (fun c1 => ?_)
    · refine B_ret rfl my_28 rfl ?_
      exact ⟨rfl, _, ⟨by omega, by omega⟩, h1⟩
    · exact absurd hm (by omega)
  | succ k ih =>
    intro s i h1 h2 h3 hm
    have h11 := tb_ge hT
    have hx : 0 ≤ rd s 4 500 i := by
      rw [off_rd h1.2.1 (by omega)]
      exact hX.2.2 i
    have h17 := h1.2.2.2.1
    refine B_rng 2 rfl (fun ha2 => ?_)
    refine B_rng 3 rfl (fun ha3 => ?_)
    refine B_rng 4 rfl (fun ha4 => ?_)
    refine B_iload rfl my_28 rfl ?_
    refine B_iloadn rfl my_28 rfl ?_
    refine B_ic_ge rfl my_28 rfl (tgt := 45) (nx := 9) rfl rfl (fun c1 => ?_) (fun c1 => ?_)
    · refine B_ret rfl my_28 rfl ?_
      exact ⟨rfl, _, ⟨by omega, by omega⟩, h1⟩
    · refine B_aloadn rfl my_28 rfl ?_
      refine B_ref hE.1 rfl my_28 rfl (r := (T + 2)) (wf_1_0 hT) ?_
      refine B_aloadn rfl my_28 rfl ?_
      refine B_int hE.1 rfl my_28 rfl (wn_1_7 hT) (h1.1 _ _) (fun r2 => ?_)
      refine B_aloadn rfl my_28 rfl ?_
      refine B_ref hE.1 rfl my_28 rfl (r := 4) rfl ?_
      refine B_iload rfl my_28 rfl ?_
      refine B_cV hE.1 rfl nmc_4.1 cw_28_20 (as := [wi i]) (rest := [wi (gv s (T + 1) 7), wr (T + 2)]) rfl (Nat.le_of_ble_eq_true rfl) (g_at hE nmc_4 (by decide) (kr_of fun _ => h1.1 _ _)) (fun vo s9 hq => ?_)
      obtain ⟨rfl, rfl⟩ := hq
      show Bt E 28 26 [wr (T + 1), wr 3, wi a, wi b, wi i] [wi (rd s 4 500 i), wi (gv s (T + 1) 7), wr (T + 2)] s _
      refine B_top (fun r3 => ?_)
      refine B_cV hE.1 rfl (nm_2 hT).1 cw_28_21 (as := [wi (gv s (T + 1) 7), wi (rd s 4 500 i)]) (rest := []) rfl (Nat.le_of_ble_eq_true rfl) (g_put hE (nm_2 hT) (by decide)) (fun vo s9 hq => ?_)
      obtain ⟨rfl, rfl⟩ := hq
      have e4 := (gv_pt (by omega) : gv (pt s (T + 2) 500 (gv s (T + 1) 7) (rd s 4 500 i)) (T + 1) 7 = gv s (T + 1) 7)
      show Bt E 28 29 [wr (T + 1), wr 3, wi a, wi b, wi i] [] (pt s (T + 2) 500 (gv s (T + 1) 7) (rd s 4 500 i)) _
      refine B_aloadn rfl my_28 rfl ?_
      refine B_dup rfl my_28 (Nat.le_of_ble_eq_true rfl) ?_
      refine B_int hE.1 rfl my_28 rfl (wn_1_7 hT) ((al_pt h1.1) _ _) (fun r5 => ?_)
      refine B_iconst rfl my_28 (by decide) ?_
      refine B_iadd rfl my_28 (by omega) (by omega) ?_
      refine B_put hE.1 rfl my_28 rfl (wn_1_7 hT) (Or.inl rfl) ?_
      have e6 : gv (wup (pt s (T + 2) 500 (gv s (T + 1) 7) (rd s 4 500 i)) (T + 1) 7 ((gv (pt s (T + 2) 500 (gv s (T + 1) 7) (rd s 4 500 i)) (T + 1) 7) + 1)) (T + 1) 7 = _ := gv_eq
      refine B_iinc rfl my_28 (by decide) rfl rfl rfl (by omega) (by omega) (show _ = [wr (T + 1), wr 3, wi a, wi b, wi (i + 1)] from rfl) ?_
      refine B_goto rfl my_28 rfl (tgt := 3) rfl ?_
      refine ih _ _ ?_ (by omega) (by omega) (by omega)
      have hz := ts_step (c := gv s (T + 1) 7) (x := rd s 4 500 i) h1 hx
      rwa [show i - a + 1 = i + 1 - a by omega] at hz
theorem g_takeSigns {E : mE} {σ : wSt} {T : Nat} (hE : wE E) (hT : Tb T) (hA : Al σ) (hX : TX σ) (hS : ∀ i, 0 ≤ rd σ (T + 2) 500 i) {a b : Int} (ha : 0 ≤ a) (hb : b ≤ 500) (hc : 0 ≤ gv σ (T + 1) 7) (hc2 : gv σ (T + 1) 7 ≤ 500) : Fn E 28 [wr (T + 1), wr 3, wi a, wi b] σ (fun vo s => vo = none ∧ ∃ d, (0 ≤ d ∧ (d = b - a ∨ d = 0 ∧ b ≤ a)) ∧ TS T σ s d) := by
  refine Fn.of (nL := 5) ?_
  show Bt E 28 0 [wr (T + 1), wr 3, wi a, wi b, wx] [] σ _
  refine B_rng 2 rfl (fun ha2 => ?_)
  refine B_rng 3 rfl (fun ha3 => ?_)
  refine B_iloadn rfl my_28 rfl ?_
  refine B_istore rfl my_28 (by decide) rfl (show _ = [wr (T + 1), wr 3, wi a, wi b, wi a] from rfl) ?_
  refine l_takeSigns hE hT hA hX hS ha hb hc hc2 _ σ a ?_ (by omega) (by omega) (Nat.le_refl _)
  rw [show a - a = (0 : Int) by omega]
  exact ⟨hA, Off.rf, fun _ _ => rfl, by omega, hS⟩
theorem t_readPlain {E : mE} {σ : wSt} {T : Nat} (hE : wE E) (hT : Tb T) (hA : Al σ) (hX : TX σ) (hS : ∀ i, 0 ≤ rd σ (T + 2) 500 i) {n a : Int} (q0 : 0 ≤ a) (q1 : a ≤ gv σ 3 1) (hc : 0 ≤ gv σ (T + 1) 7) (hc2 : gv σ (T + 1) 7 ≤ a) {e f l : Int} (q2 : a ≤ e) (q3 : e ≤ gv σ 3 1) (q4 : a ≤ f) (q5 : f ≤ l) (q6 : l ≤ e) : Bt E 25 72 [wr (T + 1), wr 3, wi n, wi a, wi e, wi f, wi l] [] σ (fun vo s => ∃ x d, vo = some (wi x) ∧ (a ≤ x ∧ x ≤ gv σ 3 1 ∧ 0 ≤ d ∧ d ≤ x - a) ∧ TF T σ s d) := by
  have hx2 := hX.2.1
  refine B_rng 2 rfl (fun ha2 => ?_)
  refine B_rng 3 rfl (fun ha3 => ?_)
  refine B_rng 4 rfl (fun ha4 => ?_)
  refine B_rng 5 rfl (fun ha5 => ?_)
  refine B_rng 6 rfl (fun ha6 => ?_)
  refine B_aloadn rfl my_25 rfl ?_
  refine B_aloadn rfl my_25 rfl ?_
  refine B_iload rfl my_25 rfl ?_
  refine B_iload rfl my_25 rfl ?_
  refine B_cV hE.1 rfl (wc_1 hT) cw_25_28 (as := [wr 3, wi f, wi l]) (rest := []) rfl (Nat.le_of_ble_eq_true rfl) (g_takeSigns hE hT hA hX hS (by omega) (by omega) hc (by omega)) (fun vo s1 hq => ?_)
  obtain ⟨rfl, d1, hd1, hs1⟩ := hq
  have hA1 := hs1.1
  show Bt E 25 81 [wr (T + 1), wr 3, wi n, wi a, wi e, wi f, wi l] [] s1 _
  refine B_aloadn rfl my_25 rfl ?_
  refine B_iconst rfl my_25 (by decide) ?_
  refine B_put hE.1 rfl my_25 rfl (wn_1_11 hT) (Or.inl rfl) ?_
  refine B_iload rfl my_25 rfl ?_
  refine B_iret rfl my_25 rfl ?_
  exact ⟨_, d1, rfl, ⟨by omega, by omega, by omega, by omega⟩, ts_tf hs1 (by decide) (by decide)⟩
theorem l_readPlain2 {E : mE} {σ : wSt} {T : Nat} (hE : wE E) (hT : Tb T) (hA : Al σ) (hX : TX σ) (hS : ∀ i, 0 ≤ rd σ (T + 2) 500 i) {n a : Int} (q0 : 0 ≤ a) (q1 : a ≤ gv σ 3 1) (hc : 0 ≤ gv σ (T + 1) 7) (hc2 : gv σ (T + 1) 7 ≤ a) {e f : Int} (q2 : a ≤ e) (q3 : e ≤ gv σ 3 1) (q4 : a ≤ f) : ∀ (k : Nat) (l : Int), f ≤ l → l ≤ e → (l - f).toNat ≤ k → Bt E 25 43 [wr (T + 1), wr 3, wi n, wi a, wi e, wi f, wi l] [] σ (fun vo s => ∃ x d, vo = some (wi x) ∧ (a ≤ x ∧ x ≤ gv σ 3 1 ∧ 0 ≤ d ∧ d ≤ x - a) ∧ TF T σ s d) := by
  intro k
  induction k with
  | zero =>
    intro l h1 h2 hm
    have hx2 := hX.2.1
    refine B_rng 2 rfl (fun ha2 => ?_)
    refine B_rng 3 rfl (fun ha3 => ?_)
    refine B_rng 4 rfl (fun ha4 => ?_)
    refine B_rng 5 rfl (fun ha5 => ?_)
    refine B_rng 6 rfl (fun ha6 => ?_)
    refine B_iload rfl my_25 rfl ?_
    refine B_iload rfl my_25 rfl ?_
    refine B_ic_le rfl my_25 rfl (tgt := 72) (nx := 50) rfl rfl (fun c1 => ?_) (fun c1 => ?_)
    · exact t_readPlain hE hT hA hX hS q0 q1 hc hc2 q2 q3 q4 (by omega) (by omega)
    · exact absurd hm (by omega)
  | succ k ih =>
    intro l h1 h2 hm
    have hx2 := hX.2.1
    refine B_rng 2 rfl (fun ha2 => ?_)
    refine B_rng 3 rfl (fun ha3 => ?_)
    refine B_rng 4 rfl (fun ha4 => ?_)
    refine B_rng 5 rfl (fun ha5 => ?_)
    refine B_rng 6 rfl (fun ha6 => ?_)
    refine B_iload rfl my_25 rfl ?_
    refine B_iload rfl my_25 rfl ?_
    refine B_ic_le rfl my_25 rfl (tgt := 72) (nx := 50) rfl rfl (fun c1 => ?_) (fun c1 => ?_)
    · exact t_readPlain hE hT hA hX hS q0 q1 hc hc2 q2 q3 q4 (by omega) (by omega)
    · refine B_aloadn rfl my_25 rfl ?_
      refine B_ref hE.1 rfl my_25 rfl (r := 4) rfl ?_
      refine B_iload rfl my_25 rfl ?_
      refine B_iconst rfl my_25 (by decide) ?_
      refine B_isub rfl my_25 (by omega) (by omega) ?_
      refine B_cV hE.1 rfl nmc_4.1 cw_25_20 (as := [wi (l - 1)]) (rest := []) rfl (Nat.le_of_ble_eq_true rfl) (g_at hE nmc_4 (by decide) (kr_of fun _ => hA _ _)) (fun vo s9 hq => ?_)
      obtain ⟨rfl, rfl⟩ := hq
      show Bt E 25 61 [wr (T + 1), wr 3, wi n, wi a, wi e, wi f, wi l] [wi (rd σ 4 500 (l - 1))] σ _
      refine B_top (fun r2 => ?_)
      refine B_bipush rfl my_25 (n := 6) rfl ?_
      refine B_ic_ne rfl my_25 rfl (tgt := 72) (nx := 66) rfl rfl (fun c3 => ?_) (fun c3 => ?_)
      · exact t_readPlain hE hT hA hX hS q0 q1 hc hc2 q2 q3 q4 (by omega) (by omega)
      · refine B_iinc rfl my_25 (by decide) rfl rfl rfl (by omega) (by omega) (show _ = [wr (T + 1), wr 3, wi n, wi a, wi e, wi f, wi (l + (-1))] from rfl) ?_
        refine B_goto rfl my_25 rfl (tgt := 43) rfl ?_
        exact ih _ (by omega) (by omega) (by omega)
theorem l_readPlain {E : mE} {σ : wSt} {T : Nat} (hE : wE E) (hT : Tb T) (hA : Al σ) (hX : TX σ) (hS : ∀ i, 0 ≤ rd σ (T + 2) 500 i) {n a : Int} (q0 : 0 ≤ a) (q1 : a ≤ gv σ 3 1) (hc : 0 ≤ gv σ (T + 1) 7) (hc2 : gv σ (T + 1) 7 ≤ a) {e : Int} (q2 : a ≤ e) (q3 : e ≤ gv σ 3 1) : ∀ (k : Nat) (f : Int), a ≤ f → f ≤ e → (e - f).toNat ≤ k → Bt E 25 12 [wr (T + 1), wr 3, wi n, wi a, wi e, wi f, wx] [] σ (fun vo s => ∃ x d, vo = some (wi x) ∧ (a ≤ x ∧ x ≤ gv σ 3 1 ∧ 0 ≤ d ∧ d ≤ x - a) ∧ TF T σ s d) := by
  intro k
  induction k with
  | zero =>
    intro f h1 h2 hm
    have hx2 := hX.2.1
    refine B_rng 2 rfl (fun ha2 => ?_)
    refine B_rng 3 rfl (fun ha3 => ?_)
    refine B_rng 4 rfl (fun ha4 => ?_)
    refine B_rng 5 rfl (fun ha5 => ?_)
    refine B_iload rfl my_25 rfl ?_
    refine B_iload rfl my_25 rfl ?_
    refine B_ic_ge rfl my_25 rfl (tgt := 39) (nx := 19) rfl rfl (fun c1 => ?_) (fun c1 => ?_)
    · refine B_iload rfl my_25 rfl ?_
      refine B_istore rfl my_25 (by decide) rfl (show _ = [wr (T + 1), wr 3, wi n, wi a, wi e, wi f, wi e] from rfl) ?_
      exact l_readPlain2 hE hT hA hX hS q0 q1 hc hc2 q2 q3 h1 _ _ (by omega) (by omega) (Nat.le_refl _)
    · exact absurd hm (by omega)
  | succ k ih =>
    intro f h1 h2 hm
    have hx2 := hX.2.1
    refine B_rng 2 rfl (fun ha2 => ?_)
    refine B_rng 3 rfl (fun ha3 => ?_)
    refine B_rng 4 rfl (fun ha4 => ?_)
    refine B_rng 5 rfl (fun ha5 => ?_)
    refine B_iload rfl my_25 rfl ?_
    refine B_iload rfl my_25 rfl ?_
    refine B_ic_ge rfl my_25 rfl (tgt := 39) (nx := 19) rfl rfl (fun c1 => ?_) (fun c1 => ?_)
    · refine B_iload rfl my_25 rfl ?_
      refine B_istore rfl my_25 (by decide) rfl (show _ = [wr (T + 1), wr 3, wi n, wi a, wi e, wi f, wi e] from rfl) ?_
      exact l_readPlain2 hE hT hA hX hS q0 q1 hc hc2 q2 q3 h1 _ _ (by omega) (by omega) (Nat.le_refl _)
    · refine B_aloadn rfl my_25 rfl ?_
      refine B_ref hE.1 rfl my_25 rfl (r := 4) rfl ?_
      refine B_iload rfl my_25 rfl ?_
      refine B_cV hE.1 rfl nmc_4.1 cw_25_20 (as := [wi f]) (rest := []) rfl (Nat.le_of_ble_eq_true rfl) (g_at hE nmc_4 (by decide) (kr_of fun _ => hA _ _)) (fun vo s9 hq => ?_)
      obtain ⟨rfl, rfl⟩ := hq
      show Bt E 25 28 [wr (T + 1), wr 3, wi n, wi a, wi e, wi f, wx] [wi (rd σ 4 500 f)] σ _
      refine B_top (fun r2 => ?_)
      refine B_bipush rfl my_25 (n := 6) rfl ?_
      refine B_ic_ne rfl my_25 rfl (tgt := 39) (nx := 33) rfl rfl (fun c3 => ?_) (fun c3 => ?_)
      · refine B_iload rfl my_25 rfl ?_
        refine B_istore rfl my_25 (by decide) rfl (show _ = [wr (T + 1), wr 3, wi n, wi a, wi e, wi f, wi e] from rfl) ?_
        exact l_readPlain2 hE hT hA hX hS q0 q1 hc hc2 q2 q3 h1 _ _ (by omega) (by omega) (Nat.le_refl _)
      · refine B_iinc rfl my_25 (by decide) rfl rfl rfl (by omega) (by omega) (show _ = [wr (T + 1), wr 3, wi n, wi a, wi e, wi (f + 1), wx] from rfl) ?_
        refine B_goto rfl my_25 rfl (tgt := 12) rfl ?_
        exact ih _ (by omega) (by omega) (by omega)
theorem g_readPlain {E : mE} {σ : wSt} {T : Nat} (hE : wE E) (hT : Tb T) (hA : Al σ) (hX : TX σ) (hS : ∀ i, 0 ≤ rd σ (T + 2) 500 i) {n a : Int} (q0 : 0 ≤ a) (q1 : a ≤ gv σ 3 1) (hc : 0 ≤ gv σ (T + 1) 7) (hc2 : gv σ (T + 1) 7 ≤ a) : Fn E 25 [wr (T + 1), wr 3, wi n, wi a] σ (fun vo s => ∃ x d, vo = some (wi x) ∧ (a ≤ x ∧ x ≤ gv σ 3 1 ∧ 0 ≤ d ∧ d ≤ x - a) ∧ TF T σ s d) := by
  refine Fn.of (nL := 7) ?_
  show Bt E 25 0 [wr (T + 1), wr 3, wi n, wi a, wx, wx, wx] [] σ _
  refine B_rng 2 rfl (fun ha2 => ?_)
  refine B_rng 3 rfl (fun ha3 => ?_)
  refine B_aloadn rfl my_25 rfl ?_
  refine B_aloadn rfl my_25 rfl ?_
  refine B_iloadn rfl my_25 rfl ?_
  refine B_iloadn rfl my_25 rfl ?_
  refine B_cV hE.1 rfl (wc_1 hT) cw_25_27 (as := [wr 3, wi n, wi a]) (rest := []) rfl (Nat.le_of_ble_eq_true rfl) (g_endOfCell hE hT hA) (fun vo s9 hq => ?_)
  obtain ⟨x1, rfl, hz2, rfl⟩ := hq
  show Bt E 25 7 [wr (T + 1), wr 3, wi n, wi a, wx, wx, wx] [wi x1] σ _
  refine B_top (fun r3 => ?_)
  refine B_istore rfl my_25 (by decide) rfl (show _ = [wr (T + 1), wr 3, wi n, wi a, wi x1, wx, wx] from rfl) ?_
  refine B_iloadn rfl my_25 rfl ?_
  refine B_istore rfl my_25 (by decide) rfl (show _ = [wr (T + 1), wr 3, wi n, wi a, wi x1, wi a, wx] from rfl) ?_
  exact l_readPlain hE hT hA hX hS q0 q1 hc hc2 (by omega) (by omega) _ _ (by omega) (by omega) (Nat.le_refl _)
theorem l_readQuoted {E : mE} {σ : wSt} {T : Nat} (hE : wE E) (hT : Tb T) (hA : Al σ) (hX : TX σ) (hS : ∀ i, 0 ≤ rd σ (T + 2) 500 i) {n a : Int} (q0 : 0 ≤ a) (q1 : a ≤ gv σ 3 1) (hc : 0 ≤ gv σ (T + 1) 7) (hc2 : gv σ (T + 1) 7 ≤ a) : ∀ (k : Nat) (s : wSt) (i o d : Int), TS T σ s d → 0 ≤ d → d ≤ i - a → a ≤ i → i ≤ gv σ 3 1 → (o = 0 ∨ o = 1) → (gv σ 3 1 - i).toNat ≤ k → Bt E 26 6 [wr (T + 1), wr 3, wi n, wi a, wi i, wi o, wx, wx] [] s (fun vo s => ∃ x d, vo = some (wi x) ∧ (a ≤ x ∧ x ≤ gv σ 3 1 ∧ 0 ≤ d ∧ d ≤ x - a) ∧ TF T σ s d) := by
  intro k
  induction k with
  | zero =>
    intro s i o d h1 h2 h3 h4 h5 h6 hm
    have h11 := tb_ge hT
    have hx2 := hX.2.1
    have hXs := tx_off hX h1.2.1 (by omega) (by omega)
    have hn := hXs.2
    have h17 := h1.2.2.2.1
    refine B_rng 2 rfl (fun ha2 => ?_)
    refine B_rng 3 rfl (fun ha3 => ?_)
    refine B_rng 4 rfl (fun ha4 => ?_)
    refine B_rng 5 rfl (fun ha5 => ?_)
    refine B_iload rfl my_26 rfl ?_
    refine B_if_eq rfl my_26 rfl (tgt := 129) (nx := 11) rfl rfl (fun c1 => ?_) (fun c1 => ?_)
    · refine B_aloadn rfl my_26 rfl ?_
      refine B_aloadn rfl my_26 rfl ?_
      refine B_iloadn rfl my_26 rfl ?_
      refine B_iload rfl my_26 rfl ?_
      refine B_cV hE.1 rfl (wc_1 hT) cw_26_27 (as := [wr 3, wi n, wi i]) (rest := []) rfl (Nat.le_of_ble_eq_true rfl) (g_endOfCell hE hT h1.1) (fun vo s9 hq => ?_)
      obtain ⟨x2, rfl, hz3, rfl⟩ := hq
      show Bt E 26 137 [wr (T + 1), wr 3, wi n, wi a, wi i, wi o, wx, wx] [wi x2] s _
      refine B_top (fun r4 => ?_)
      refine B_istore rfl my_26 (by decide) rfl (show _ = [wr (T + 1), wr 3, wi n, wi a, wi i, wi o, wi x2, wx] from rfl) ?_
      refine B_aloadn rfl my_26 rfl ?_
      refine B_aloadn rfl my_26 rfl ?_
      refine B_iload rfl my_26 rfl ?_
      refine B_iload rfl my_26 rfl ?_
      refine B_cV hE.1 rfl (wc_1 hT) cw_26_28 (as := [wr 3, wi i, wi x2]) (rest := []) rfl (Nat.le_of_ble_eq_true rfl) (g_takeSigns hE hT h1.1 hXs.1 h1.2.2.2.2 (by omega) (by omega) (by omega) (by omega)) (fun vo s2 hq => ?_)
      obtain ⟨rfl, d2, hd2, hs2⟩ := hq
      have hA2 := hs2.1
      show Bt E 26 148 [wr (T + 1), wr 3, wi n, wi a, wi i, wi o, wi x2, wx] [] s2 _
      refine B_aloadn rfl my_26 rfl ?_
      refine B_iload rfl my_26 rfl ?_
      refine B_if_eq rfl my_26 rfl (tgt := 158) (nx := 154) rfl rfl (fun c5 => ?_) (fun c5 => ?_)
      · refine B_iload rfl my_26 rfl ?_
        refine B_iload rfl my_26 rfl ?_
        refine B_ic_le rfl my_26 rfl (tgt := 169) (nx := 165) rfl rfl (fun c6 => ?_) (fun c6 => ?_)
        · refine B_iconst rfl my_26 (by decide) ?_
          refine B_put hE.1 rfl my_26 rfl (wn_1_11 hT) (Or.inl rfl) ?_
          refine B_iload rfl my_26 rfl ?_
          refine B_iret rfl my_26 rfl ?_
          have hz := ts_tr h1 hs2
          exact ⟨_, d + d2, rfl, ⟨by omega, by omega, by omega, by omega⟩, ts_tf hz (by decide) (by decide)⟩
        · refine B_iconst rfl my_26 (by decide) ?_
          refine B_goto rfl my_26 rfl (tgt := 170) rfl ?_
          refine B_put hE.1 rfl my_26 rfl (wn_1_11 hT) (Or.inl rfl) ?_
          refine B_iload rfl my_26 rfl ?_
          refine B_iret rfl my_26 rfl ?_
          have hz := ts_tr h1 hs2
          exact ⟨_, d + d2, rfl, ⟨by omega, by omega, by omega, by omega⟩, ts_tf hz (by decide) (by decide)⟩
      · refine B_iconst rfl my_26 (by decide) ?_
        refine B_goto rfl my_26 rfl (tgt := 170) rfl ?_
        refine B_put hE.1 rfl my_26 rfl (wn_1_11 hT) (Or.inl rfl) ?_
        refine B_iload rfl my_26 rfl ?_
        refine B_iret rfl my_26 rfl ?_
        have hz := ts_tr h1 hs2
        exact ⟨_, d + d2, rfl, ⟨by omega, by omega, by omega, by omega⟩, ts_tf hz (by decide) (by decide)⟩
    · refine B_iload rfl my_26 rfl ?_
      refine B_aloadn rfl my_26 rfl ?_
      refine B_int hE.1 rfl my_26 rfl rfl (h1.1 _ _) (fun r7 => ?_)
      refine B_ic_ge rfl my_26 rfl (tgt := 129) (nx := 20) rfl rfl (fun c8 => ?_) (fun c8 => ?_)
      · refine B_aloadn rfl my_26 rfl ?_
        refine B_aloadn rfl my_26 rfl ?_
        refine B_iloadn rfl my_26 rfl ?_
        refine B_iload rfl my_26 rfl ?_
        refine B_cV hE.1 rfl (wc_1 hT) cw_26_27 (as := [wr 3, wi n, wi i]) (rest := []) rfl (Nat.le_of_ble_eq_true rfl) (g_endOfCell hE hT h1.1) (fun vo s9 hq => ?_)
        obtain ⟨x9, rfl, hz10, rfl⟩ := hq
        show Bt E 26 137 [wr (T + 1), wr 3, wi n, wi a, wi i, wi o, wx, wx] [wi x9] s _
        refine B_top (fun r11 => ?_)
        refine B_istore rfl my_26 (by decide) rfl (show _ = [wr (T + 1), wr 3, wi n, wi a, wi i, wi o, wi x9, wx] from rfl) ?_
        refine B_aloadn rfl my_26 rfl ?_
        refine B_aloadn rfl my_26 rfl ?_
        refine B_iload rfl my_26 rfl ?_
        refine B_iload rfl my_26 rfl ?_
        refine B_cV hE.1 rfl (wc_1 hT) cw_26_28 (as := [wr 3, wi i, wi x9]) (rest := []) rfl (Nat.le_of_ble_eq_true rfl) (g_takeSigns hE hT h1.1 hXs.1 h1.2.2.2.2 (by omega) (by omega) (by omega) (by omega)) (fun vo s2 hq => ?_)
        obtain ⟨rfl, d2, hd2, hs2⟩ := hq
        have hA2 := hs2.1
        show Bt E 26 148 [wr (T + 1), wr 3, wi n, wi a, wi i, wi o, wi x9, wx] [] s2 _
        refine B_aloadn rfl my_26 rfl ?_
        refine B_iload rfl my_26 rfl ?_
        refine B_if_eq rfl my_26 rfl (tgt := 158) (nx := 154) rfl rfl (fun c12 => ?_) (fun c12 => ?_)
        · refine B_iload rfl my_26 rfl ?_
          refine B_iload rfl my_26 rfl ?_
          refine B_ic_le rfl my_26 rfl (tgt := 169) (nx := 165) rfl rfl (fun c13 => ?_) (fun c13 => ?_)
          · refine B_iconst rfl my_26 (by decide) ?_
            refine B_put hE.1 rfl my_26 rfl (wn_1_11 hT) (Or.inl rfl) ?_
            refine B_iload rfl my_26 rfl ?_
            refine B_iret rfl my_26 rfl ?_
            have hz := ts_tr h1 hs2
            exact ⟨_, d + d2, rfl, ⟨by omega, by omega, by omega, by omega⟩, ts_tf hz (by decide) (by decide)⟩
          · refine B_iconst rfl my_26 (by decide) ?_
            refine B_goto rfl my_26 rfl (tgt := 170) rfl ?_
            refine B_put hE.1 rfl my_26 rfl (wn_1_11 hT) (Or.inl rfl) ?_
            refine B_iload rfl my_26 rfl ?_
            refine B_iret rfl my_26 rfl ?_
            have hz := ts_tr h1 hs2
            exact ⟨_, d + d2, rfl, ⟨by omega, by omega, by omega, by omega⟩, ts_tf hz (by decide) (by decide)⟩
        · refine B_iconst rfl my_26 (by decide) ?_
          refine B_goto rfl my_26 rfl (tgt := 170) rfl ?_
          refine B_put hE.1 rfl my_26 rfl (wn_1_11 hT) (Or.inl rfl) ?_
          refine B_iload rfl my_26 rfl ?_
          refine B_iret rfl my_26 rfl ?_
          have hz := ts_tr h1 hs2
          exact ⟨_, d + d2, rfl, ⟨by omega, by omega, by omega, by omega⟩, ts_tf hz (by decide) (by decide)⟩
      · exact absurd hm (by omega)
  | succ k ih =>
    intro s i o d h1 h2 h3 h4 h5 h6 hm
    have h11 := tb_ge hT
    have hx2 := hX.2.1
    have hXs := tx_off hX h1.2.1 (by omega) (by omega)
    have hn := hXs.2
    have h17 := h1.2.2.2.1
    refine B_rng 2 rfl (fun ha2 => ?_)
    refine B_rng 3 rfl (fun ha3 => ?_)
    refine B_rng 4 rfl (fun ha4 => ?_)
    refine B_rng 5 rfl (fun ha5 => ?_)
    refine B_iload rfl my_26 rfl ?_
    refine B_if_eq rfl my_26 rfl (tgt := 129) (nx := 11) rfl rfl (fun c1 => ?_) (fun c1 => ?_)
    · refine B_aloadn rfl my_26 rfl ?_
      refine B_aloadn rfl my_26 rfl ?_
      refine B_iloadn rfl my_26 rfl ?_
      refine B_iload rfl my_26 rfl ?_
      refine B_cV hE.1 rfl (wc_1 hT) cw_26_27 (as := [wr 3, wi n, wi i]) (rest := []) rfl (Nat.le_of_ble_eq_true rfl) (g_endOfCell hE hT h1.1) (fun vo s9 hq => ?_)
      obtain ⟨x2, rfl, hz3, rfl⟩ := hq
      show Bt E 26 137 [wr (T + 1), wr 3, wi n, wi a, wi i, wi o, wx, wx] [wi x2] s _
      refine B_top (fun r4 => ?_)
      refine B_istore rfl my_26 (by decide) rfl (show _ = [wr (T + 1), wr 3, wi n, wi a, wi i, wi o, wi x2, wx] from rfl) ?_
      refine B_aloadn rfl my_26 rfl ?_
      refine B_aloadn rfl my_26 rfl ?_
      refine B_iload rfl my_26 rfl ?_
      refine B_iload rfl my_26 rfl ?_
      refine B_cV hE.1 rfl (wc_1 hT) cw_26_28 (as := [wr 3, wi i, wi x2]) (rest := []) rfl (Nat.le_of_ble_eq_true rfl) (g_takeSigns hE hT h1.1 hXs.1 h1.2.2.2.2 (by omega) (by omega) (by omega) (by omega)) (fun vo s2 hq => ?_)
      obtain ⟨rfl, d2, hd2, hs2⟩ := hq
      have hA2 := hs2.1
      show Bt E 26 148 [wr (T + 1), wr 3, wi n, wi a, wi i, wi o, wi x2, wx] [] s2 _
      refine B_aloadn rfl my_26 rfl ?_
      refine B_iload rfl my_26 rfl ?_
      refine B_if_eq rfl my_26 rfl (tgt := 158) (nx := 154) rfl rfl (fun c5 => ?_) (fun c5 => ?_)
      · refine B_iload rfl my_26 rfl ?_
        refine B_iload rfl my_26 rfl ?_
        refine B_ic_le rfl my_26 rfl (tgt := 169) (nx := 165) rfl rfl (fun c6 => ?_) (fun c6 => ?_)
        · refine B_iconst rfl my_26 (by decide) ?_
          refine B_put hE.1 rfl my_26 rfl (wn_1_11 hT) (Or.inl rfl) ?_
          refine B_iload rfl my_26 rfl ?_
          refine B_iret rfl my_26 rfl ?_
          have hz := ts_tr h1 hs2
          exact ⟨_, d + d2, rfl, ⟨by omega, by omega, by omega, by omega⟩, ts_tf hz (by decide) (by decide)⟩
        · refine B_iconst rfl my_26 (by decide) ?_
          refine B_goto rfl my_26 rfl (tgt := 170) rfl ?_
          refine B_put hE.1 rfl my_26 rfl (wn_1_11 hT) (Or.inl rfl) ?_
          refine B_iload rfl my_26 rfl ?_
          refine B_iret rfl my_26 rfl ?_
          have hz := ts_tr h1 hs2
          exact ⟨_, d + d2, rfl, ⟨by omega, by omega, by omega, by omega⟩, ts_tf hz (by decide) (by decide)⟩
      · refine B_iconst rfl my_26 (by decide) ?_
        refine B_goto rfl my_26 rfl (tgt := 170) rfl ?_
        refine B_put hE.1 rfl my_26 rfl (wn_1_11 hT) (Or.inl rfl) ?_
        refine B_iload rfl my_26 rfl ?_
        refine B_iret rfl my_26 rfl ?_
        have hz := ts_tr h1 hs2
        exact ⟨_, d + d2, rfl, ⟨by omega, by omega, by omega, by omega⟩, ts_tf hz (by decide) (by decide)⟩
    · refine B_iload rfl my_26 rfl ?_
      refine B_aloadn rfl my_26 rfl ?_
      refine B_int hE.1 rfl my_26 rfl rfl (h1.1 _ _) (fun r7 => ?_)
      refine B_ic_ge rfl my_26 rfl (tgt := 129) (nx := 20) rfl rfl (fun c8 => ?_) (fun c8 => ?_)
      · refine B_aloadn rfl my_26 rfl ?_
        refine B_aloadn rfl my_26 rfl ?_
        refine B_iloadn rfl my_26 rfl ?_
        refine B_iload rfl my_26 rfl ?_
        refine B_cV hE.1 rfl (wc_1 hT) cw_26_27 (as := [wr 3, wi n, wi i]) (rest := []) rfl (Nat.le_of_ble_eq_true rfl) (g_endOfCell hE hT h1.1) (fun vo s9 hq => ?_)
        obtain ⟨x9, rfl, hz10, rfl⟩ := hq
        show Bt E 26 137 [wr (T + 1), wr 3, wi n, wi a, wi i, wi o, wx, wx] [wi x9] s _
        refine B_top (fun r11 => ?_)
        refine B_istore rfl my_26 (by decide) rfl (show _ = [wr (T + 1), wr 3, wi n, wi a, wi i, wi o, wi x9, wx] from rfl) ?_
        refine B_aloadn rfl my_26 rfl ?_
        refine B_aloadn rfl my_26 rfl ?_
        refine B_iload rfl my_26 rfl ?_
        refine B_iload rfl my_26 rfl ?_
        refine B_cV hE.1 rfl (wc_1 hT) cw_26_28 (as := [wr 3, wi i, wi x9]) (rest := []) rfl (Nat.le_of_ble_eq_true rfl) (g_takeSigns hE hT h1.1 hXs.1 h1.2.2.2.2 (by omega) (by omega) (by omega) (by omega)) (fun vo s2 hq => ?_)
        obtain ⟨rfl, d2, hd2, hs2⟩ := hq
        have hA2 := hs2.1
        show Bt E 26 148 [wr (T + 1), wr 3, wi n, wi a, wi i, wi o, wi x9, wx] [] s2 _
        refine B_aloadn rfl my_26 rfl ?_
        refine B_iload rfl my_26 rfl ?_
        refine B_if_eq rfl my_26 rfl (tgt := 158) (nx := 154) rfl rfl (fun c12 => ?_) (fun c12 => ?_)
        · refine B_iload rfl my_26 rfl ?_
          refine B_iload rfl my_26 rfl ?_
          refine B_ic_le rfl my_26 rfl (tgt := 169) (nx := 165) rfl rfl (fun c13 => ?_) (fun c13 => ?_)
          · refine B_iconst rfl my_26 (by decide) ?_
            refine B_put hE.1 rfl my_26 rfl (wn_1_11 hT) (Or.inl rfl) ?_
            refine B_iload rfl my_26 rfl ?_
            refine B_iret rfl my_26 rfl ?_
            have hz := ts_tr h1 hs2
            exact ⟨_, d + d2, rfl, ⟨by omega, by omega, by omega, by omega⟩, ts_tf hz (by decide) (by decide)⟩
          · refine B_iconst rfl my_26 (by decide) ?_
            refine B_goto rfl my_26 rfl (tgt := 170) rfl ?_
            refine B_put hE.1 rfl my_26 rfl (wn_1_11 hT) (Or.inl rfl) ?_
            refine B_iload rfl my_26 rfl ?_
            refine B_iret rfl my_26 rfl ?_
            have hz := ts_tr h1 hs2
            exact ⟨_, d + d2, rfl, ⟨by omega, by omega, by omega, by omega⟩, ts_tf hz (by decide) (by decide)⟩
        · refine B_iconst rfl my_26 (by decide) ?_
          refine B_goto rfl my_26 rfl (tgt := 170) rfl ?_
          refine B_put hE.1 rfl my_26 rfl (wn_1_11 hT) (Or.inl rfl) ?_
          refine B_iload rfl my_26 rfl ?_
          refine B_iret rfl my_26 rfl ?_
          have hz := ts_tr h1 hs2
          exact ⟨_, d + d2, rfl, ⟨by omega, by omega, by omega, by omega⟩, ts_tf hz (by decide) (by decide)⟩
      · refine B_aloadn rfl my_26 rfl ?_
        refine B_ref hE.1 rfl my_26 rfl (r := 4) rfl ?_
        refine B_iload rfl my_26 rfl ?_
        refine B_cV hE.1 rfl nmc_4.1 cw_26_20 (as := [wi i]) (rest := []) rfl (Nat.le_of_ble_eq_true rfl) (g_at hE nmc_4 (by decide) (kr_of fun _ => h1.1 _ _)) (fun vo s9 hq => ?_)
        obtain ⟨rfl, rfl⟩ := hq
        show Bt E 26 29 [wr (T + 1), wr 3, wi n, wi a, wi i, wi o, wx, wx] [wi (rd s 4 500 i)] s _
        refine B_top (fun r14 => ?_)
        refine B_iconst rfl my_26 (by decide) ?_
        refine B_ic_ne rfl my_26 rfl (tgt := 37) (nx := 33) rfl rfl (fun c15 => ?_) (fun c15 => ?_)
        · refine B_iconst rfl my_26 (by decide) ?_
          refine B_istore rfl my_26 (by decide) rfl (show _ = [wr (T + 1), wr 3, wi n, wi a, wi i, wi o, wi 0, wx] from rfl) ?_
          refine B_iload rfl my_26 rfl ?_
          refine B_if_eq rfl my_26 rfl (tgt := 75) (nx := 45) rfl rfl (fun _ => ?_) (fun c9 => absurd c9 (by decide))
          show Bt E 26 75 [wr (T + 1), wr 3, wi n, wi a, wi i, wi o, wi 0, wx] [] s _
          refine B_iconst rfl my_26 (by decide) ?_
          refine B_istore rfl my_26 (by decide) rfl (show _ = [wr (T + 1), wr 3, wi n, wi a, wi i, wi o, wi 0, wi 0] from rfl) ?_
          refine B_iload rfl my_26 rfl ?_
          refine B_if_eq rfl my_26 rfl (tgt := 88) (nx := 83) rfl rfl (fun _ => ?_) (fun c9 => absurd c9 (by decide))
          show Bt E 26 88 [wr (T + 1), wr 3, wi n, wi a, wi i, wi o, wi 0, wi 0] [] s _
          refine B_iconst rfl my_26 (by decide) ?_
          refine B_goto rfl my_26 rfl (tgt := 93) rfl ?_
          refine B_istore rfl my_26 (by decide) rfl (show _ = [wr (T + 1), wr 3, wi n, wi a, wi i, wi 1, wi 0, wi 0] from rfl) ?_
          refine B_iload rfl my_26 rfl ?_
          refine B_if_eq rfl my_26 rfl (tgt := 111) (nx := 100) rfl rfl (fun c9 => absurd c9 (by decide)) (fun _ => ?_)
          show Bt E 26 100 [wr (T + 1), wr 3, wi n, wi a, wi i, wi 1, wi 0, wi 0] [] s _
          refine B_aloadn rfl my_26 rfl ?_
          refine B_aloadn rfl my_26 rfl ?_
          refine B_iload rfl my_26 rfl ?_
          refine B_iload rfl my_26 rfl ?_
          refine B_iconst rfl my_26 (by decide) ?_
          refine B_iadd rfl my_26 (by omega) (by omega) ?_
          refine B_cV hE.1 rfl (wc_1 hT) cw_26_28 (as := [wr 3, wi i, wi (i + 1)]) (rest := []) rfl (Nat.le_of_ble_eq_true rfl) (g_takeSigns hE hT h1.1 hXs.1 h1.2.2.2.2 (by omega) (by omega) (by omega) (by omega)) (fun vo s1 hq => ?_)
          obtain ⟨rfl, d1, hd1, hs1⟩ := hq
          have hA1 := hs1.1
          show Bt E 26 111 [wr (T + 1), wr 3, wi n, wi a, wi i, wi 1, wi 0, wi 0] [] s1 _
          refine B_iload rfl my_26 rfl ?_
          refine B_iload rfl my_26 rfl ?_
          refine B_if_eq rfl my_26 rfl (tgt := 122) (nx := 118) rfl rfl (fun _ => ?_) (fun c9 => absurd c9 (by decide))
          show Bt E 26 122 [wr (T + 1), wr 3, wi n, wi a, wi i, wi 1, wi 0, wi 0] [wi i] s1 _
          refine B_iconst rfl my_26 (by decide) ?_
          refine B_iadd rfl my_26 (by omega) (by omega) ?_
          refine B_istore rfl my_26 (by decide) rfl (show _ = [wr (T + 1), wr 3, wi n, wi a, wi (i + 1), wi 1, wi 0, wi 0] from rfl) ?_
          refine B_goto rfl my_26 rfl (tgt := 6) rfl ?_
          refine B_loc (l' := [wr (T + 1), wr 3, wi n, wi a, wi (i + 1), wi 1, wx, wx]) ⟨Or.inl rfl, Or.inl rfl, Or.inl rfl, Or.inl rfl, Or.inl rfl, Or.inl rfl, Or.inr rfl, Or.inr rfl, trivial⟩ ?_
          have hz := ts_tr h1 hs1
          exact ih _ _ _ _ hz (by omega) (by omega) (by omega) (by omega) (by omega) (by omega)
        · refine B_iconst rfl my_26 (by decide) ?_
          refine B_goto rfl my_26 rfl (tgt := 38) rfl ?_
          refine B_istore rfl my_26 (by decide) rfl (show _ = [wr (T + 1), wr 3, wi n, wi a, wi i, wi o, wi 1, wx] from rfl) ?_
          refine B_iload rfl my_26 rfl ?_
          refine B_if_eq rfl my_26 rfl (tgt := 75) (nx := 45) rfl rfl (fun c9 => absurd c9 (by decide)) (fun _ => ?_)
          show Bt E 26 45 [wr (T + 1), wr 3, wi n, wi a, wi i, wi o, wi 1, wx] [] s _
          refine B_iload rfl my_26 rfl ?_
          refine B_iconst rfl my_26 (by decide) ?_
          refine B_iadd rfl my_26 (by omega) (by omega) ?_
          refine B_aloadn rfl my_26 rfl ?_
          refine B_int hE.1 rfl my_26 rfl rfl (h1.1 _ _) (fun r21 => ?_)
          refine B_ic_ge rfl my_26 rfl (tgt := 75) (nx := 56) rfl rfl (fun c22 => ?_) (fun c22 => ?_)
          · refine B_iconst rfl my_26 (by decide) ?_
            refine B_istore rfl my_26 (by decide) rfl (show _ = [wr (T + 1), wr 3, wi n, wi a, wi i, wi o, wi 1, wi 0] from rfl) ?_
            refine B_iload rfl my_26 rfl ?_
            refine B_if_eq rfl my_26 rfl (tgt := 88) (nx := 83) rfl rfl (fun c9 => absurd c9 (by decide)) (fun _ => ?_)
            show Bt E 26 83 [wr (T + 1), wr 3, wi n, wi a, wi i, wi o, wi 1, wi 0] [] s _
            refine B_iload rfl my_26 rfl ?_
            refine B_if_eq rfl my_26 rfl (tgt := 92) (nx := 88) rfl rfl (fun _ => ?_) (fun c9 => absurd c9 (by decide))
            show Bt E 26 92 [wr (T + 1), wr 3, wi n, wi a, wi i, wi o, wi 1, wi 0] [] s _
            refine B_iconst rfl my_26 (by decide) ?_
            refine B_istore rfl my_26 (by decide) rfl (show _ = [wr (T + 1), wr 3, wi n, wi a, wi i, wi 0, wi 1, wi 0] from rfl) ?_
            refine B_iload rfl my_26 rfl ?_
            refine B_if_eq rfl my_26 rfl (tgt := 111) (nx := 100) rfl rfl (fun _ => ?_) (fun c9 => absurd c9 (by decide))
            show Bt E 26 111 [wr (T + 1), wr 3, wi n, wi a, wi i, wi 0, wi 1, wi 0] [] s _
            refine B_iload rfl my_26 rfl ?_
            refine B_iload rfl my_26 rfl ?_
            refine B_if_eq rfl my_26 rfl (tgt := 122) (nx := 118) rfl rfl (fun _ => ?_) (fun c9 => absurd c9 (by decide))
            show Bt E 26 122 [wr (T + 1), wr 3, wi n, wi a, wi i, wi 0, wi 1, wi 0] [wi i] s _
            refine B_iconst rfl my_26 (by decide) ?_
            refine B_iadd rfl my_26 (by omega) (by omega) ?_
            refine B_istore rfl my_26 (by decide) rfl (show _ = [wr (T + 1), wr 3, wi n, wi a, wi (i + 1), wi 0, wi 1, wi 0] from rfl) ?_
            refine B_goto rfl my_26 rfl (tgt := 6) rfl ?_
            refine B_loc (l' := [wr (T + 1), wr 3, wi n, wi a, wi (i + 1), wi 0, wx, wx]) ⟨Or.inl rfl, Or.inl rfl, Or.inl rfl, Or.inl rfl, Or.inl rfl, Or.inl rfl, Or.inr rfl, Or.inr rfl, trivial⟩ ?_
            exact ih _ _ _ _ h1 (by omega) (by omega) (by omega) (by omega) (by omega) (by omega)
          · refine B_aloadn rfl my_26 rfl ?_
            refine B_ref hE.1 rfl my_26 rfl (r := 4) rfl ?_
            refine B_iload rfl my_26 rfl ?_
            refine B_iconst rfl my_26 (by decide) ?_
            refine B_iadd rfl my_26 (by omega) (by omega) ?_
            refine B_cV hE.1 rfl nmc_4.1 cw_26_20 (as := [wi (i + 1)]) (rest := []) rfl (Nat.le_of_ble_eq_true rfl) (g_at hE nmc_4 (by decide) (kr_of fun _ => h1.1 _ _)) (fun vo s9 hq => ?_)
            obtain ⟨rfl, rfl⟩ := hq
            show Bt E 26 67 [wr (T + 1), wr 3, wi n, wi a, wi i, wi o, wi 1, wx] [wi (rd s 4 500 (i + 1))] s _
            refine B_top (fun r27 => ?_)
            refine B_iconst rfl my_26 (by decide) ?_
            refine B_ic_ne rfl my_26 rfl (tgt := 75) (nx := 71) rfl rfl (fun c28 => ?_) (fun c28 => ?_)
            · refine B_iconst rfl my_26 (by decide) ?_
              refine B_istore rfl my_26 (by decide) rfl (show _ = [wr (T + 1), wr 3, wi n, wi a, wi i, wi o, wi 1, wi 0] from rfl) ?_
              refine B_iload rfl my_26 rfl ?_
              refine B_if_eq rfl my_26 rfl (tgt := 88) (nx := 83) rfl rfl (fun c9 => absurd c9 (by decide)) (fun _ => ?_)
              show Bt E 26 83 [wr (T + 1), wr 3, wi n, wi a, wi i, wi o, wi 1, wi 0] [] s _
              refine B_iload rfl my_26 rfl ?_
              refine B_if_eq rfl my_26 rfl (tgt := 92) (nx := 88) rfl rfl (fun _ => ?_) (fun c9 => absurd c9 (by decide))
              show Bt E 26 92 [wr (T + 1), wr 3, wi n, wi a, wi i, wi o, wi 1, wi 0] [] s _
              refine B_iconst rfl my_26 (by decide) ?_
              refine B_istore rfl my_26 (by decide) rfl (show _ = [wr (T + 1), wr 3, wi n, wi a, wi i, wi 0, wi 1, wi 0] from rfl) ?_
              refine B_iload rfl my_26 rfl ?_
              refine B_if_eq rfl my_26 rfl (tgt := 111) (nx := 100) rfl rfl (fun _ => ?_) (fun c9 => absurd c9 (by decide))
              show Bt E 26 111 [wr (T + 1), wr 3, wi n, wi a, wi i, wi 0, wi 1, wi 0] [] s _
              refine B_iload rfl my_26 rfl ?_
              refine B_iload rfl my_26 rfl ?_
              refine B_if_eq rfl my_26 rfl (tgt := 122) (nx := 118) rfl rfl (fun _ => ?_) (fun c9 => absurd c9 (by decide))
              show Bt E 26 122 [wr (T + 1), wr 3, wi n, wi a, wi i, wi 0, wi 1, wi 0] [wi i] s _
              refine B_iconst rfl my_26 (by decide) ?_
              refine B_iadd rfl my_26 (by omega) (by omega) ?_
              refine B_istore rfl my_26 (by decide) rfl (show _ = [wr (T + 1), wr 3, wi n, wi a, wi (i + 1), wi 0, wi 1, wi 0] from rfl) ?_
              refine B_goto rfl my_26 rfl (tgt := 6) rfl ?_
              refine B_loc (l' := [wr (T + 1), wr 3, wi n, wi a, wi (i + 1), wi 0, wx, wx]) ⟨Or.inl rfl, Or.inl rfl, Or.inl rfl, Or.inl rfl, Or.inl rfl, Or.inl rfl, Or.inr rfl, Or.inr rfl, trivial⟩ ?_
              exact ih _ _ _ _ h1 (by omega) (by omega) (by omega) (by omega) (by omega) (by omega)
            · refine B_iconst rfl my_26 (by decide) ?_
              refine B_goto rfl my_26 rfl (tgt := 76) rfl ?_
              refine B_istore rfl my_26 (by decide) rfl (show _ = [wr (T + 1), wr 3, wi n, wi a, wi i, wi o, wi 1, wi 1] from rfl) ?_
              refine B_iload rfl my_26 rfl ?_
              refine B_if_eq rfl my_26 rfl (tgt := 88) (nx := 83) rfl rfl (fun c9 => absurd c9 (by decide)) (fun _ => ?_)
              show Bt E 26 83 [wr (T + 1), wr 3, wi n, wi a, wi i, wi o, wi 1, wi 1] [] s _
              refine B_iload rfl my_26 rfl ?_
              refine B_if_eq rfl my_26 rfl (tgt := 92) (nx := 88) rfl rfl (fun c9 => absurd c9 (by decide)) (fun _ => ?_)
              show Bt E 26 88 [wr (T + 1), wr 3, wi n, wi a, wi i, wi o, wi 1, wi 1] [] s _
              refine B_iconst rfl my_26 (by decide) ?_
              refine B_goto rfl my_26 rfl (tgt := 93) rfl ?_
              refine B_istore rfl my_26 (by decide) rfl (show _ = [wr (T + 1), wr 3, wi n, wi a, wi i, wi 1, wi 1, wi 1] from rfl) ?_
              refine B_iload rfl my_26 rfl ?_
              refine B_if_eq rfl my_26 rfl (tgt := 111) (nx := 100) rfl rfl (fun c9 => absurd c9 (by decide)) (fun _ => ?_)
              show Bt E 26 100 [wr (T + 1), wr 3, wi n, wi a, wi i, wi 1, wi 1, wi 1] [] s _
              refine B_aloadn rfl my_26 rfl ?_
              refine B_aloadn rfl my_26 rfl ?_
              refine B_iload rfl my_26 rfl ?_
              refine B_iload rfl my_26 rfl ?_
              refine B_iconst rfl my_26 (by decide) ?_
              refine B_iadd rfl my_26 (by omega) (by omega) ?_
              refine B_cV hE.1 rfl (wc_1 hT) cw_26_28 (as := [wr 3, wi i, wi (i + 1)]) (rest := []) rfl (Nat.le_of_ble_eq_true rfl) (g_takeSigns hE hT h1.1 hXs.1 h1.2.2.2.2 (by omega) (by omega) (by omega) (by omega)) (fun vo s1 hq => ?_)
              obtain ⟨rfl, d1, hd1, hs1⟩ := hq
              have hA1 := hs1.1
              show Bt E 26 111 [wr (T + 1), wr 3, wi n, wi a, wi i, wi 1, wi 1, wi 1] [] s1 _
              refine B_iload rfl my_26 rfl ?_
              refine B_iload rfl my_26 rfl ?_
              refine B_if_eq rfl my_26 rfl (tgt := 122) (nx := 118) rfl rfl (fun c9 => absurd c9 (by decide)) (fun _ => ?_)
              show Bt E 26 118 [wr (T + 1), wr 3, wi n, wi a, wi i, wi 1, wi 1, wi 1] [wi i] s1 _
              refine B_iconst rfl my_26 (by decide) ?_
              refine B_goto rfl my_26 rfl (tgt := 123) rfl ?_
              refine B_iadd rfl my_26 (by omega) (by omega) ?_
              refine B_istore rfl my_26 (by decide) rfl (show _ = [wr (T + 1), wr 3, wi n, wi a, wi (i + 2), wi 1, wi 1, wi 1] from rfl) ?_
              refine B_goto rfl my_26 rfl (tgt := 6) rfl ?_
              refine B_loc (l' := [wr (T + 1), wr 3, wi n, wi a, wi (i + 2), wi 1, wx, wx]) ⟨Or.inl rfl, Or.inl rfl, Or.inl rfl, Or.inl rfl, Or.inl rfl, Or.inl rfl, Or.inr rfl, Or.inr rfl, trivial⟩ ?_
              have hz := ts_tr h1 hs1
              exact ih _ _ _ _ hz (by omega) (by omega) (by omega) (by omega) (by omega) (by omega)
theorem g_readQuoted {E : mE} {σ : wSt} {T : Nat} (hE : wE E) (hT : Tb T) (hA : Al σ) (hX : TX σ) (hS : ∀ i, 0 ≤ rd σ (T + 2) 500 i) {n a : Int} (q0 : 0 ≤ a) (q1 : a ≤ gv σ 3 1) (hc : 0 ≤ gv σ (T + 1) 7) (hc2 : gv σ (T + 1) 7 ≤ a) : Fn E 26 [wr (T + 1), wr 3, wi n, wi a] σ (fun vo s => ∃ x d, vo = some (wi x) ∧ (a ≤ x ∧ x ≤ gv σ 3 1 ∧ 0 ≤ d ∧ d ≤ x - a) ∧ TF T σ s d) := by
  refine Fn.of (nL := 8) ?_
  show Bt E 26 0 [wr (T + 1), wr 3, wi n, wi a, wx, wx, wx, wx] [] σ _
  refine B_rng 2 rfl (fun ha2 => ?_)
  refine B_rng 3 rfl (fun ha3 => ?_)
  refine B_iloadn rfl my_26 rfl ?_
  refine B_istore rfl my_26 (by decide) rfl (show _ = [wr (T + 1), wr 3, wi n, wi a, wi a, wx, wx, wx] from rfl) ?_
  refine B_iconst rfl my_26 (by decide) ?_
  refine B_istore rfl my_26 (by decide) rfl (show _ = [wr (T + 1), wr 3, wi n, wi a, wi a, wi 1, wx, wx] from rfl) ?_
  exact l_readQuoted hE hT hA hX hS q0 q1 hc hc2 _ σ a 1 0 ⟨hA, Off.rf, fun _ _ => rfl, by omega, hS⟩ (by omega) (by omega) (by omega) (by omega) (by omega) (Nat.le_refl _)
end
