/-! ===== the methods; a table at T; rows of numbers ===== -/
theorem my_0 : mmeth 0 = some (yX0_init, cX0_init, 1, (none), RX0, 2, 41) := rfl
theorem my_1 : mmeth 1 = some (yX0_add, cX0_add, 4, (none), RX0, 1, 22) := rfl
theorem my_2 : mmeth 2 = some (yX0_fact, cX0_fact, 3, (some .int), RX0, 1, 21) := rfl
theorem my_3 : mmeth 3 = some (yX0_inColumn, cX0_inColumn, 4, (some .int), RX0, 1, 21) := rfl
theorem my_4 : mmeth 4 = some (yX1_isWhole, cX1_isWhole, 5, (some .boolean), RX1, 2, 44) := rfl
theorem my_5 : mmeth 5 = some (yX1_isDecimal, cX1_isDecimal, 8, (some .boolean), RX1, 2, 44) := rfl
theorem my_6 : mmeth 6 = some (yX1_isFlag, cX1_isFlag, 3, (some .boolean), RX1, 1, 21) := rfl
theorem my_7 : mmeth 7 = some (yX1_wholeNumber, cX1_wholeNumber, 4, (some .int), RX1, 2, 45) := rfl
theorem my_8 : mmeth 8 = some (yX1_thousandths, cX1_thousandths, 8, (some .int), RX1, 2, 45) := rfl
theorem my_9 : mmeth 9 = some (yX1_dayNumber, cX1_dayNumber, 10, (some .int), RX1, 2, 45) := rfl
theorem my_10 : mmeth 10 = some (yX1_isOneOrTwo, cX1_isOneOrTwo, 1, (some .boolean), RX1, 0, 0) := rfl
theorem my_11 : mmeth 11 = some (yX1_behindMinus, cX1_behindMinus, 3, (some .int), RX1, 1, 21) := rfl
theorem my_12 : mmeth 12 = some (yX1_digitsFrom, cX1_digitsFrom, 4, (some .int), RX1, 1, 21) := rfl
theorem my_13 : mmeth 13 = some (yX1_number, cX1_number, 5, (some .int), RX1, 1, 21) := rfl
theorem my_14 : mmeth 14 = some (yX1_daysIn, cX1_daysIn, 3, (some .int), RX1, 1, 20) := rfl
theorem my_15 : mmeth 15 = some (yX1_daysAheadOfMonth, cX1_daysAheadOfMonth, 3, (some .int), RX1, 1, 20) := rfl
theorem my_16 : mmeth 16 = some (yX1_daysAheadOfYear, cX1_daysAheadOfYear, 1, (some .int), RX1, 1, 20) := rfl
theorem my_17 : mmeth 17 = some (yX1_leapYearsTo, cX1_leapYearsTo, 1, (some .int), RX1, 0, 0) := rfl
theorem my_18 : mmeth 18 = some (yX1_isLeap, cX1_isLeap, 1, (some .boolean), RX1, 0, 0) := rfl
theorem my_19 : mmeth 19 = some (yX2_init, cX2_init, 2, (none), RX2, 1, 20) := rfl
theorem my_20 : mmeth 20 = some (yX2_at, cX2_at, 2, (some .int), RX2, 0, 0) := rfl
theorem my_21 : mmeth 21 = some (yX2_put, cX2_put, 3, (none), RX2, 0, 0) := rfl
theorem my_22 : mmeth 22 = some (yX3_init, cX3_init, 1, (none), RX3, 2, 41) := rfl
theorem my_23 : mmeth 23 = some (yX3_read, cX3_read, 7, (none), RX3, 3, 73) := rfl
theorem my_24 : mmeth 24 = some (yX3_isMoreToRead, cX3_isMoreToRead, 3, (some .boolean), RX3, 0, 0) := rfl
theorem my_25 : mmeth 25 = some (yX3_readPlain, cX3_readPlain, 7, (some .int), RX3, 2, 46) := rfl
theorem my_26 : mmeth 26 = some (yX3_readQuoted, cX3_readQuoted, 8, (some .int), RX3, 2, 46) := rfl
theorem my_27 : mmeth 27 = some (yX3_endOfCell, cX3_endOfCell, 5, (some .int), RX3, 1, 21) := rfl
theorem my_28 : mmeth 28 = some (yX3_takeSigns, cX3_takeSigns, 5, (none), RX3, 1, 22) := rfl
theorem my_29 : mmeth 29 = some (yX3_closeCell, cX3_closeCell, 3, (none), RX3, 1, 22) := rfl
theorem my_30 : mmeth 30 = some (yX3_closeRow, cX3_closeRow, 3, (none), RX3, 1, 22) := rfl
theorem my_31 : mmeth 31 = some (yX3_findUsualWidth, cX3_findUsualWidth, 4, (none), RX3, 2, 44) := rfl
theorem my_32 : mmeth 32 = some (yX3_rowsOfWidth, cX3_rowsOfWidth, 4, (some .int), RX3, 1, 21) := rfl
theorem my_33 : mmeth 33 = some (yX3_columnCount, cX3_columnCount, 1, (some .int), RX3, 1, 21) := rfl
theorem my_34 : mmeth 34 = some (yX3_points, cX3_points, 1, (some .int), RX3, 2, 41) := rfl
theorem my_35 : mmeth 35 = some (yX3_cellsIn, cX3_cellsIn, 2, (some .int), RX3, 1, 21) := rfl
theorem my_36 : mmeth 36 = some (yX3_cellAt, cX3_cellAt, 3, (some .int), RX3, 2, 42) := rfl
theorem my_37 : mmeth 37 = some (yX3_haveSameSigns, cX3_haveSameSigns, 7, (some .boolean), RX3, 1, 21) := rfl
theorem my_38 : mmeth 38 = some (yX3_quotedCells, cX3_quotedCells, 3, (some .int), RX3, 1, 21) := rfl
theorem my_39 : mmeth 39 = some (yX4_init, cX4_init, 2, (none), RX4, 3, 61) := rfl
theorem my_40 : mmeth 40 = some (yX4_settle, cX4_settle, 4, (none), RX4, 5, 112) := rfl
theorem my_41 : mmeth 41 = some (yX4_guessedMark, cX4_guessedMark, 6, (some .int), RX4, 3, 71) := rfl
theorem my_42 : mmeth 42 = some (yX4_nameCell, cX4_nameCell, 8, (none), RX4, 3, 74) := rfl
theorem my_43 : mmeth 43 = some (yX4_guessedHeading, cX4_guessedHeading, 4, (some .int), RX4, 4, 89) := rfl
theorem my_44 : mmeth 44 = some (yX4_tallyKinds, cX4_tallyKinds, 6, (none), RX4, 3, 64) := rfl
theorem my_45 : mmeth 45 = some (yX4_talliedFilled, cX4_talliedFilled, 3, (some .int), RX4, 1, 21) := rfl
theorem my_46 : mmeth 46 = some (yX4_talliedKind, cX4_talliedKind, 7, (some .int), RX4, 2, 43) := rfl
theorem my_47 : mmeth 47 = some (yX4_markRepeats, cX4_markRepeats, 4, (none), RX4, 4, 89) := rfl
theorem my_48 : mmeth 48 = some (yX4_isAhead, cX4_isAhead, 6, (some .boolean), RX4, 3, 64) := rfl
theorem my_49 : mmeth 49 = some (yX4_findFaults, cX4_findFaults, 7, (none), RX4, 3, 67) := rfl
theorem my_50 : mmeth 50 = some (yX4_faultOfCell, cX4_faultOfCell, 4, (some .int), RX4, 2, 44) := rfl
theorem my_51 : mmeth 51 = some (yX4_isOfKind, cX4_isOfKind, 4, (some .boolean), RX4, 1, 21) := rfl
theorem my_52 : mmeth 52 = some (yX4_keepOnce, cX4_keepOnce, 3, (none), RX4, 4, 87) := rfl
theorem my_53 : mmeth 53 = some (yX4_isSameRow, cX4_isSameRow, 4, (some .boolean), RX4, 3, 64) := rfl
theorem my_54 : mmeth 54 = some (yX4_hasColumn, cX4_hasColumn, 2, (some .boolean), RX4, 2, 41) := rfl
theorem my_55 : mmeth 55 = some (yX4_hasKept, cX4_hasKept, 2, (some .boolean), RX4, 0, 0) := rfl
theorem my_56 : mmeth 56 = some (yX4_choice, cX4_choice, 2, (some .int), RX4, 0, 0) := rfl
theorem my_57 : mmeth 57 = some (yX4_howMany, cX4_howMany, 2, (some .int), RX4, 2, 43) := rfl
theorem my_58 : mmeth 58 = some (yX4_factOfCell, cX4_factOfCell, 3, (some .int), RX4, 1, 21) := rfl
theorem my_59 : mmeth 59 = some (yX4_factOfColumn, cX4_factOfColumn, 3, (some .int), RX4, 4, 89) := rfl
theorem my_60 : mmeth 60 = some (yX4_repeatsIn, cX4_repeatsIn, 5, (some .int), RX4, 3, 64) := rfl
theorem my_61 : mmeth 61 = some (yX4_cellOfKept, cX4_cellOfKept, 3, (some .int), RX4, 3, 64) := rfl
theorem my_62 : mmeth 62 = some (yX4_valueIn, cX4_valueIn, 6, (some .int), RX4, 4, 86) := rfl
theorem my_63 : mmeth 63 = some (yX4_isFilledIn, cX4_isFilledIn, 3, (some .boolean), RX4, 4, 86) := rfl
theorem my_64 : mmeth 64 = some (yX4_extremeOf, cX4_extremeOf, 8, (some .int), RX4, 5, 111) := rfl
theorem my_65 : mmeth 65 = some (yX4_total, cX4_total, 5, (some .long), RX4, 5, 111) := rfl
theorem my_66 : mmeth 66 = some (yX4_filledInKept, cX4_filledInKept, 4, (some .int), RX4, 5, 108) := rfl
theorem my_67 : mmeth 67 = some (yX4_placeOf, cX4_placeOf, 4, (some .int), RX4, 5, 111) := rfl
theorem my_68 : mmeth 68 = some (yX5_init, cX5_init, 1, (none), RX5, 2, 41) := rfl
theorem my_69 : mmeth 69 = some (yX5_hasRoomFor, cX5_hasRoomFor, 2, (some .boolean), RX5, 0, 0) := rfl
theorem my_70 : mmeth 70 = some (yX5_write, cX5_write, 2, (none), RX5, 1, 22) := rfl
theorem my_71 : mmeth 71 = some (yX5_writeNumber, cX5_writeNumber, 5, (none), RX5, 1, 22) := rfl
theorem my_72 : mmeth 72 = some (yX5_digitsOf, cX5_digitsOf, 3, (some .int), RX5, 0, 0) := rfl
theorem my_73 : mmeth 73 = some (yX6_init, cX6_init, 1, (none), RX6, 2, 41) := rfl
theorem my_74 : mmeth 74 = some (yX6_mustBeFilled, cX6_mustBeFilled, 3, (some .boolean), RX6, 1, 21) := rfl
theorem my_75 : mmeth 75 = some (yX6_mustDiffer, cX6_mustDiffer, 3, (some .boolean), RX6, 1, 21) := rfl
theorem my_76 : mmeth 76 = some (yX7_init, cX7_init, 1, (none), RX7, 4, 82) := rfl
theorem my_77 : mmeth 77 = some (yX7_sign, cX7_sign, 2, (some .int), RX7, 6, 90) := rfl
theorem my_78 : mmeth 78 = some (yX7_digits, cX7_digits, 2, (some .int), RX7, 6, 90) := rfl
theorem my_79 : mmeth 79 = some (yX7_letters, cX7_letters, 4, (some .int), RX7, 6, 90) := rfl
theorem my_80 : mmeth 80 = some (yX7_three, cX7_three, 5, (some .int), RX7, 6, 90) := rfl
theorem my_81 : mmeth 81 = some (yX7_tell, cX7_tell, 4, (some .int), RX7, 6, 90) := rfl
theorem my_82 : mmeth 82 = some (yX7_setShare, cX7_setShare, 3, (some .int), RX7, 6, 90) := rfl
theorem my_83 : mmeth 83 = some (yX7_setRule, cX7_setRule, 4, (some .int), RX7, 6, 90) := rfl
theorem my_84 : mmeth 84 = some (yX7_used, cX7_used, 2, (some .int), RX7, 7, 157) := rfl
theorem my_85 : mmeth 85 = some (yX7_score, cX7_score, 2, (some .int), RX7, 6, 119) := rfl
theorem my_86 : mmeth 86 = some (yX7_many, cX7_many, 2, (some .int), RX7, 7, 157) := rfl
theorem my_87 : mmeth 87 = some (yX7_width, cX7_width, 3, (some .int), RX7, 7, 157) := rfl
theorem my_88 : mmeth 88 = some (yX7_cell, cX7_cell, 6, (some .int), RX7, 7, 157) := rfl
theorem my_89 : mmeth 89 = some (yX7_signAt, cX7_signAt, 6, (some .int), RX7, 7, 157) := rfl
theorem my_90 : mmeth 90 = some (yX7_column, cX7_column, 4, (some .int), RX7, 7, 157) := rfl
theorem my_91 : mmeth 91 = some (yX7_extreme, cX7_extreme, 4, (some .int), RX7, 7, 157) := rfl
theorem my_92 : mmeth 92 = some (yX7_sum, cX7_sum, 3, (some .long), RX7, 7, 157) := rfl
theorem my_93 : mmeth 93 = some (yX7_mean, cX7_mean, 4, (some .double), RX7, 7, 157) := rfl
theorem my_94 : mmeth 94 = some (yX7_fault, cX7_fault, 4, (some .int), RX7, 7, 157) := rfl
theorem my_95 : mmeth 95 = some (yX7_kept, cX7_kept, 3, (some .int), RX7, 7, 157) := rfl
theorem my_96 : mmeth 96 = some (yX7_value, cX7_value, 4, (some .int), RX7, 7, 157) := rfl
theorem my_97 : mmeth 97 = some (yX7_find, cX7_find, 4, (some .int), RX7, 7, 157) := rfl
theorem my_98 : mmeth 98 = some (yX7_keptWith, cX7_keptWith, 2, (some .int), RX7, 7, 157) := rfl
theorem my_99 : mmeth 99 = some (yX7_kindWith, cX7_kindWith, 4, (some .int), RX7, 7, 157) := rfl
theorem my_100 : mmeth 100 = some (yX7_digest, cX7_digest, 5, (some .long), RX7, 7, 164) := rfl
theorem my_101 : mmeth 101 = some (yX7_withRows, cX7_withRows, 9, (some .long), RX7, 3, 64) := rfl
theorem my_102 : mmeth 102 = some (yX7_withColumns, cX7_withColumns, 7, (some .long), RX7, 6, 138) := rfl
theorem my_103 : mmeth 103 = some (yX7_withFaultsAndKept, cX7_withFaultsAndKept, 7, (some .long), RX7, 2, 43) := rfl
theorem my_104 : mmeth 104 = some (yX7_mixed, cX7_mixed, 4, (some .long), RX7, 0, 0) := rfl
theorem my_105 : mmeth 105 = some (yX7_isSign, cX7_isSign, 1, (some .boolean), RX7, 0, 0) := rfl
theorem my_106 : mmeth 106 = some (yX7_isParter, cX7_isParter, 1, (some .boolean), RX7, 0, 0) := rfl
theorem my_107 : mmeth 107 = some (yX7_isShare, cX7_isShare, 1, (some .boolean), RX7, 0, 0) := rfl
theorem my_108 : mmeth 108 = some (yX7_tableNow, cX7_tableNow, 3, (some (.object "Tallow$Table")), RX7, 6, 135) := rfl
theorem my_109 : mmeth 109 = some (yX7_settledWith, cX7_settledWith, 3, (some (.object "Tallow$Table")), RX7, 6, 135) := rfl
theorem my_110 : mmeth 110 = some (yX7_tableWith, cX7_tableWith, 2, (some (.object "Tallow$Table")), RX7, 0, 0) := rfl
theorem my_111 : mmeth 111 = some (yX7_readText, cX7_readText, 1, (none), RX7, 4, 99) := rfl
theorem my_112 : mmeth 112 = some (yX7_unsettleAll, cX7_unsettleAll, 1, (none), RX7, 0, 0) := rfl
theorem my_113 : mmeth 113 = some (yX7_guessedParter, cX7_guessedParter, 5, (some .int), RX7, 3, 61) := rfl
theorem my_114 : mmeth 114 = some (yL_below, cL_below, 2, (some .int), RL, 0, 0) := rfl
theorem my_115 : mmeth 115 = some (yL_cell, cL_cell, 2, (some .int), RL, 0, 0) := rfl
theorem my_116 : mmeth 116 = some (yL_law, cL_law, 21, (some .boolean), RL, 8, 188) := rfl
/-- the four tables -/
abbrev Tb (T : Nat) : Prop := T = 11 ∨ T = 46 ∨ T = 81 ∨ T = 116
/-- a row of numbers at n, its ints at n + 1 -/
def Nm (n len : Nat) : Prop := wCls n = some 1 ∧ wRef 1 n 0 = some (n + 1) ∧ wRow (n + 1) = some len
theorem nmc_4 : Nm 4 500 := ⟨rfl, rfl, rfl⟩
theorem nmc_7 : Nm 7 3 := ⟨rfl, rfl, rfl⟩
theorem nmc_9 : Nm 9 20 := ⟨rfl, rfl, rfl⟩
theorem wc_0 {T : Nat} (hT : Tb T) : wCls T = some 3 := by rcases hT with rfl | rfl | rfl | rfl <;> rfl
theorem wf_0_0 {T : Nat} (hT : Tb T) : wRef 3 T 0 = some (T + 1) := by rcases hT with rfl | rfl | rfl | rfl <;> rfl
theorem wf_0_1 {T : Nat} (hT : Tb T) : wRef 3 T 1 = some (T + 16) := by rcases hT with rfl | rfl | rfl | rfl <;> rfl
theorem wf_0_2 {T : Nat} (hT : Tb T) : wRef 3 T 2 = some (T + 23) := by rcases hT with rfl | rfl | rfl | rfl <;> rfl
theorem wf_0_3 {T : Nat} (hT : Tb T) : wRef 3 T 3 = some (T + 25) := by rcases hT with rfl | rfl | rfl | rfl <;> rfl
theorem wf_0_4 {T : Nat} (hT : Tb T) : wRef 3 T 4 = some (T + 27) := by rcases hT with rfl | rfl | rfl | rfl <;> rfl
theorem wf_0_5 {T : Nat} (hT : Tb T) : wRef 3 T 5 = some (T + 29) := by rcases hT with rfl | rfl | rfl | rfl <;> rfl
theorem wf_0_6 {T : Nat} (hT : Tb T) : wRef 3 T 6 = some (T + 31) := by rcases hT with rfl | rfl | rfl | rfl <;> rfl
theorem wf_0_7 {T : Nat} (hT : Tb T) : wRef 3 T 7 = some (T + 33) := by rcases hT with rfl | rfl | rfl | rfl <;> rfl
theorem wn_0_8 {T : Nat} (hT : Tb T) : wInt 3 T 8 = true := by rcases hT with rfl | rfl | rfl | rfl <;> rfl
theorem wn_0_9 {T : Nat} (hT : Tb T) : wInt 3 T 9 = true := by rcases hT with rfl | rfl | rfl | rfl <;> rfl
theorem wn_0_10 {T : Nat} (hT : Tb T) : wInt 3 T 10 = true := by rcases hT with rfl | rfl | rfl | rfl <;> rfl
theorem wn_0_11 {T : Nat} (hT : Tb T) : wInt 3 T 11 = true := by rcases hT with rfl | rfl | rfl | rfl <;> rfl
theorem wn_0_12 {T : Nat} (hT : Tb T) : wInt 3 T 12 = true := by rcases hT with rfl | rfl | rfl | rfl <;> rfl
theorem wc_1 {T : Nat} (hT : Tb T) : wCls (T + 1) = some 2 := by rcases hT with rfl | rfl | rfl | rfl <;> rfl
theorem wf_1_0 {T : Nat} (hT : Tb T) : wRef 2 (T + 1) 0 = some (T + 2) := by rcases hT with rfl | rfl | rfl | rfl <;> rfl
theorem wf_1_1 {T : Nat} (hT : Tb T) : wRef 2 (T + 1) 1 = some (T + 4) := by rcases hT with rfl | rfl | rfl | rfl <;> rfl
theorem wf_1_2 {T : Nat} (hT : Tb T) : wRef 2 (T + 1) 2 = some (T + 6) := by rcases hT with rfl | rfl | rfl | rfl <;> rfl
theorem wf_1_3 {T : Nat} (hT : Tb T) : wRef 2 (T + 1) 3 = some (T + 8) := by rcases hT with rfl | rfl | rfl | rfl <;> rfl
theorem wf_1_4 {T : Nat} (hT : Tb T) : wRef 2 (T + 1) 4 = some (T + 10) := by rcases hT with rfl | rfl | rfl | rfl <;> rfl
theorem wf_1_5 {T : Nat} (hT : Tb T) : wRef 2 (T + 1) 5 = some (T + 12) := by rcases hT with rfl | rfl | rfl | rfl <;> rfl
theorem wf_1_6 {T : Nat} (hT : Tb T) : wRef 2 (T + 1) 6 = some (T + 14) := by rcases hT with rfl | rfl | rfl | rfl <;> rfl
theorem wn_1_7 {T : Nat} (hT : Tb T) : wInt 2 (T + 1) 7 = true := by rcases hT with rfl | rfl | rfl | rfl <;> rfl
theorem wn_1_8 {T : Nat} (hT : Tb T) : wInt 2 (T + 1) 8 = true := by rcases hT with rfl | rfl | rfl | rfl <;> rfl
theorem wn_1_9 {T : Nat} (hT : Tb T) : wInt 2 (T + 1) 9 = true := by rcases hT with rfl | rfl | rfl | rfl <;> rfl
theorem wn_1_10 {T : Nat} (hT : Tb T) : wInt 2 (T + 1) 10 = true := by rcases hT with rfl | rfl | rfl | rfl <;> rfl
theorem wn_1_11 {T : Nat} (hT : Tb T) : wInt 2 (T + 1) 11 = true := by rcases hT with rfl | rfl | rfl | rfl <;> rfl
theorem wn_1_12 {T : Nat} (hT : Tb T) : wInt 2 (T + 1) 12 = true := by rcases hT with rfl | rfl | rfl | rfl <;> rfl
theorem wn_1_13 {T : Nat} (hT : Tb T) : wInt 2 (T + 1) 13 = true := by rcases hT with rfl | rfl | rfl | rfl <;> rfl
theorem wc_2 {T : Nat} (hT : Tb T) : wCls (T + 2) = some 1 := by rcases hT with rfl | rfl | rfl | rfl <;> rfl
theorem nm_2 {T : Nat} (hT : Tb T) : Nm (T + 2) 500 := by rcases hT with rfl | rfl | rfl | rfl <;> exact ⟨rfl, rfl, rfl⟩
theorem wc_4 {T : Nat} (hT : Tb T) : wCls (T + 4) = some 1 := by rcases hT with rfl | rfl | rfl | rfl <;> rfl
theorem nm_4 {T : Nat} (hT : Tb T) : Nm (T + 4) 501 := by rcases hT with rfl | rfl | rfl | rfl <;> exact ⟨rfl, rfl, rfl⟩
theorem wc_6 {T : Nat} (hT : Tb T) : wCls (T + 6) = some 1 := by rcases hT with rfl | rfl | rfl | rfl <;> rfl
theorem nm_6 {T : Nat} (hT : Tb T) : Nm (T + 6) 501 := by rcases hT with rfl | rfl | rfl | rfl <;> exact ⟨rfl, rfl, rfl⟩
theorem wc_8 {T : Nat} (hT : Tb T) : wCls (T + 8) = some 1 := by rcases hT with rfl | rfl | rfl | rfl <;> rfl
theorem nm_8 {T : Nat} (hT : Tb T) : Nm (T + 8) 501 := by rcases hT with rfl | rfl | rfl | rfl <;> exact ⟨rfl, rfl, rfl⟩
theorem wc_10 {T : Nat} (hT : Tb T) : wCls (T + 10) = some 1 := by rcases hT with rfl | rfl | rfl | rfl <;> rfl
theorem nm_10 {T : Nat} (hT : Tb T) : Nm (T + 10) 501 := by rcases hT with rfl | rfl | rfl | rfl <;> exact ⟨rfl, rfl, rfl⟩
theorem wc_12 {T : Nat} (hT : Tb T) : wCls (T + 12) = some 1 := by rcases hT with rfl | rfl | rfl | rfl <;> rfl
theorem nm_12 {T : Nat} (hT : Tb T) : Nm (T + 12) 60 := by rcases hT with rfl | rfl | rfl | rfl <;> exact ⟨rfl, rfl, rfl⟩
theorem wc_14 {T : Nat} (hT : Tb T) : wCls (T + 14) = some 1 := by rcases hT with rfl | rfl | rfl | rfl <;> rfl
theorem nm_14 {T : Nat} (hT : Tb T) : Nm (T + 14) 60 := by rcases hT with rfl | rfl | rfl | rfl <;> exact ⟨rfl, rfl, rfl⟩
theorem wc_16 {T : Nat} (hT : Tb T) : wCls (T + 16) = some 0 := by rcases hT with rfl | rfl | rfl | rfl <;> rfl
theorem wf_16_0 {T : Nat} (hT : Tb T) : wRef 0 (T + 16) 0 = some (T + 17) := by rcases hT with rfl | rfl | rfl | rfl <;> rfl
theorem wf_16_1 {T : Nat} (hT : Tb T) : wRef 0 (T + 16) 1 = some (T + 19) := by rcases hT with rfl | rfl | rfl | rfl <;> rfl
theorem wf_16_2 {T : Nat} (hT : Tb T) : wRef 0 (T + 16) 2 = some (T + 21) := by rcases hT with rfl | rfl | rfl | rfl <;> rfl
theorem wn_16_3 {T : Nat} (hT : Tb T) : wInt 0 (T + 16) 3 = true := by rcases hT with rfl | rfl | rfl | rfl <;> rfl
theorem wc_17 {T : Nat} (hT : Tb T) : wCls (T + 17) = some 1 := by rcases hT with rfl | rfl | rfl | rfl <;> rfl
theorem nm_17 {T : Nat} (hT : Tb T) : Nm (T + 17) 561 := by rcases hT with rfl | rfl | rfl | rfl <;> exact ⟨rfl, rfl, rfl⟩
theorem wc_19 {T : Nat} (hT : Tb T) : wCls (T + 19) = some 1 := by rcases hT with rfl | rfl | rfl | rfl <;> rfl
theorem nm_19 {T : Nat} (hT : Tb T) : Nm (T + 19) 561 := by rcases hT with rfl | rfl | rfl | rfl <;> exact ⟨rfl, rfl, rfl⟩
theorem wc_21 {T : Nat} (hT : Tb T) : wCls (T + 21) = some 1 := by rcases hT with rfl | rfl | rfl | rfl <;> rfl
theorem nm_21 {T : Nat} (hT : Tb T) : Nm (T + 21) 561 := by rcases hT with rfl | rfl | rfl | rfl <;> exact ⟨rfl, rfl, rfl⟩
theorem wc_23 {T : Nat} (hT : Tb T) : wCls (T + 23) = some 1 := by rcases hT with rfl | rfl | rfl | rfl <;> rfl
theorem nm_23 {T : Nat} (hT : Tb T) : Nm (T + 23) 60 := by rcases hT with rfl | rfl | rfl | rfl <;> exact ⟨rfl, rfl, rfl⟩
theorem wc_25 {T : Nat} (hT : Tb T) : wCls (T + 25) = some 1 := by rcases hT with rfl | rfl | rfl | rfl <;> rfl
theorem nm_25 {T : Nat} (hT : Tb T) : Nm (T + 25) 501 := by rcases hT with rfl | rfl | rfl | rfl <;> exact ⟨rfl, rfl, rfl⟩
theorem wc_27 {T : Nat} (hT : Tb T) : wCls (T + 27) = some 1 := by rcases hT with rfl | rfl | rfl | rfl <;> rfl
theorem nm_27 {T : Nat} (hT : Tb T) : Nm (T + 27) 501 := by rcases hT with rfl | rfl | rfl | rfl <;> exact ⟨rfl, rfl, rfl⟩
theorem wc_29 {T : Nat} (hT : Tb T) : wCls (T + 29) = some 1 := by rcases hT with rfl | rfl | rfl | rfl <;> rfl
theorem nm_29 {T : Nat} (hT : Tb T) : Nm (T + 29) 501 := by rcases hT with rfl | rfl | rfl | rfl <;> exact ⟨rfl, rfl, rfl⟩
theorem wc_31 {T : Nat} (hT : Tb T) : wCls (T + 31) = some 1 := by rcases hT with rfl | rfl | rfl | rfl <;> rfl
theorem nm_31 {T : Nat} (hT : Tb T) : Nm (T + 31) 20 := by rcases hT with rfl | rfl | rfl | rfl <;> exact ⟨rfl, rfl, rfl⟩
theorem wc_33 {T : Nat} (hT : Tb T) : wCls (T + 33) = some 1 := by rcases hT with rfl | rfl | rfl | rfl <;> rfl
theorem nm_33 {T : Nat} (hT : Tb T) : Nm (T + 33) 6 := by rcases hT with rfl | rfl | rfl | rfl <;> exact ⟨rfl, rfl, rfl⟩
/-- what at(i) answers, what put(i, x) leaves; i's int is known, if there is one -/
def rd (σ : wSt) (n len : Nat) (i : Int) : Int := if 0 ≤ i ∧ i < len then gv σ (n + 1) i.toNat else 0
def pt (σ : wSt) (n len : Nat) (i x : Int) : wSt := if 0 ≤ i ∧ i < len then wup σ (n + 1) i.toNat x else σ
def kr (σ : wSt) (n len : Nat) (i : Int) : Prop := 0 ≤ i → i < len → kn σ (n + 1) i.toNat
/-- nothing but at such addresses has changed -/
def Off (R : Nat → Prop) (σ σ' : wSt) : Prop := ∀ a, ¬ R a → ∀ b, σ' a b = σ a b
section RD
variable {σ σ' σ'' : wSt} {n len m l a b : Nat} {i k x : Int} {R R' : Nat → Prop}
theorem rd_in (h1 : 0 ≤ i) (h2 : i < len) : rd σ n len i = gv σ (n + 1) i.toNat := if_pos ⟨h1, h2⟩
theorem rd_out (h : ¬ (0 ≤ i ∧ i < len)) : rd σ n len i = 0 := if_neg h
theorem rd_pt : rd (pt σ n len i x) n len k = if 0 ≤ i ∧ i < len ∧ k = i then x else rd σ n len k := by
  unfold pt
  by_cases hi : 0 ≤ i ∧ i < len
  · rw [if_pos hi]
    by_cases hk : k = i
    · subst hk
      rw [if_pos ⟨hi.1, hi.2, rfl⟩, rd_in hi.1 hi.2, gv_eq]
    · rw [if_neg (fun h => hk h.2.2)]
      unfold rd
      by_cases h : 0 ≤ k ∧ k < len
      · rw [if_pos h, if_pos h, gv_ne (by omega)]
      · rw [if_neg h, if_neg h]
  · rw [if_neg hi, if_neg (fun h => hi ⟨h.1, h.2.1⟩)]
theorem rd_pt_eq (h1 : 0 ≤ i) (h2 : i < len) : rd (pt σ n len i x) n len i = x := by rw [rd_pt, if_pos ⟨h1, h2, rfl⟩]
theorem rd_pt_nk (h : k ≠ i) : rd (pt σ n len i x) n len k = rd σ n len k := by rw [rd_pt, if_neg (fun e => h e.2.2)]
theorem gv_pt (h : a ≠ n + 1) : gv (pt σ n len i x) a b = gv σ a b := by
  unfold pt
  split
  · exact gv_ne (fun e => h e.1)
  · rfl
theorem rd_pt_ne (h : m ≠ n) : rd (pt σ n len i x) m l k = rd σ m l k := by
  unfold rd
  rw [gv_pt (fun e => h (by omega))]
theorem rd_wup (h : m + 1 ≠ a) : rd (wup σ a b x) m l k = rd σ m l k := by
  unfold rd
  rw [gv_ne (fun e => h e.1)]
theorem kn_pt (h : kn σ a b) : kn (pt σ n len i x) a b := by
  unfold pt
  split
  · exact kn_up h
  · exact h
theorem kr_pt (h : kr σ m l k) : kr (pt σ n len i x) m l k := fun h1 h2 => kn_pt (h h1 h2)
theorem kr_pt_eq : kr (pt σ n len i x) n len i := fun h1 h2 => by
  unfold pt
  rw [if_pos ⟨h1, h2⟩]
  exact kn_eq
theorem kr_wup (h : kr σ m l k) : kr (wup σ a b x) m l k := fun h1 h2 => kn_up (h h1 h2)
theorem kr_of (h : ∀ b, kn σ (n + 1) b) : kr σ n len i := fun _ _ => h _
theorem Off.rf : Off R σ σ := fun _ _ _ => rfl
theorem Off.tr (h1 : Off R σ σ') (h2 : Off R σ' σ'') : Off R σ σ'' := fun a h b => (h2 a h b).trans (h1 a h b)
theorem Off.mono (h1 : Off R σ σ') (h : ∀ a, R a → R' a) : Off R' σ σ' := fun a h2 b => h1 a (fun h3 => h2 (h a h3)) b
theorem off_wup (h : R a) : Off R σ (wup σ a b x) := fun p hp q => wup_ne (fun e => hp (by rw [e.1]; exact h))
theorem off_pt (h : R (n + 1)) : Off R σ (pt σ n len i x) := fun p hp q => by
  unfold pt
  split
  · exact wup_ne (fun e => hp (by rw [e.1]; exact h))
  · rfl
theorem off_gv (h : Off R σ σ') (ha : ¬ R a) : gv σ' a b = gv σ a b := by
  unfold gv
  rw [h a ha b]
theorem off_kn (h : Off R σ σ') (ha : ¬ R a) : kn σ' a b ↔ kn σ a b := by
  unfold kn
  rw [h a ha b]
theorem off_rd (h : Off R σ σ') (ha : ¬ R (n + 1)) : rd σ' n len i = rd σ n len i := by
  unfold rd
  rw [off_gv h ha]
theorem off_kr (h : Off R σ σ') (ha : ¬ R (n + 1)) (hk : kr σ n len i) : kr σ' n len i := fun h1 h2 => (off_kn h ha).mpr (hk h1 h2)
theorem rd_rng (hN : Nm n len) (hk : kr σ n len i) (h : ∃ h, Wr σ h) : wI (rd σ n len i) := by
  unfold rd
  split
  · rename_i h1
    exact wRow_rng hN.2.2 h _ (by omega) (hk h1.1 h1.2)
  · exact ⟨by omega, by omega⟩
end RD
/-! lookupswitch -/
theorem B_lookup {E : mE} {j pc : Nat} {l st : List wV} {σ : wSt} {P : Option wV → wSt → Prop} {y : mMth} {q : Nat × Nat × Nat × Nat} {x dflt off : Int} {ps : Array (Int × Int)} {tgt : Nat} (he : mlook (mcode j) pc = some (pc, .lookupswitch dflt ps, q)) (hy : mmeth j = some y) (hs : (ps.toList.zip (ps.toList.drop 1)).all (fun (a, next) => a.1 < next.1) = true) (ho : Op.lookupswitch.offset ps.toList dflt x = off) (hj : mjmp pc off = true) (ht : mtgt pc off = tgt) (k : Bt E j tgt l st σ P) : Bt E j pc l (wi x :: st) σ P := by
  subst ho; subst ht
  refine B_p (pc' := mtgt pc (Op.lookupswitch.offset ps.toList dflt x)) he rfl rfl hy (fun lv sc g1 g2 => ?_) k
  obtain ⟨v, rc, rfl, h4, h5⟩ := wS_c g2
  obtain ⟨a, rfl, rfl⟩ := wR_i h4
  exact ⟨lv, rc, by simp only [mpure]; rw [if_pos hs, if_pos hj], g1, h5⟩
