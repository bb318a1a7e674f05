theorem mk_chunks {α : Type} (f : α → Bool) (l : List α) : ∀ n : Nat, (∀ k, k < n → ((l.drop (64 * k)).take 64).all f = true) → (l.take (64 * n)).all f = true := by
  intro n
  induction n with
  | zero => intro _; rfl
  | succ n ih =>
    intro h
    have e : 64 * (n + 1) = 64 * n + 64 := by omega
    rw [e, List.take_add, List.all_append, ih (fun k hk => h k (by omega)), h n (by omega)]
    rfl
def mdecO (y : mMth) (e : mIns) : Bool := decide (decode y.2.1 e.1 = .ok (e.2.1, mlen e.2.1 e.2.2.1))
set_option maxRecDepth 100000 in
theorem mkP_100 : mchkP 100 = true := by decide +kernel
set_option maxRecDepth 100000 in
theorem mkI_100 : mchkMI 100 = true := by decide +kernel
set_option maxRecDepth 100000 in
theorem mkD_100 : mchkD 100 = true := by decide +kernel
set_option maxRecDepth 100000 in
theorem mkP_101 : mchkP 101 = true := by decide +kernel
set_option maxRecDepth 100000 in
theorem mkI_101 : mchkMI 101 = true := by decide +kernel
set_option maxRecDepth 100000 in
theorem mkD_101 : mchkD 101 = true := by decide +kernel
set_option maxRecDepth 100000 in
theorem mkP_102 : mchkP 102 = true := by decide +kernel
set_option maxRecDepth 100000 in
theorem mkI_102 : mchkMI 102 = true := by decide +kernel
set_option maxRecDepth 100000 in
theorem mkD_102 : mchkD 102 = true := by decide +kernel
set_option maxRecDepth 100000 in
theorem mkP_103 : mchkP 103 = true := by decide +kernel
set_option maxRecDepth 100000 in
theorem mkI_103 : mchkMI 103 = true := by decide +kernel
set_option maxRecDepth 100000 in
theorem mkD_103 : mchkD 103 = true := by decide +kernel
set_option maxRecDepth 100000 in
theorem mkP_104 : mchkP 104 = true := by decide +kernel
set_option maxRecDepth 100000 in
theorem mkI_104 : mchkMI 104 = true := by decide +kernel
set_option maxRecDepth 100000 in
theorem mkD_104 : mchkD 104 = true := by decide +kernel
set_option maxRecDepth 100000 in
theorem mkP_105 : mchkP 105 = true := by decide +kernel
set_option maxRecDepth 100000 in
theorem mkI_105 : mchkMI 105 = true := by decide +kernel
set_option maxRecDepth 100000 in
theorem mkD_105 : mchkD 105 = true := by decide +kernel
set_option maxRecDepth 100000 in
theorem mkP_106 : mchkP 106 = true := by decide +kernel
set_option maxRecDepth 100000 in
theorem mkI_106 : mchkMI 106 = true := by decide +kernel
set_option maxRecDepth 100000 in
theorem mkD_106 : mchkD 106 = true := by decide +kernel
set_option maxRecDepth 100000 in
theorem mkP_107 : mchkP 107 = true := by decide +kernel
set_option maxRecDepth 100000 in
theorem mkI_107 : mchkMI 107 = true := by decide +kernel
set_option maxRecDepth 100000 in
theorem mkD_107 : mchkD 107 = true := by decide +kernel
set_option maxRecDepth 100000 in
theorem mkP_108 : mchkP 108 = true := by decide +kernel
set_option maxRecDepth 100000 in
theorem mkI_108 : mchkMI 108 = true := by decide +kernel
set_option maxRecDepth 100000 in
theorem mkD_108 : mchkD 108 = true := by decide +kernel
set_option maxRecDepth 100000 in
theorem mkP_109 : mchkP 109 = true := by decide +kernel
set_option maxRecDepth 100000 in
theorem mkI_109 : mchkMI 109 = true := by decide +kernel
set_option maxRecDepth 100000 in
theorem mkD_109 : mchkD 109 = true := by decide +kernel
set_option maxRecDepth 100000 in
theorem mkP_110 : mchkP 110 = true := by decide +kernel
set_option maxRecDepth 100000 in
theorem mkI_110 : mchkMI 110 = true := by decide +kernel
set_option maxRecDepth 100000 in
theorem mkD_110 : mchkD 110 = true := by decide +kernel
set_option maxRecDepth 100000 in
theorem mkP_111 : mchkP 111 = true := by decide +kernel
set_option maxRecDepth 100000 in
theorem mkI_111 : mchkMI 111 = true := by decide +kernel
set_option maxRecDepth 100000 in
theorem mkD_111 : mchkD 111 = true := by decide +kernel
set_option maxRecDepth 100000 in
theorem mkP_112 : mchkP 112 = true := by decide +kernel
set_option maxRecDepth 100000 in
theorem mkI_112 : mchkMI 112 = true := by decide +kernel
set_option maxRecDepth 100000 in
theorem mkD_112 : mchkD 112 = true := by decide +kernel
set_option maxRecDepth 100000 in
theorem mkP_113 : mchkP 113 = true := by decide +kernel
set_option maxRecDepth 100000 in
theorem mkI_113 : mchkMI 113 = true := by decide +kernel
set_option maxRecDepth 100000 in
theorem mkD_113 : mchkD 113 = true := by decide +kernel
set_option maxRecDepth 100000 in
theorem mkP_114 : mchkP 114 = true := by decide +kernel
set_option maxRecDepth 100000 in
theorem mkI_114 : mchkMI 114 = true := by decide +kernel
set_option maxRecDepth 100000 in
theorem mkD_114 : mchkD 114 = true := by decide +kernel
set_option maxRecDepth 100000 in
theorem mkP_115 : mchkP 115 = true := by decide +kernel
set_option maxRecDepth 100000 in
theorem mkI_115 : mchkMI 115 = true := by decide +kernel
set_option maxRecDepth 100000 in
theorem mkD_115 : mchkD 115 = true := by decide +kernel
set_option maxRecDepth 100000 in
theorem mkP_116 : mchkP 116 = true := by decide +kernel
set_option maxRecDepth 100000 in
theorem mkI_116 : mchkMI 116 = true := by decide +kernel
def mLrow : mMth := (yL_law, cL_law, 21, (some .boolean), RL, 8, 188)
theorem mL_row : mmeth 116 = some mLrow := by rfl
set_option maxRecDepth 100000 in
theorem mkD_116_0 : (((mcode 116).drop (64 * 0)).take 64).all (mdecO mLrow) = true := by decide +kernel
set_option maxRecDepth 100000 in
theorem mkD_116_1 : (((mcode 116).drop (64 * 1)).take 64).all (mdecO mLrow) = true := by decide +kernel
set_option maxRecDepth 100000 in
theorem mkD_116_2 : (((mcode 116).drop (64 * 2)).take 64).all (mdecO mLrow) = true := by decide +kernel
set_option maxRecDepth 100000 in
theorem mkD_116_3 : (((mcode 116).drop (64 * 3)).take 64).all (mdecO mLrow) = true := by decide +kernel
set_option maxRecDepth 100000 in
theorem mkD_116_4 : (((mcode 116).drop (64 * 4)).take 64).all (mdecO mLrow) = true := by decide +kernel
set_option maxRecDepth 100000 in
theorem mkD_116_5 : (((mcode 116).drop (64 * 5)).take 64).all (mdecO mLrow) = true := by decide +kernel
set_option maxRecDepth 100000 in
theorem mkD_116_6 : (((mcode 116).drop (64 * 6)).take 64).all (mdecO mLrow) = true := by decide +kernel
set_option maxRecDepth 100000 in
theorem mkD_116_7 : (((mcode 116).drop (64 * 7)).take 64).all (mdecO mLrow) = true := by decide +kernel
set_option maxRecDepth 100000 in
theorem mkD_116_8 : (((mcode 116).drop (64 * 8)).take 64).all (mdecO mLrow) = true := by decide +kernel
set_option maxRecDepth 100000 in
theorem mkD_116_9 : (((mcode 116).drop (64 * 9)).take 64).all (mdecO mLrow) = true := by decide +kernel
set_option maxRecDepth 100000 in
theorem mkD_116_10 : (((mcode 116).drop (64 * 10)).take 64).all (mdecO mLrow) = true := by decide +kernel
set_option maxRecDepth 100000 in
theorem mkD_116_11 : (((mcode 116).drop (64 * 11)).take 64).all (mdecO mLrow) = true := by decide +kernel
theorem mkD_116 : mchkD 116 = true := by
  have h1 := mk_chunks (mdecO mLrow) (mcode 116) 12 (lt_s (lt_s (lt_s (lt_s (lt_s (lt_s (lt_s (lt_s (lt_s (lt_s (lt_s (lt_s (lt_0) mkD_116_0) mkD_116_1) mkD_116_2) mkD_116_3) mkD_116_4) mkD_116_5) mkD_116_6) mkD_116_7) mkD_116_8) mkD_116_9) mkD_116_10) mkD_116_11)
  rw [List.take_of_length_le (by decide +kernel)] at h1
  unfold mchkD
  rw [mL_row]
  exact h1
theorem mkP_to20 : ∀ k, k < 20 → mchkP k = true := lt_s (lt_s (lt_s (lt_s (lt_s (lt_s (lt_s (lt_s (lt_s (lt_s (lt_s (lt_s (lt_s (lt_s (lt_s (lt_s (lt_s (lt_s (lt_s (lt_s (lt_0) mkP_0) mkP_1) mkP_2) mkP_3) mkP_4) mkP_5) mkP_6) mkP_7) mkP_8) mkP_9) mkP_10) mkP_11) mkP_12) mkP_13) mkP_14) mkP_15) mkP_16) mkP_17) mkP_18) mkP_19
theorem mkP_to40 : ∀ k, k < 40 → mchkP k = true := lt_s (lt_s (lt_s (lt_s (lt_s (lt_s (lt_s (lt_s (lt_s (lt_s (lt_s (lt_s (lt_s (lt_s (lt_s (lt_s (lt_s (lt_s (lt_s (lt_s (mkP_to20) mkP_20) mkP_21) mkP_22) mkP_23) mkP_24) mkP_25) mkP_26) mkP_27) mkP_28) mkP_29) mkP_30) mkP_31) mkP_32) mkP_33) mkP_34) mkP_35) mkP_36) mkP_37) mkP_38) mkP_39
theorem mkP_to60 : ∀ k, k < 60 → mchkP k = true := lt_s (lt_s (lt_s (lt_s (lt_s (lt_s (lt_s (lt_s (lt_s (lt_s (lt_s (lt_s (lt_s (lt_s (lt_s (lt_s (lt_s (lt_s (lt_s (lt_s (mkP_to40) mkP_40) mkP_41) mkP_42) mkP_43) mkP_44) mkP_45) mkP_46) mkP_47) mkP_48) mkP_49) mkP_50) mkP_51) mkP_52) mkP_53) mkP_54) mkP_55) mkP_56) mkP_57) mkP_58) mkP_59
theorem mkP_to80 : ∀ k, k < 80 → mchkP k = true := lt_s (lt_s (lt_s (lt_s (lt_s (lt_s (lt_s (lt_s (lt_s (lt_s (lt_s (lt_s (lt_s (lt_s (lt_s (lt_s (lt_s (lt_s (lt_s (lt_s (mkP_to60) mkP_60) mkP_61) mkP_62) mkP_63) mkP_64) mkP_65) mkP_66) mkP_67) mkP_68) mkP_69) mkP_70) mkP_71) mkP_72) mkP_73) mkP_74) mkP_75) mkP_76) mkP_77) mkP_78) mkP_79
theorem mkP_to100 : ∀ k, k < 100 → mchkP k = true := lt_s (lt_s (lt_s (lt_s (lt_s (lt_s (lt_s (lt_s (lt_s (lt_s (lt_s (lt_s (lt_s (lt_s (lt_s (lt_s (lt_s (lt_s (lt_s (lt_s (mkP_to80) mkP_80) mkP_81) mkP_82) mkP_83) mkP_84) mkP_85) mkP_86) mkP_87) mkP_88) mkP_89) mkP_90) mkP_91) mkP_92) mkP_93) mkP_94) mkP_95) mkP_96) mkP_97) mkP_98) mkP_99
theorem mkP_to117 : ∀ k, k < 117 → mchkP k = true := lt_s (lt_s (lt_s (lt_s (lt_s (lt_s (lt_s (lt_s (lt_s (lt_s (lt_s (lt_s (lt_s (lt_s (lt_s (lt_s (lt_s (mkP_to100) mkP_100) mkP_101) mkP_102) mkP_103) mkP_104) mkP_105) mkP_106) mkP_107) mkP_108) mkP_109) mkP_110) mkP_111) mkP_112) mkP_113) mkP_114) mkP_115) mkP_116
theorem mkP_all {k : Nat} {y : mMth} (h : mmeth k = some y) : mchkP k = true := mkP_to117 k (Nat.lt_of_lt_of_le (List.getElem?_eq_some_iff.mp h).1 (by decide +kernel))
theorem mkI_to20 : ∀ k, k < 20 → mchkMI k = true := lt_s (lt_s (lt_s (lt_s (lt_s (lt_s (lt_s (lt_s (lt_s (lt_s (lt_s (lt_s (lt_s (lt_s (lt_s (lt_s (lt_s (lt_s (lt_s (lt_s (lt_0) mkI_0) mkI_1) mkI_2) mkI_3) mkI_4) mkI_5) mkI_6) mkI_7) mkI_8) mkI_9) mkI_10) mkI_11) mkI_12) mkI_13) mkI_14) mkI_15) mkI_16) mkI_17) mkI_18) mkI_19
theorem mkI_to40 : ∀ k, k < 40 → mchkMI k = true := lt_s (lt_s (lt_s (lt_s (lt_s (lt_s (lt_s (lt_s (lt_s (lt_s (lt_s (lt_s (lt_s (lt_s (lt_s (lt_s (lt_s (lt_s (lt_s (lt_s (mkI_to20) mkI_20) mkI_21) mkI_22) mkI_23) mkI_24) mkI_25) mkI_26) mkI_27) mkI_28) mkI_29) mkI_30) mkI_31) mkI_32) mkI_33) mkI_34) mkI_35) mkI_36) mkI_37) mkI_38) mkI_39
theorem mkI_to60 : ∀ k, k < 60 → mchkMI k = true := lt_s (lt_s (lt_s (lt_s (lt_s (lt_s (lt_s (lt_s (lt_s (lt_s (lt_s (lt_s (lt_s (lt_s (lt_s (lt_s (lt_s (lt_s (lt_s (lt_s (mkI_to40) mkI_40) mkI_41) mkI_42) mkI_43) mkI_44) mkI_45) mkI_46) mkI_47) mkI_48) mkI_49) mkI_50) mkI_51) mkI_52) mkI_53) mkI_54) mkI_55) mkI_56) mkI_57) mkI_58) mkI_59
theorem mkI_to80 : ∀ k, k < 80 → mchkMI k = true := lt_s (lt_s (lt_s (lt_s (lt_s (lt_s (lt_s (lt_s (lt_s (lt_s (lt_s (lt_s (lt_s (lt_s (lt_s (lt_s (lt_s (lt_s (lt_s (lt_s (mkI_to60) mkI_60) mkI_61) mkI_62) mkI_63) mkI_64) mkI_65) mkI_66) mkI_67) mkI_68) mkI_69) mkI_70) mkI_71) mkI_72) mkI_73) mkI_74) mkI_75) mkI_76) mkI_77) mkI_78) mkI_79
theorem mkI_to100 : ∀ k, k < 100 → mchkMI k = true := lt_s (lt_s (lt_s (lt_s (lt_s (lt_s (lt_s (lt_s (lt_s (lt_s (lt_s (lt_s (lt_s (lt_s (lt_s (lt_s (lt_s (lt_s (lt_s (lt_s (mkI_to80) mkI_80) mkI_81) mkI_82) mkI_83) mkI_84) mkI_85) mkI_86) mkI_87) mkI_88) mkI_89) mkI_90) mkI_91) mkI_92) mkI_93) mkI_94) mkI_95) mkI_96) mkI_97) mkI_98) mkI_99
theorem mkI_to117 : ∀ k, k < 117 → mchkMI k = true := lt_s (lt_s (lt_s (lt_s (lt_s (lt_s (lt_s (lt_s (lt_s (lt_s (lt_s (lt_s (lt_s (lt_s (lt_s (lt_s (lt_s (mkI_to100) mkI_100) mkI_101) mkI_102) mkI_103) mkI_104) mkI_105) mkI_106) mkI_107) mkI_108) mkI_109) mkI_110) mkI_111) mkI_112) mkI_113) mkI_114) mkI_115) mkI_116
theorem mkI_all {k : Nat} {y : mMth} (h : mmeth k = some y) : mchkMI k = true := mkI_to117 k (Nat.lt_of_lt_of_le (List.getElem?_eq_some_iff.mp h).1 (by decide +kernel))
theorem mkD_to20 : ∀ k, k < 20 → mchkD k = true := lt_s (lt_s (lt_s (lt_s (lt_s (lt_s (lt_s (lt_s (lt_s (lt_s (lt_s (lt_s (lt_s (lt_s (lt_s (lt_s (lt_s (lt_s (lt_s (lt_s (lt_0) mkD_0) mkD_1) mkD_2) mkD_3) mkD_4) mkD_5) mkD_6) mkD_7) mkD_8) mkD_9) mkD_10) mkD_11) mkD_12) mkD_13) mkD_14) mkD_15) mkD_16) mkD_17) mkD_18) mkD_19
theorem mkD_to40 : ∀ k, k < 40 → mchkD k = true := lt_s (lt_s (lt_s (lt_s (lt_s (lt_s (lt_s (lt_s (lt_s (lt_s (lt_s (lt_s (lt_s (lt_s (lt_s (lt_s (lt_s (lt_s (lt_s (lt_s (mkD_to20) mkD_20) mkD_21) mkD_22) mkD_23) mkD_24) mkD_25) mkD_26) mkD_27) mkD_28) mkD_29) mkD_30) mkD_31) mkD_32) mkD_33) mkD_34) mkD_35) mkD_36) mkD_37) mkD_38) mkD_39
theorem mkD_to60 : ∀ k, k < 60 → mchkD k = true := lt_s (lt_s (lt_s (lt_s (lt_s (lt_s (lt_s (lt_s (lt_s (lt_s (lt_s (lt_s (lt_s (lt_s (lt_s (lt_s (lt_s (lt_s (lt_s (lt_s (mkD_to40) mkD_40) mkD_41) mkD_42) mkD_43) mkD_44) mkD_45) mkD_46) mkD_47) mkD_48) mkD_49) mkD_50) mkD_51) mkD_52) mkD_53) mkD_54) mkD_55) mkD_56) mkD_57) mkD_58) mkD_59
theorem mkD_to80 : ∀ k, k < 80 → mchkD k = true := lt_s (lt_s (lt_s (lt_s (lt_s (lt_s (lt_s (lt_s (lt_s (lt_s (lt_s (lt_s (lt_s (lt_s (lt_s (lt_s (lt_s (lt_s (lt_s (lt_s (mkD_to60) mkD_60) mkD_61) mkD_62) mkD_63) mkD_64) mkD_65) mkD_66) mkD_67) mkD_68) mkD_69) mkD_70) mkD_71) mkD_72) mkD_73) mkD_74) mkD_75) mkD_76) mkD_77) mkD_78) mkD_79
theorem mkD_to100 : ∀ k, k < 100 → mchkD k = true := lt_s (lt_s (lt_s (lt_s (lt_s (lt_s (lt_s (lt_s (lt_s (lt_s (lt_s (lt_s (lt_s (lt_s (lt_s (lt_s (lt_s (lt_s (lt_s (lt_s (mkD_to80) mkD_80) mkD_81) mkD_82) mkD_83) mkD_84) mkD_85) mkD_86) mkD_87) mkD_88) mkD_89) mkD_90) mkD_91) mkD_92) mkD_93) mkD_94) mkD_95) mkD_96) mkD_97) mkD_98) mkD_99
theorem mkD_to117 : ∀ k, k < 117 → mchkD k = true := lt_s (lt_s (lt_s (lt_s (lt_s (lt_s (lt_s (lt_s (lt_s (lt_s (lt_s (lt_s (lt_s (lt_s (lt_s (lt_s (lt_s (mkD_to100) mkD_100) mkD_101) mkD_102) mkD_103) mkD_104) mkD_105) mkD_106) mkD_107) mkD_108) mkD_109) mkD_110) mkD_111) mkD_112) mkD_113) mkD_114) mkD_115) mkD_116
theorem mkD_all {k : Nat} {y : mMth} (h : mmeth k = some y) : mchkD k = true := mkD_to117 k (Nat.lt_of_lt_of_le (List.getElem?_eq_some_iff.mp h).1 (by decide +kernel))
