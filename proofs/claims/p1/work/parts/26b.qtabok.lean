/-! ===== .. of every method ===== -/
theorem qk_to20 : ∀ j, j < 20 → ∀ pc, pc < qtlen j → qok j pc = true := lt_s (lt_s (lt_s (lt_s (lt_s (lt_s (lt_s (lt_s (lt_s (lt_s (lt_s (lt_s (lt_s (lt_s (lt_s (lt_s (lt_s (lt_s (lt_s (lt_s (lt_0) qk_0) qk_1) qk_2) qk_3) qk_4) qk_5) qk_6) qk_7) qk_8) qk_9) qk_10) qk_11) qk_12) qk_13) qk_14) qk_15) qk_16) qk_17) qk_18) qk_19
theorem qk_to40 : ∀ j, j < 40 → ∀ pc, pc < qtlen j → qok j pc = true := lt_s (lt_s (lt_s (lt_s (lt_s (lt_s (lt_s (lt_s (lt_s (lt_s (lt_s (lt_s (lt_s (lt_s (lt_s (lt_s (lt_s (lt_s (lt_s (lt_s (qk_to20) qk_20) qk_21) qk_22) qk_23) qk_24) qk_25) qk_26) qk_27) qk_28) qk_29) qk_30) qk_31) qk_32) qk_33) qk_34) qk_35) qk_36) qk_37) qk_38) qk_39
theorem qk_to60 : ∀ j, j < 60 → ∀ pc, pc < qtlen j → qok j pc = true := lt_s (lt_s (lt_s (lt_s (lt_s (lt_s (lt_s (lt_s (lt_s (lt_s (lt_s (lt_s (lt_s (lt_s (lt_s (lt_s (lt_s (lt_s (lt_s (lt_s (qk_to40) qk_40) qk_41) qk_42) qk_43) qk_44) qk_45) qk_46) qk_47) qk_48) qk_49) qk_50) qk_51) qk_52) qk_53) qk_54) qk_55) qk_56) qk_57) qk_58) qk_59
theorem qk_to80 : ∀ j, j < 80 → ∀ pc, pc < qtlen j → qok j pc = true := lt_s (lt_s (lt_s (lt_s (lt_s (lt_s (lt_s (lt_s (lt_s (lt_s (lt_s (lt_s (lt_s (lt_s (lt_s (lt_s (lt_s (lt_s (lt_s (lt_s (qk_to60) qk_60) qk_61) qk_62) qk_63) qk_64) qk_65) qk_66) qk_67) qk_68) qk_69) qk_70) qk_71) qk_72) qk_73) qk_74) qk_75) qk_76) qk_77) qk_78) qk_79
theorem qk_to100 : ∀ j, j < 100 → ∀ pc, pc < qtlen j → qok j pc = true := lt_s (lt_s (lt_s (lt_s (lt_s (lt_s (lt_s (lt_s (lt_s (lt_s (lt_s (lt_s (lt_s (lt_s (lt_s (lt_s (lt_s (lt_s (lt_s (lt_s (qk_to80) qk_80) qk_81) qk_82) qk_83) qk_84) qk_85) qk_86) qk_87) qk_88) qk_89) qk_90) qk_91) qk_92) qk_93) qk_94) qk_95) qk_96) qk_97) qk_98) qk_99
theorem qk_to120 : ∀ j, j < 120 → ∀ pc, pc < qtlen j → qok j pc = true := lt_s (lt_s (lt_s (lt_s (lt_s (lt_s (lt_s (lt_s (lt_s (lt_s (lt_s (lt_s (lt_s (lt_s (lt_s (lt_s (lt_s (lt_s (lt_s (lt_s (qk_to100) qk_100) qk_101) qk_102) qk_103) qk_104) qk_105) qk_106) qk_107) qk_108) qk_109) qk_110) qk_111) qk_112) qk_113) qk_114) qk_115) qk_116) qk_117) qk_118) qk_119
theorem qk_to140 : ∀ j, j < 140 → ∀ pc, pc < qtlen j → qok j pc = true := lt_s (lt_s (lt_s (lt_s (lt_s (lt_s (lt_s (lt_s (lt_s (lt_s (lt_s (lt_s (lt_s (lt_s (lt_s (lt_s (lt_s (lt_s (lt_s (lt_s (qk_to120) qk_120) qk_121) qk_122) qk_123) qk_124) qk_125) qk_126) qk_127) qk_128) qk_129) qk_130) qk_131) qk_132) qk_133) qk_134) qk_135) qk_136) qk_137) qk_138) qk_139
theorem qk_to160 : ∀ j, j < 160 → ∀ pc, pc < qtlen j → qok j pc = true := lt_s (lt_s (lt_s (lt_s (lt_s (lt_s (lt_s (lt_s (lt_s (lt_s (lt_s (lt_s (lt_s (lt_s (lt_s (lt_s (lt_s (lt_s (lt_s (lt_s (qk_to140) qk_140) qk_141) qk_142) qk_143) qk_144) qk_145) qk_146) qk_147) qk_148) qk_149) qk_150) qk_151) qk_152) qk_153) qk_154) qk_155) qk_156) qk_157) qk_158) qk_159
theorem qk_to163 : ∀ j, j < 163 → ∀ pc, pc < qtlen j → qok j pc = true := lt_s (lt_s (lt_s (qk_to160) qk_160) qk_161) qk_162
theorem qtlen_out {j : Nat} (h : 163 ≤ j) : qtlen j = 0 := by
  have h1 : qlens < 2 ^ (16 * j) := Nat.lt_of_lt_of_le (show qlens < 2 ^ (16 * 163) by decide +kernel) (Nat.pow_le_pow_right (by decide) (by omega))
  have h2 : Nat.shiftRight qlens (Nat.mul 16 j) = 0 := by
    show qlens >>> (16 * j) = 0
    rw [Nat.shiftRight_eq_div_pow]
    exact Nat.div_eq_of_lt h1
  unfold qtlen
  rw [h2]
  decide +kernel
theorem qtab_ok {j pc : Nat} (h : (qtab j pc).1 ≠ 99) : qgood j pc (qtab j pc) = true := by
  rw [qtab_eq] at h ⊢
  by_cases h1 : qtlen j ≤ pc
  · have h2 : qtab0 j pc = qno := by unfold qtab0; rw [qif_ble, if_pos h1]
    rw [h2] at h
    exact absurd rfl h
  · by_cases h3 : 163 ≤ j
    · exact absurd (show qtlen j ≤ pc by rw [qtlen_out h3]; exact Nat.zero_le _) h1
    · have h4 := qk_to163 j (by omega) pc (by omega)
      unfold qok at h4
      rw [qif_beq, if_neg h] at h4
      exact h4
