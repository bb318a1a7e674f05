/-! ===== the checks of the tables, method by method ===== -/
theorem mk_chunks {α : Type} (f : α → Bool) (l : List α) : ∀ n : Nat, (∀ k, k < n → ((l.drop (64 * k)).take 64).all f = true) → (l.take (64 * n)).all f = true := by
  intro n
  induction n with
  | zero => intro _; rfl
  | succ n ih =>
    intro h
    have e : 64 * (n + 1) = 64 * n + 64 := by omega
    rw [e, List.take_add, List.all_append, ih (fun k hk => h k (by omega)), h n (by omega)]
    rfl
def mdecO (y : mMth) (e : mIns) : Bool := decide (decode y.2.1 e.1 = .ok (e.2.1, mlen e.2.1 e.2.2.1))
set_option maxRecDepth 100000 in
theorem mkP_115 : mchkP 115 = true := by decide +kernel
set_option maxRecDepth 100000 in
theorem mkI_115 : mchkMI 115 = true := by decide +kernel
set_option maxRecDepth 100000 in
theorem mkD_115 : mchkD 115 = true := by decide +kernel
set_option maxRecDepth 100000 in
theorem mkP_116 : mchkP 116 = true := by decide +kernel
set_option maxRecDepth 100000 in
theorem mkI_116 : mchkMI 116 = true := by decide +kernel
set_option maxRecDepth 100000 in
theorem mkD_116 : mchkD 116 = true := by decide +kernel
set_option maxRecDepth 100000 in
theorem mkP_117 : mchkP 117 = true := by decide +kernel
set_option maxRecDepth 100000 in
theorem mkI_117 : mchkMI 117 = true := by decide +kernel
set_option maxRecDepth 100000 in
theorem mkD_117 : mchkD 117 = true := by decide +kernel
set_option maxRecDepth 100000 in
theorem mkP_118 : mchkP 118 = true := by decide +kernel
set_option maxRecDepth 100000 in
theorem mkI_118 : mchkMI 118 = true := by decide +kernel
set_option maxRecDepth 100000 in
theorem mkD_118 : mchkD 118 = true := by decide +kernel
set_option maxRecDepth 100000 in
theorem mkP_119 : mchkP 119 = true := by decide +kernel
set_option maxRecDepth 100000 in
theorem mkI_119 : mchkMI 119 = true := by decide +kernel
set_option maxRecDepth 100000 in
theorem mkD_119 : mchkD 119 = true := by decide +kernel
set_option maxRecDepth 100000 in
theorem mkP_120 : mchkP 120 = true := by decide +kernel
set_option maxRecDepth 100000 in
theorem mkI_120 : mchkMI 120 = true := by decide +kernel
set_option maxRecDepth 100000 in
theorem mkD_120 : mchkD 120 = true := by decide +kernel
set_option maxRecDepth 100000 in
theorem mkP_121 : mchkP 121 = true := by decide +kernel
set_option maxRecDepth 100000 in
theorem mkI_121 : mchkMI 121 = true := by decide +kernel
set_option maxRecDepth 100000 in
theorem mkD_121 : mchkD 121 = true := by decide +kernel
set_option maxRecDepth 100000 in
theorem mkP_122 : mchkP 122 = true := by decide +kernel
set_option maxRecDepth 100000 in
theorem mkI_122 : mchkMI 122 = true := by decide +kernel
set_option maxRecDepth 100000 in
theorem mkD_122 : mchkD 122 = true := by decide +kernel
set_option maxRecDepth 100000 in
theorem mkP_123 : mchkP 123 = true := by decide +kernel
set_option maxRecDepth 100000 in
theorem mkI_123 : mchkMI 123 = true := by decide +kernel
set_option maxRecDepth 100000 in
theorem mkD_123 : mchkD 123 = true := by decide +kernel
set_option maxRecDepth 100000 in
theorem mkP_124 : mchkP 124 = true := by decide +kernel
set_option maxRecDepth 100000 in
theorem mkI_124 : mchkMI 124 = true := by decide +kernel
set_option maxRecDepth 100000 in
theorem mkD_124 : mchkD 124 = true := by decide +kernel
set_option maxRecDepth 100000 in
theorem mkP_125 : mchkP 125 = true := by decide +kernel
set_option maxRecDepth 100000 in
theorem mkI_125 : mchkMI 125 = true := by decide +kernel
set_option maxRecDepth 100000 in
theorem mkD_125 : mchkD 125 = true := by decide +kernel
set_option maxRecDepth 100000 in
theorem mkP_126 : mchkP 126 = true := by decide +kernel
set_option maxRecDepth 100000 in
theorem mkI_126 : mchkMI 126 = true := by decide +kernel
set_option maxRecDepth 100000 in
theorem mkD_126 : mchkD 126 = true := by decide +kernel
set_option maxRecDepth 100000 in
theorem mkP_127 : mchkP 127 = true := by decide +kernel
set_option maxRecDepth 100000 in
theorem mkI_127 : mchkMI 127 = true := by decide +kernel
set_option maxRecDepth 100000 in
theorem mkD_127 : mchkD 127 = true := by decide +kernel
set_option maxRecDepth 100000 in
theorem mkP_128 : mchkP 128 = true := by decide +kernel
set_option maxRecDepth 100000 in
theorem mkI_128 : mchkMI 128 = true := by decide +kernel
set_option maxRecDepth 100000 in
theorem mkD_128 : mchkD 128 = true := by decide +kernel
set_option maxRecDepth 100000 in
theorem mkP_129 : mchkP 129 = true := by decide +kernel
set_option maxRecDepth 100000 in
theorem mkI_129 : mchkMI 129 = true := by decide +kernel
set_option maxRecDepth 100000 in
theorem mkD_129 : mchkD 129 = true := by decide +kernel
set_option maxRecDepth 100000 in
theorem mkP_130 : mchkP 130 = true := by decide +kernel
set_option maxRecDepth 100000 in
theorem mkI_130 : mchkMI 130 = true := by decide +kernel
set_option maxRecDepth 100000 in
theorem mkD_130 : mchkD 130 = true := by decide +kernel
set_option maxRecDepth 100000 in
theorem mkP_131 : mchkP 131 = true := by decide +kernel
set_option maxRecDepth 100000 in
theorem mkI_131 : mchkMI 131 = true := by decide +kernel
set_option maxRecDepth 100000 in
theorem mkD_131 : mchkD 131 = true := by decide +kernel
set_option maxRecDepth 100000 in
theorem mkP_132 : mchkP 132 = true := by decide +kernel
set_option maxRecDepth 100000 in
theorem mkI_132 : mchkMI 132 = true := by decide +kernel
set_option maxRecDepth 100000 in
theorem mkD_132 : mchkD 132 = true := by decide +kernel
set_option maxRecDepth 100000 in
theorem mkP_133 : mchkP 133 = true := by decide +kernel
set_option maxRecDepth 100000 in
theorem mkI_133 : mchkMI 133 = true := by decide +kernel
set_option maxRecDepth 100000 in
theorem mkD_133 : mchkD 133 = true := by decide +kernel
set_option maxRecDepth 100000 in
theorem mkP_134 : mchkP 134 = true := by decide +kernel
set_option maxRecDepth 100000 in
theorem mkI_134 : mchkMI 134 = true := by decide +kernel
set_option maxRecDepth 100000 in
theorem mkD_134 : mchkD 134 = true := by decide +kernel
set_option maxRecDepth 100000 in
theorem mkP_135 : mchkP 135 = true := by decide +kernel
set_option maxRecDepth 100000 in
theorem mkI_135 : mchkMI 135 = true := by decide +kernel
set_option maxRecDepth 100000 in
theorem mkD_135 : mchkD 135 = true := by decide +kernel
set_option maxRecDepth 100000 in
theorem mkP_136 : mchkP 136 = true := by decide +kernel
set_option maxRecDepth 100000 in
theorem mkI_136 : mchkMI 136 = true := by decide +kernel
set_option maxRecDepth 100000 in
theorem mkD_136 : mchkD 136 = true := by decide +kernel
set_option maxRecDepth 100000 in
theorem mkP_137 : mchkP 137 = true := by decide +kernel
set_option maxRecDepth 100000 in
theorem mkI_137 : mchkMI 137 = true := by decide +kernel
set_option maxRecDepth 100000 in
theorem mkD_137 : mchkD 137 = true := by decide +kernel
set_option maxRecDepth 100000 in
theorem mkP_138 : mchkP 138 = true := by decide +kernel
set_option maxRecDepth 100000 in
theorem mkI_138 : mchkMI 138 = true := by decide +kernel
set_option maxRecDepth 100000 in
theorem mkD_138 : mchkD 138 = true := by decide +kernel
set_option maxRecDepth 100000 in
theorem mkP_139 : mchkP 139 = true := by decide +kernel
set_option maxRecDepth 100000 in
theorem mkI_139 : mchkMI 139 = true := by decide +kernel
set_option maxRecDepth 100000 in
theorem mkD_139 : mchkD 139 = true := by decide +kernel
set_option maxRecDepth 100000 in
theorem mkP_140 : mchkP 140 = true := by decide +kernel
set_option maxRecDepth 100000 in
theorem mkI_140 : mchkMI 140 = true := by decide +kernel
set_option maxRecDepth 100000 in
theorem mkD_140 : mchkD 140 = true := by decide +kernel
set_option maxRecDepth 100000 in
theorem mkP_141 : mchkP 141 = true := by decide +kernel
set_option maxRecDepth 100000 in
theorem mkI_141 : mchkMI 141 = true := by decide +kernel
set_option maxRecDepth 100000 in
theorem mkD_141 : mchkD 141 = true := by decide +kernel
set_option maxRecDepth 100000 in
theorem mkP_142 : mchkP 142 = true := by decide +kernel
set_option maxRecDepth 100000 in
theorem mkI_142 : mchkMI 142 = true := by decide +kernel
set_option maxRecDepth 100000 in
theorem mkD_142 : mchkD 142 = true := by decide +kernel
set_option maxRecDepth 100000 in
theorem mkP_143 : mchkP 143 = true := by decide +kernel
set_option maxRecDepth 100000 in
theorem mkI_143 : mchkMI 143 = true := by decide +kernel
set_option maxRecDepth 100000 in
theorem mkD_143 : mchkD 143 = true := by decide +kernel
set_option maxRecDepth 100000 in
theorem mkP_144 : mchkP 144 = true := by decide +kernel
set_option maxRecDepth 100000 in
theorem mkI_144 : mchkMI 144 = true := by decide +kernel
set_option maxRecDepth 100000 in
theorem mkD_144 : mchkD 144 = true := by decide +kernel
set_option maxRecDepth 100000 in
theorem mkP_145 : mchkP 145 = true := by decide +kernel
set_option maxRecDepth 100000 in
theorem mkI_145 : mchkMI 145 = true := by decide +kernel
set_option maxRecDepth 100000 in
theorem mkD_145 : mchkD 145 = true := by decide +kernel
set_option maxRecDepth 100000 in
theorem mkP_146 : mchkP 146 = true := by decide +kernel
set_option maxRecDepth 100000 in
theorem mkI_146 : mchkMI 146 = true := by decide +kernel
set_option maxRecDepth 100000 in
theorem mkD_146 : mchkD 146 = true := by decide +kernel
set_option maxRecDepth 100000 in
theorem mkP_147 : mchkP 147 = true := by decide +kernel
set_option maxRecDepth 100000 in
theorem mkI_147 : mchkMI 147 = true := by decide +kernel
set_option maxRecDepth 100000 in
theorem mkD_147 : mchkD 147 = true := by decide +kernel
set_option maxRecDepth 100000 in
theorem mkP_148 : mchkP 148 = true := by decide +kernel
set_option maxRecDepth 100000 in
theorem mkI_148 : mchkMI 148 = true := by decide +kernel
set_option maxRecDepth 100000 in
theorem mkD_148 : mchkD 148 = true := by decide +kernel
set_option maxRecDepth 100000 in
theorem mkP_149 : mchkP 149 = true := by decide +kernel
set_option maxRecDepth 100000 in
theorem mkI_149 : mchkMI 149 = true := by decide +kernel
set_option maxRecDepth 100000 in
theorem mkD_149 : mchkD 149 = true := by decide +kernel
set_option maxRecDepth 100000 in
theorem mkP_150 : mchkP 150 = true := by decide +kernel
set_option maxRecDepth 100000 in
theorem mkI_150 : mchkMI 150 = true := by decide +kernel
set_option maxRecDepth 100000 in
theorem mkD_150 : mchkD 150 = true := by decide +kernel
set_option maxRecDepth 100000 in
theorem mkP_151 : mchkP 151 = true := by decide +kernel
set_option maxRecDepth 100000 in
theorem mkI_151 : mchkMI 151 = true := by decide +kernel
set_option maxRecDepth 100000 in
theorem mkD_151 : mchkD 151 = true := by decide +kernel
set_option maxRecDepth 100000 in
theorem mkP_152 : mchkP 152 = true := by decide +kernel
set_option maxRecDepth 100000 in
theorem mkI_152 : mchkMI 152 = true := by decide +kernel
set_option maxRecDepth 100000 in
theorem mkD_152 : mchkD 152 = true := by decide +kernel
set_option maxRecDepth 100000 in
theorem mkP_153 : mchkP 153 = true := by decide +kernel
set_option maxRecDepth 100000 in
theorem mkI_153 : mchkMI 153 = true := by decide +kernel
def mLrow : mMth := (yL_law, cL_law, 9, (some .boolean), RL, 18, 406)
theorem mL_row : mmeth 153 = some mLrow := by rfl
set_option maxRecDepth 100000 in
theorem mkD_153_0 : (((mcode 153).drop (64 * 0)).take 64).all (mdecO mLrow) = true := by decide +kernel
set_option maxRecDepth 100000 in
theorem mkD_153_1 : (((mcode 153).drop (64 * 1)).take 64).all (mdecO mLrow) = true := by decide +kernel
set_option maxRecDepth 100000 in
theorem mkD_153_2 : (((mcode 153).drop (64 * 2)).take 64).all (mdecO mLrow) = true := by decide +kernel
set_option maxRecDepth 100000 in
theorem mkD_153_3 : (((mcode 153).drop (64 * 3)).take 64).all (mdecO mLrow) = true := by decide +kernel
set_option maxRecDepth 100000 in
theorem mkD_153_4 : (((mcode 153).drop (64 * 4)).take 64).all (mdecO mLrow) = true := by decide +kernel
set_option maxRecDepth 100000 in
theorem mkD_153_5 : (((mcode 153).drop (64 * 5)).take 64).all (mdecO mLrow) = true := by decide +kernel
set_option maxRecDepth 100000 in
theorem mkD_153_6 : (((mcode 153).drop (64 * 6)).take 64).all (mdecO mLrow) = true := by decide +kernel
set_option maxRecDepth 100000 in
theorem mkD_153_7 : (((mcode 153).drop (64 * 7)).take 64).all (mdecO mLrow) = true := by decide +kernel
set_option maxRecDepth 100000 in
theorem mkD_153_8 : (((mcode 153).drop (64 * 8)).take 64).all (mdecO mLrow) = true := by decide +kernel
set_option maxRecDepth 100000 in
theorem mkD_153_9 : (((mcode 153).drop (64 * 9)).take 64).all (mdecO mLrow) = true := by decide +kernel
set_option maxRecDepth 100000 in
theorem mkD_153_10 : (((mcode 153).drop (64 * 10)).take 64).all (mdecO mLrow) = true := by decide +kernel
set_option maxRecDepth 100000 in
theorem mkD_153_11 : (((mcode 153).drop (64 * 11)).take 64).all (mdecO mLrow) = true := by decide +kernel
set_option maxRecDepth 100000 in
theorem mkD_153_12 : (((mcode 153).drop (64 * 12)).take 64).all (mdecO mLrow) = true := by decide +kernel
set_option maxRecDepth 100000 in
theorem mkD_153_13 : (((mcode 153).drop (64 * 13)).take 64).all (mdecO mLrow) = true := by decide +kernel
set_option maxRecDepth 100000 in
theorem mkD_153_14 : (((mcode 153).drop (64 * 14)).take 64).all (mdecO mLrow) = true := by decide +kernel
set_option maxRecDepth 100000 in
theorem mkD_153_15 : (((mcode 153).drop (64 * 15)).take 64).all (mdecO mLrow) = true := by decide +kernel
theorem mkD_153 : mchkD 153 = true := by
  have h1 := mk_chunks (mdecO mLrow) (mcode 153) 16 (lt_s (lt_s (lt_s (lt_s (lt_s (lt_s (lt_s (lt_s (lt_s (lt_s (lt_s (lt_s (lt_s (lt_s (lt_s (lt_s (lt_0) mkD_153_0) mkD_153_1) mkD_153_2) mkD_153_3) mkD_153_4) mkD_153_5) mkD_153_6) mkD_153_7) mkD_153_8) mkD_153_9) mkD_153_10) mkD_153_11) mkD_153_12) mkD_153_13) mkD_153_14) mkD_153_15)
  rw [List.take_of_length_le (by decide +kernel)] at h1
  unfold mchkD
  rw [mL_row]
  exact h1
set_option maxRecDepth 100000 in
theorem mkP_154 : mchkP 154 = true := by decide +kernel
set_option maxRecDepth 100000 in
theorem mkI_154 : mchkMI 154 = true := by decide +kernel
set_option maxRecDepth 100000 in
theorem mkD_154 : mchkD 154 = true := by decide +kernel
set_option maxRecDepth 100000 in
theorem mkP_155 : mchkP 155 = true := by decide +kernel
set_option maxRecDepth 100000 in
theorem mkI_155 : mchkMI 155 = true := by decide +kernel
set_option maxRecDepth 100000 in
theorem mkD_155 : mchkD 155 = true := by decide +kernel
set_option maxRecDepth 100000 in
theorem mkP_156 : mchkP 156 = true := by decide +kernel
set_option maxRecDepth 100000 in
theorem mkI_156 : mchkMI 156 = true := by decide +kernel
set_option maxRecDepth 100000 in
theorem mkD_156 : mchkD 156 = true := by decide +kernel
set_option maxRecDepth 100000 in
theorem mkP_157 : mchkP 157 = true := by decide +kernel
set_option maxRecDepth 100000 in
theorem mkI_157 : mchkMI 157 = true := by decide +kernel
set_option maxRecDepth 100000 in
theorem mkD_157 : mchkD 157 = true := by decide +kernel
set_option maxRecDepth 100000 in
theorem mkP_158 : mchkP 158 = true := by decide +kernel
set_option maxRecDepth 100000 in
theorem mkI_158 : mchkMI 158 = true := by decide +kernel
set_option maxRecDepth 100000 in
theorem mkD_158 : mchkD 158 = true := by decide +kernel
set_option maxRecDepth 100000 in
theorem mkP_159 : mchkP 159 = true := by decide +kernel
set_option maxRecDepth 100000 in
theorem mkI_159 : mchkMI 159 = true := by decide +kernel
set_option maxRecDepth 100000 in
theorem mkD_159 : mchkD 159 = true := by decide +kernel
set_option maxRecDepth 100000 in
theorem mkP_160 : mchkP 160 = true := by decide +kernel
set_option maxRecDepth 100000 in
theorem mkI_160 : mchkMI 160 = true := by decide +kernel
set_option maxRecDepth 100000 in
theorem mkD_160 : mchkD 160 = true := by decide +kernel
set_option maxRecDepth 100000 in
theorem mkP_161 : mchkP 161 = true := by decide +kernel
set_option maxRecDepth 100000 in
theorem mkI_161 : mchkMI 161 = true := by decide +kernel
set_option maxRecDepth 100000 in
theorem mkD_161 : mchkD 161 = true := by decide +kernel
set_option maxRecDepth 100000 in
theorem mkP_162 : mchkP 162 = true := by decide +kernel
set_option maxRecDepth 100000 in
theorem mkI_162 : mchkMI 162 = true := by decide +kernel
set_option maxRecDepth 100000 in
theorem mkD_162 : mchkD 162 = true := by decide +kernel
theorem mkP_to20 : ∀ k, k < 20 → mchkP k = true := lt_s (lt_s (lt_s (lt_s (lt_s (lt_s (lt_s (lt_s (lt_s (lt_s (lt_s (lt_s (lt_s (lt_s (lt_s (lt_s (lt_s (lt_s (lt_s (lt_s (lt_0) mkP_0) mkP_1) mkP_2) mkP_3) mkP_4) mkP_5) mkP_6) mkP_7) mkP_8) mkP_9) mkP_10) mkP_11) mkP_12) mkP_13) mkP_14) mkP_15) mkP_16) mkP_17) mkP_18) mkP_19
theorem mkP_to40 : ∀ k, k < 40 → mchkP k = true := lt_s (lt_s (lt_s (lt_s (lt_s (lt_s (lt_s (lt_s (lt_s (lt_s (lt_s (lt_s (lt_s (lt_s (lt_s (lt_s (lt_s (lt_s (lt_s (lt_s (mkP_to20) mkP_20) mkP_21) mkP_22) mkP_23) mkP_24) mkP_25) mkP_26) mkP_27) mkP_28) mkP_29) mkP_30) mkP_31) mkP_32) mkP_33) mkP_34) mkP_35) mkP_36) mkP_37) mkP_38) mkP_39
theorem mkP_to60 : ∀ k, k < 60 → mchkP k = true := lt_s (lt_s (lt_s (lt_s (lt_s (lt_s (lt_s (lt_s (lt_s (lt_s (lt_s (lt_s (lt_s (lt_s (lt_s (lt_s (lt_s (lt_s (lt_s (lt_s (mkP_to40) mkP_40) mkP_41) mkP_42) mkP_43) mkP_44) mkP_45) mkP_46) mkP_47) mkP_48) mkP_49) mkP_50) mkP_51) mkP_52) mkP_53) mkP_54) mkP_55) mkP_56) mkP_57) mkP_58) mkP_59
theorem mkP_to80 : ∀ k, k < 80 → mchkP k = true := lt_s (lt_s (lt_s (lt_s (lt_s (lt_s (lt_s (lt_s (lt_s (lt_s (lt_s (lt_s (lt_s (lt_s (lt_s (lt_s (lt_s (lt_s (lt_s (lt_s (mkP_to60) mkP_60) mkP_61) mkP_62) mkP_63) mkP_64) mkP_65) mkP_66) mkP_67) mkP_68) mkP_69) mkP_70) mkP_71) mkP_72) mkP_73) mkP_74) mkP_75) mkP_76) mkP_77) mkP_78) mkP_79
theorem mkP_to100 : ∀ k, k < 100 → mchkP k = true := lt_s (lt_s (lt_s (lt_s (lt_s (lt_s (lt_s (lt_s (lt_s (lt_s (lt_s (lt_s (lt_s (lt_s (lt_s (lt_s (lt_s (lt_s (lt_s (lt_s (mkP_to80) mkP_80) mkP_81) mkP_82) mkP_83) mkP_84) mkP_85) mkP_86) mkP_87) mkP_88) mkP_89) mkP_90) mkP_91) mkP_92) mkP_93) mkP_94) mkP_95) mkP_96) mkP_97) mkP_98) mkP_99
theorem mkP_to120 : ∀ k, k < 120 → mchkP k = true := lt_s (lt_s (lt_s (lt_s (lt_s (lt_s (lt_s (lt_s (lt_s (lt_s (lt_s (lt_s (lt_s (lt_s (lt_s (lt_s (lt_s (lt_s (lt_s (lt_s (mkP_to100) mkP_100) mkP_101) mkP_102) mkP_103) mkP_104) mkP_105) mkP_106) mkP_107) mkP_108) mkP_109) mkP_110) mkP_111) mkP_112) mkP_113) mkP_114) mkP_115) mkP_116) mkP_117) mkP_118) mkP_119
theorem mkP_to140 : ∀ k, k < 140 → mchkP k = true := lt_s (lt_s (lt_s (lt_s (lt_s (lt_s (lt_s (lt_s (lt_s (lt_s (lt_s (lt_s (lt_s (lt_s (lt_s (lt_s (lt_s (lt_s (lt_s (lt_s (mkP_to120) mkP_120) mkP_121) mkP_122) mkP_123) mkP_124) mkP_125) mkP_126) mkP_127) mkP_128) mkP_129) mkP_130) mkP_131) mkP_132) mkP_133) mkP_134) mkP_135) mkP_136) mkP_137) mkP_138) mkP_139
theorem mkP_to160 : ∀ k, k < 160 → mchkP k = true := lt_s (lt_s (lt_s (lt_s (lt_s (lt_s (lt_s (lt_s (lt_s (lt_s (lt_s (lt_s (lt_s (lt_s (lt_s (lt_s (lt_s (lt_s (lt_s (lt_s (mkP_to140) mkP_140) mkP_141) mkP_142) mkP_143) mkP_144) mkP_145) mkP_146) mkP_147) mkP_148) mkP_149) mkP_150) mkP_151) mkP_152) mkP_153) mkP_154) mkP_155) mkP_156) mkP_157) mkP_158) mkP_159
theorem mkP_to163 : ∀ k, k < 163 → mchkP k = true := lt_s (lt_s (lt_s (mkP_to160) mkP_160) mkP_161) mkP_162
theorem mkP_all {k : Nat} {y : mMth} (h : mmeth k = some y) : mchkP k = true := mkP_to163 k (Nat.lt_of_lt_of_le (List.getElem?_eq_some_iff.mp h).1 (by decide +kernel))
theorem mkI_to20 : ∀ k, k < 20 → mchkMI k = true := lt_s (lt_s (lt_s (lt_s (lt_s (lt_s (lt_s (lt_s (lt_s (lt_s (lt_s (lt_s (lt_s (lt_s (lt_s (lt_s (lt_s (lt_s (lt_s (lt_s (lt_0) mkI_0) mkI_1) mkI_2) mkI_3) mkI_4) mkI_5) mkI_6) mkI_7) mkI_8) mkI_9) mkI_10) mkI_11) mkI_12) mkI_13) mkI_14) mkI_15) mkI_16) mkI_17) mkI_18) mkI_19
theorem mkI_to40 : ∀ k, k < 40 → mchkMI k = true := lt_s (lt_s (lt_s (lt_s (lt_s (lt_s (lt_s (lt_s (lt_s (lt_s (lt_s (lt_s (lt_s (lt_s (lt_s (lt_s (lt_s (lt_s (lt_s (lt_s (mkI_to20) mkI_20) mkI_21) mkI_22) mkI_23) mkI_24) mkI_25) mkI_26) mkI_27) mkI_28) mkI_29) mkI_30) mkI_31) mkI_32) mkI_33) mkI_34) mkI_35) mkI_36) mkI_37) mkI_38) mkI_39
theorem mkI_to60 : ∀ k, k < 60 → mchkMI k = true := lt_s (lt_s (lt_s (lt_s (lt_s (lt_s (lt_s (lt_s (lt_s (lt_s (lt_s (lt_s (lt_s (lt_s (lt_s (lt_s (lt_s (lt_s (lt_s (lt_s (mkI_to40) mkI_40) mkI_41) mkI_42) mkI_43) mkI_44) mkI_45) mkI_46) mkI_47) mkI_48) mkI_49) mkI_50) mkI_51) mkI_52) mkI_53) mkI_54) mkI_55) mkI_56) mkI_57) mkI_58) mkI_59
theorem mkI_to80 : ∀ k, k < 80 → mchkMI k = true := lt_s (lt_s (lt_s (lt_s (lt_s (lt_s (lt_s (lt_s (lt_s (lt_s (lt_s (lt_s (lt_s (lt_s (lt_s (lt_s (lt_s (lt_s (lt_s (lt_s (mkI_to60) mkI_60) mkI_61) mkI_62) mkI_63) mkI_64) mkI_65) mkI_66) mkI_67) mkI_68) mkI_69) mkI_70) mkI_71) mkI_72) mkI_73) mkI_74) mkI_75) mkI_76) mkI_77) mkI_78) mkI_79
theorem mkI_to100 : ∀ k, k < 100 → mchkMI k = true := lt_s (lt_s (lt_s (lt_s (lt_s (lt_s (lt_s (lt_s (lt_s (lt_s (lt_s (lt_s (lt_s (lt_s (lt_s (lt_s (lt_s (lt_s (lt_s (lt_s (mkI_to80) mkI_80) mkI_81) mkI_82) mkI_83) mkI_84) mkI_85) mkI_86) mkI_87) mkI_88) mkI_89) mkI_90) mkI_91) mkI_92) mkI_93) mkI_94) mkI_95) mkI_96) mkI_97) mkI_98) mkI_99
theorem mkI_to120 : ∀ k, k < 120 → mchkMI k = true := lt_s (lt_s (lt_s (lt_s (lt_s (lt_s (lt_s (lt_s (lt_s (lt_s (lt_s (lt_s (lt_s (lt_s (lt_s (lt_s (lt_s (lt_s (lt_s (lt_s (mkI_to100) mkI_100) mkI_101) mkI_102) mkI_103) mkI_104) mkI_105) mkI_106) mkI_107) mkI_108) mkI_109) mkI_110) mkI_111) mkI_112) mkI_113) mkI_114) mkI_115) mkI_116) mkI_117) mkI_118) mkI_119
theorem mkI_to140 : ∀ k, k < 140 → mchkMI k = true := lt_s (lt_s (lt_s (lt_s (lt_s (lt_s (lt_s (lt_s (lt_s (lt_s (lt_s (lt_s (lt_s (lt_s (lt_s (lt_s (lt_s (lt_s (lt_s (lt_s (mkI_to120) mkI_120) mkI_121) mkI_122) mkI_123) mkI_124) mkI_125) mkI_126) mkI_127) mkI_128) mkI_129) mkI_130) mkI_131) mkI_132) mkI_133) mkI_134) mkI_135) mkI_136) mkI_137) mkI_138) mkI_139
theorem mkI_to160 : ∀ k, k < 160 → mchkMI k = true := lt_s (lt_s (lt_s (lt_s (lt_s (lt_s (lt_s (lt_s (lt_s (lt_s (lt_s (lt_s (lt_s (lt_s (lt_s (lt_s (lt_s (lt_s (lt_s (lt_s (mkI_to140) mkI_140) mkI_141) mkI_142) mkI_143) mkI_144) mkI_145) mkI_146) mkI_147) mkI_148) mkI_149) mkI_150) mkI_151) mkI_152) mkI_153) mkI_154) mkI_155) mkI_156) mkI_157) mkI_158) mkI_159
theorem mkI_to163 : ∀ k, k < 163 → mchkMI k = true := lt_s (lt_s (lt_s (mkI_to160) mkI_160) mkI_161) mkI_162
theorem mkI_all {k : Nat} {y : mMth} (h : mmeth k = some y) : mchkMI k = true := mkI_to163 k (Nat.lt_of_lt_of_le (List.getElem?_eq_some_iff.mp h).1 (by decide +kernel))
theorem mkD_to20 : ∀ k, k < 20 → mchkD k = true := lt_s (lt_s (lt_s (lt_s (lt_s (lt_s (lt_s (lt_s (lt_s (lt_s (lt_s (lt_s (lt_s (lt_s (lt_s (lt_s (lt_s (lt_s (lt_s (lt_s (lt_0) mkD_0) mkD_1) mkD_2) mkD_3) mkD_4) mkD_5) mkD_6) mkD_7) mkD_8) mkD_9) mkD_10) mkD_11) mkD_12) mkD_13) mkD_14) mkD_15) mkD_16) mkD_17) mkD_18) mkD_19
theorem mkD_to40 : ∀ k, k < 40 → mchkD k = true := lt_s (lt_s (lt_s (lt_s (lt_s (lt_s (lt_s (lt_s (lt_s (lt_s (lt_s (lt_s (lt_s (lt_s (lt_s (lt_s (lt_s (lt_s (lt_s (lt_s (mkD_to20) mkD_20) mkD_21) mkD_22) mkD_23) mkD_24) mkD_25) mkD_26) mkD_27) mkD_28) mkD_29) mkD_30) mkD_31) mkD_32) mkD_33) mkD_34) mkD_35) mkD_36) mkD_37) mkD_38) mkD_39
theorem mkD_to60 : ∀ k, k < 60 → mchkD k = true := lt_s (lt_s (lt_s (lt_s (lt_s (lt_s (lt_s (lt_s (lt_s (lt_s (lt_s (lt_s (lt_s (lt_s (lt_s (lt_s (lt_s (lt_s (lt_s (lt_s (mkD_to40) mkD_40) mkD_41) mkD_42) mkD_43) mkD_44) mkD_45) mkD_46) mkD_47) mkD_48) mkD_49) mkD_50) mkD_51) mkD_52) mkD_53) mkD_54) mkD_55) mkD_56) mkD_57) mkD_58) mkD_59
theorem mkD_to80 : ∀ k, k < 80 → mchkD k = true := lt_s (lt_s (lt_s (lt_s (lt_s (lt_s (lt_s (lt_s (lt_s (lt_s (lt_s (lt_s (lt_s (lt_s (lt_s (lt_s (lt_s (lt_s (lt_s (lt_s (mkD_to60) mkD_60) mkD_61) mkD_62) mkD_63) mkD_64) mkD_65) mkD_66) mkD_67) mkD_68) mkD_69) mkD_70) mkD_71) mkD_72) mkD_73) mkD_74) mkD_75) mkD_76) mkD_77) mkD_78) mkD_79
theorem mkD_to100 : ∀ k, k < 100 → mchkD k = true := lt_s (lt_s (lt_s (lt_s (lt_s (lt_s (lt_s (lt_s (lt_s (lt_s (lt_s (lt_s (lt_s (lt_s (lt_s (lt_s (lt_s (lt_s (lt_s (lt_s (mkD_to80) mkD_80) mkD_81) mkD_82) mkD_83) mkD_84) mkD_85) mkD_86) mkD_87) mkD_88) mkD_89) mkD_90) mkD_91) mkD_92) mkD_93) mkD_94) mkD_95) mkD_96) mkD_97) mkD_98) mkD_99
theorem mkD_to120 : ∀ k, k < 120 → mchkD k = true := lt_s (lt_s (lt_s (lt_s (lt_s (lt_s (lt_s (lt_s (lt_s (lt_s (lt_s (lt_s (lt_s (lt_s (lt_s (lt_s (lt_s (lt_s (lt_s (lt_s (mkD_to100) mkD_100) mkD_101) mkD_102) mkD_103) mkD_104) mkD_105) mkD_106) mkD_107) mkD_108) mkD_109) mkD_110) mkD_111) mkD_112) mkD_113) mkD_114) mkD_115) mkD_116) mkD_117) mkD_118) mkD_119
theorem mkD_to140 : ∀ k, k < 140 → mchkD k = true := lt_s (lt_s (lt_s (lt_s (lt_s (lt_s (lt_s (lt_s (lt_s (lt_s (lt_s (lt_s (lt_s (lt_s (lt_s (lt_s (lt_s (lt_s (lt_s (lt_s (mkD_to120) mkD_120) mkD_121) mkD_122) mkD_123) mkD_124) mkD_125) mkD_126) mkD_127) mkD_128) mkD_129) mkD_130) mkD_131) mkD_132) mkD_133) mkD_134) mkD_135) mkD_136) mkD_137) mkD_138) mkD_139
theorem mkD_to160 : ∀ k, k < 160 → mchkD k = true := lt_s (lt_s (lt_s (lt_s (lt_s (lt_s (lt_s (lt_s (lt_s (lt_s (lt_s (lt_s (lt_s (lt_s (lt_s (lt_s (lt_s (lt_s (lt_s (lt_s (mkD_to140) mkD_140) mkD_141) mkD_142) mkD_143) mkD_144) mkD_145) mkD_146) mkD_147) mkD_148) mkD_149) mkD_150) mkD_151) mkD_152) mkD_153) mkD_154) mkD_155) mkD_156) mkD_157) mkD_158) mkD_159
theorem mkD_to163 : ∀ k, k < 163 → mchkD k = true := lt_s (lt_s (lt_s (mkD_to160) mkD_160) mkD_161) mkD_162
theorem mkD_all {k : Nat} {y : mMth} (h : mmeth k = some y) : mchkD k = true := mkD_to163 k (Nat.lt_of_lt_of_le (List.getElem?_eq_some_iff.mp h).1 (by decide +kernel))
