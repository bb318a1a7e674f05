/-! ===== each class: its fields' words, their types, that they are apart; that it can be made ===== -/
def mClP (ci : Nat) (r : vw_C) : Prop := (∀ w ∈ u_ws r.1 r.2.1 r.2.2, w ∈ mTBL) ∧ (∀ k, k < r.2.2 → parseFieldDescriptor (r.2.1 k).2.2.1 = some (mfty ci k)) ∧ (∀ a, a < r.2.2 → ∀ b, b < r.2.2 → a ≠ b → (r.2.1 a).2.1 ≠ (r.2.1 b).2.1) ∧ Cond.instantiable r.1 r.2.2 ∈ mTBL ∧ Cond.initialized r.1 ∈ mTBL
theorem mcl_ws {C : String} {T : u_T} {N : Nat} (h : (u_ws C T N).all (fun w => decide (w ∈ lw_tbl) && goodWord w) = true) : ∀ w ∈ u_ws C T N, w ∈ mTBL := by
  intro w hw
  have h1 := List.all_eq_true.mp h w hw
  simp only [Bool.and_eq_true, decide_eq_true_eq] at h1
  exact List.mem_filter.mpr h1
set_option maxRecDepth 100000 in
theorem mcl_0 : mClP 0 (RJ6, TJ6, 1) := ⟨mcl_ws (by decide +kernel), tyJ6_ok, nmJ6, mTBL_of (k := 1026) (by decide +kernel) rfl, mTBL_of (k := 77) (by decide +kernel) rfl⟩
set_option maxRecDepth 100000 in
theorem mcl_1 : mClP 1 (RJx4a65c, TJx4a65c, 3) := ⟨mcl_ws (by decide +kernel), tyJx4a65c_ok, nmJx4a65c, mTBL_of (k := 951) (by decide +kernel) rfl, mTBL_of (k := 70) (by decide +kernel) rfl⟩
set_option maxRecDepth 100000 in
theorem mcl_2 : mClP 2 (RX0, TX0, 4) := ⟨mcl_ws (by decide +kernel), tyX0_ok, nmX0, mTBL_of (k := 225) (by decide +kernel) rfl, mTBL_of (k := 66) (by decide +kernel) rfl⟩
set_option maxRecDepth 100000 in
theorem mcl_3 : mClP 3 (RX2, TX2, 1) := ⟨mcl_ws (by decide +kernel), tyX2_ok, nmX2, mTBL_of (k := 106) (by decide +kernel) rfl, mTBL_of (k := 62) (by decide +kernel) rfl⟩
set_option maxRecDepth 100000 in
theorem mcl_4 : mClP 4 (RX3, TX3, 14) := ⟨mcl_ws (by decide +kernel), tyX3_ok, nmX3, mTBL_of (k := 160) (by decide +kernel) rfl, mTBL_of (k := 65) (by decide +kernel) rfl⟩
set_option maxRecDepth 100000 in
theorem mcl_5 : mClP 5 (RX4, TX4, 13) := ⟨mcl_ws (by decide +kernel), tyX4_ok, nmX4, mTBL_of (k := 154) (by decide +kernel) rfl, mTBL_of (k := 64) (by decide +kernel) rfl⟩
set_option maxRecDepth 100000 in
theorem mcl_6 : mClP 6 (RX5, TX5, 2) := ⟨mcl_ws (by decide +kernel), tyX5_ok, nmX5, mTBL_of (k := 100) (by decide +kernel) rfl, mTBL_of (k := 61) (by decide +kernel) rfl⟩
set_option maxRecDepth 100000 in
theorem mcl_7 : mClP 7 (RX6, TX6, 3) := ⟨mcl_ws (by decide +kernel), tyX6_ok, nmX6, mTBL_of (k := 127) (by decide +kernel) rfl, mTBL_of (k := 63) (by decide +kernel) rfl⟩
set_option maxRecDepth 100000 in
theorem mcl_8 : mClP 8 (RX7, TX7, 7) := ⟨mcl_ws (by decide +kernel), tyX7_ok, nmX7, mTBL_of (k := 92) (by decide +kernel) rfl, mTBL_of (k := 60) (by decide +kernel) rfl⟩
set_option maxRecDepth 100000 in
theorem mcl_9 : mClP 9 (RX8, TX8, 3) := ⟨mcl_ws (by decide +kernel), tyX8_ok, nmX8, mTBL_of (k := 1248) (by decide +kernel) rfl, mTBL_of (k := 90) (by decide +kernel) rfl⟩
set_option maxRecDepth 100000 in
theorem mcl_10 : mClP 10 (RX9, TX9, 3) := ⟨mcl_ws (by decide +kernel), tyX9_ok, nmX9, mTBL_of (k := 1175) (by decide +kernel) rfl, mTBL_of (k := 86) (by decide +kernel) rfl⟩
set_option maxRecDepth 100000 in
theorem mcl_11 : mClP 11 (RX10, TX10, 2) := ⟨mcl_ws (by decide +kernel), tyX10_ok, nmX10, mTBL_of (k := 1202) (by decide +kernel) rfl, mTBL_of (k := 87) (by decide +kernel) rfl⟩
set_option maxRecDepth 100000 in
theorem mcl_12 : mClP 12 (RX11, TX11, 10) := ⟨mcl_ws (by decide +kernel), tyX11_ok, nmX11, mTBL_of (k := 1165) (by decide +kernel) rfl, mTBL_of (k := 85) (by decide +kernel) rfl⟩
set_option maxRecDepth 100000 in
theorem mcl_13 : mClP 13 (RX12, TX12, 5) := ⟨mcl_ws (by decide +kernel), tyX12_ok, nmX12, mTBL_of (k := 945) (by decide +kernel) rfl, mTBL_of (k := 67) (by decide +kernel) rfl⟩
theorem mCl_ok {ci : Nat} {r : vw_C} (h : mCl[ci]? = some r) : mClP ci r := by
  match ci, h with
  | 0, h => cases h; exact mcl_0
  | 1, h => cases h; exact mcl_1
  | 2, h => cases h; exact mcl_2
  | 3, h => cases h; exact mcl_3
  | 4, h => cases h; exact mcl_4
  | 5, h => cases h; exact mcl_5
  | 6, h => cases h; exact mcl_6
  | 7, h => cases h; exact mcl_7
  | 8, h => cases h; exact mcl_8
  | 9, h => cases h; exact mcl_9
  | 10, h => cases h; exact mcl_10
  | 11, h => cases h; exact mcl_11
  | 12, h => cases h; exact mcl_12
  | 13, h => cases h; exact mcl_13
  | k + 14, h => simp [mCl] at h
