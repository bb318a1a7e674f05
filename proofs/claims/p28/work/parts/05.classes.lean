/-! ===== each class: its fields' words, their types, that they are apart; that it can be made ===== -/
def mClP (ci : Nat) (r : vw_C) : Prop := (∀ w ∈ u_ws r.1 r.2.1 r.2.2, w ∈ mTBL) ∧ (∀ k, k < r.2.2 → parseFieldDescriptor (r.2.1 k).2.2.1 = some (mfty ci k)) ∧ (∀ a, a < r.2.2 → ∀ b, b < r.2.2 → a ≠ b → (r.2.1 a).2.1 ≠ (r.2.1 b).2.1) ∧ Cond.instantiable r.1 r.2.2 ∈ mTBL ∧ Cond.initialized r.1 ∈ mTBL
theorem mcl_ws {C : String} {T : u_T} {N : Nat} (h : (u_ws C T N).all (fun w => decide (w ∈ lw_tbl) && goodWord w) = true) : ∀ w ∈ u_ws C T N, w ∈ mTBL := by
  intro w hw
  have h1 := List.all_eq_true.mp h w hw
  simp only [Bool.and_eq_true, decide_eq_true_eq] at h1
  exact List.mem_filter.mpr h1
set_option maxRecDepth 100000 in
theorem mcl_0 : mClP 0 (RX0, TX0, 4) := ⟨mcl_ws (by decide +kernel), tyX0_ok, nmX0, mTBL_of (k := 180) (by decide +kernel) rfl, mTBL_of (k := 37) (by decide +kernel) rfl⟩
set_option maxRecDepth 100000 in
theorem mcl_1 : mClP 1 (RX2, TX2, 1) := ⟨mcl_ws (by decide +kernel), tyX2_ok, nmX2, mTBL_of (k := 61) (by decide +kernel) rfl, mTBL_of (k := 33) (by decide +kernel) rfl⟩
set_option maxRecDepth 100000 in
theorem mcl_2 : mClP 2 (RX3, TX3, 14) := ⟨mcl_ws (by decide +kernel), tyX3_ok, nmX3, mTBL_of (k := 115) (by decide +kernel) rfl, mTBL_of (k := 36) (by decide +kernel) rfl⟩
set_option maxRecDepth 100000 in
theorem mcl_3 : mClP 3 (RX4, TX4, 13) := ⟨mcl_ws (by decide +kernel), tyX4_ok, nmX4, mTBL_of (k := 109) (by decide +kernel) rfl, mTBL_of (k := 35) (by decide +kernel) rfl⟩
set_option maxRecDepth 100000 in
theorem mcl_4 : mClP 4 (RX5, TX5, 2) := ⟨mcl_ws (by decide +kernel), tyX5_ok, nmX5, mTBL_of (k := 55) (by decide +kernel) rfl, mTBL_of (k := 32) (by decide +kernel) rfl⟩
set_option maxRecDepth 100000 in
theorem mcl_5 : mClP 5 (RX6, TX6, 3) := ⟨mcl_ws (by decide +kernel), tyX6_ok, nmX6, mTBL_of (k := 82) (by decide +kernel) rfl, mTBL_of (k := 34) (by decide +kernel) rfl⟩
set_option maxRecDepth 100000 in
theorem mcl_6 : mClP 6 (RX7, TX7, 7) := ⟨mcl_ws (by decide +kernel), tyX7_ok, nmX7, mTBL_of (k := 47) (by decide +kernel) rfl, mTBL_of (k := 31) (by decide +kernel) rfl⟩
theorem mCl_ok {ci : Nat} {r : vw_C} (h : mCl[ci]? = some r) : mClP ci r := by
  match ci, h with
  | 0, h => cases h; exact mcl_0
  | 1, h => cases h; exact mcl_1
  | 2, h => cases h; exact mcl_2
  | 3, h => cases h; exact mcl_3
  | 4, h => cases h; exact mcl_4
  | 5, h => cases h; exact mcl_5
  | 6, h => cases h; exact mcl_6
  | k + 7, h => simp [mCl] at h
