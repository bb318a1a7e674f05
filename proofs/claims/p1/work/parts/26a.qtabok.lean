/-! ===== the abstract machine's table says what the small one's tables say ===== -/
def qkd (e : mIns) : Nat := match e.2.1 with
  | .invokestatic _ => 0
  | .invokespecial _ => 1
  | .invokevirtual _ => 2
  | _ => 9
def qrk (e : mIns) : Nat := match e.2.1 with
  | .ireturn => 0
  | .areturn => 1
  | .lreturn => 5
  | .dreturn => 6
  | .return_ => 9
  | .new _ => if e.2.2.2.1 = 995 then 46 else 99
  | _ => 99
def qgI (j x y z u v : Nat) (e : mIns) : Bool := match mPos[x]?, mmeth x with
  | some q, some k => decide (e.2.2.2.1 = x ∧ e.1 + 3 = y ∧ x ≤ 990 ∧ z = q.2.2.2.2.2 ∧ v / 64 = k.2.2.1 ∧ mfits j x = true) && (if u = 3 then decide (qkd e = 0 ∧ (mhof x).isSome = true ∧ e.2.2.1 = 0) else (if u = 0 then decide (qkd e = 0 ∧ q.1 ≠ 99999 ∧ q.2.2.2.2.1 = true ∧ e.2.2.1 ≤ 1 ∧ mhof x = none) else (if u = 1 then decide (qkd e = 1 ∧ q.1 ≠ 99999 ∧ q.2.2.2.2.1 = false ∧ k.1.name = "<init>" ∧ k.2.2.2.1 = none) else decide (u = 2 ∧ qkd e = 2 ∧ q.1 ≠ 99999 ∧ q.2.2.2.2.1 = false ∧ q.2.2.1 ≠ 99999 ∧ e.2.2.1 = 0 ∧ (mCl[v % 64]?).map (fun c => c.1) = some k.1.cls))))
  | _, _ => false
def qgR (v z : Nat) (e : mIns) (ty : Option FieldType) : Bool := decide (qrk e = z) && (if z = 0 then (if v = 0 then decide (ty = some .int) else decide (v = 1 ∧ ty = some .boolean)) else (if z = 1 then (match ty with
  | some (.object _) => true
  | some (.array _) => true
  | _ => false) else (if z = 5 then decide (ty = some .long) else (if z = 6 then decide (ty = some .double) else decide (z = 9 ∧ ty = none)))))
def qgS (op y v : Nat) (e : mIns) (r : mMth) : Bool := decide (e.1 + 3 = y ∧ 1 ≤ r.2.2.2.2.2.1 ∧ v = r.2.2.2.2.2.2) && (if op = 41 then decide (qkd e = 1 ∧ e.2.2.2.1 = 998) else (if op = 42 then decide (qkd e = 0 ∧ e.2.2.2.1 = 997 ∧ mMathPos.2.2.1 ≠ 99999) else decide (op = 43 ∧ qkd e = 0 ∧ e.2.2.2.1 = 996 ∧ mMathPos.1 ≠ 99999)))
def qgood (j pc : Nat) (i : qI) : Bool := match i, mmeth j with
  | (op, x, y, z, u, v, e), some r => decide (mlook (mcode j) pc = some e ∧ e.1 = pc) && (if op < 40 then decide (qenc e = (op, x, y, z, u) ∧ v = r.2.2.1) else (if op = 40 then qgI j x y z u v e else (if op ≤ 43 then qgS op y v e r else (if op = 45 then qgR v z e r.2.2.2.1 else decide (op = 46 ∧ qrk e = 46 ∧ e.2.2.2.2.1 = x)))))
  | _, _ => false
noncomputable def qok (j pc : Nat) : Bool := qif (Nat.beq (qtab0 j pc).1 99) true (qgood j pc (qtab0 j pc))
set_option maxRecDepth 100000 in
theorem qk_0_0 : (List.range 52).all (fun i => qok 0 (0 + i)) = true := by decide +kernel
theorem ql_0 : qtlen 0 = 52 := by decide +kernel
theorem qk_0 : ∀ pc, pc < qtlen 0 → qok 0 pc = true := fun pc h => by
  rw [ql_0] at h
  rcases Nat.lt_or_ge pc 52 with h0 | h0
  · have h1 := List.all_eq_true.mp qk_0_0 (pc - 0) (List.mem_range.mpr (by omega))
    rwa [show 0 + (pc - 0) = pc by omega] at h1
  omega
set_option maxRecDepth 100000 in
theorem qk_1_0 : (List.range 20).all (fun i => qok 1 (0 + i)) = true := by decide +kernel
theorem ql_1 : qtlen 1 = 20 := by decide +kernel
theorem qk_1 : ∀ pc, pc < qtlen 1 → qok 1 pc = true := fun pc h => by
  rw [ql_1] at h
  rcases Nat.lt_or_ge pc 20 with h0 | h0
  · have h1 := List.all_eq_true.mp qk_1_0 (pc - 0) (List.mem_range.mpr (by omega))
    rwa [show 0 + (pc - 0) = pc by omega] at h1
  omega
set_option maxRecDepth 100000 in
theorem qk_2_0 : (List.range 24).all (fun i => qok 2 (0 + i)) = true := by decide +kernel
theorem ql_2 : qtlen 2 = 24 := by decide +kernel
theorem qk_2 : ∀ pc, pc < qtlen 2 → qok 2 pc = true := fun pc h => by
  rw [ql_2] at h
  rcases Nat.lt_or_ge pc 24 with h0 | h0
  · have h1 := List.all_eq_true.mp qk_2_0 (pc - 0) (List.mem_range.mpr (by omega))
    rwa [show 0 + (pc - 0) = pc by omega] at h1
  omega
set_option maxRecDepth 100000 in
theorem qk_3_0 : (List.range 21).all (fun i => qok 3 (0 + i)) = true := by decide +kernel
theorem ql_3 : qtlen 3 = 21 := by decide +kernel
theorem qk_3 : ∀ pc, pc < qtlen 3 → qok 3 pc = true := fun pc h => by
  rw [ql_3] at h
  rcases Nat.lt_or_ge pc 21 with h0 | h0
  · have h1 := List.all_eq_true.mp qk_3_0 (pc - 0) (List.mem_range.mpr (by omega))
    rwa [show 0 + (pc - 0) = pc by omega] at h1
  omega
set_option maxRecDepth 100000 in
theorem qk_4_0 : (List.range 136).all (fun i => qok 4 (0 + i)) = true := by decide +kernel
theorem ql_4 : qtlen 4 = 136 := by decide +kernel
theorem qk_4 : ∀ pc, pc < qtlen 4 → qok 4 pc = true := fun pc h => by
  rw [ql_4] at h
  rcases Nat.lt_or_ge pc 136 with h0 | h0
  · have h1 := List.all_eq_true.mp qk_4_0 (pc - 0) (List.mem_range.mpr (by omega))
    rwa [show 0 + (pc - 0) = pc by omega] at h1
  omega
set_option maxRecDepth 100000 in
theorem qk_5_0 : (List.range 146).all (fun i => qok 5 (0 + i)) = true := by decide +kernel
theorem ql_5 : qtlen 5 = 146 := by decide +kernel
theorem qk_5 : ∀ pc, pc < qtlen 5 → qok 5 pc = true := fun pc h => by
  rw [ql_5] at h
  rcases Nat.lt_or_ge pc 146 with h0 | h0
  · have h1 := List.all_eq_true.mp qk_5_0 (pc - 0) (List.mem_range.mpr (by omega))
    rwa [show 0 + (pc - 0) = pc by omega] at h1
  omega
set_option maxRecDepth 100000 in
theorem qk_6_0 : (List.range 30).all (fun i => qok 6 (0 + i)) = true := by decide +kernel
theorem ql_6 : qtlen 6 = 30 := by decide +kernel
theorem qk_6 : ∀ pc, pc < qtlen 6 → qok 6 pc = true := fun pc h => by
  rw [ql_6] at h
  rcases Nat.lt_or_ge pc 30 with h0 | h0
  · have h1 := List.all_eq_true.mp qk_6_0 (pc - 0) (List.mem_range.mpr (by omega))
    rwa [show 0 + (pc - 0) = pc by omega] at h1
  omega
set_option maxRecDepth 100000 in
theorem qk_7_0 : (List.range 76).all (fun i => qok 7 (0 + i)) = true := by decide +kernel
theorem ql_7 : qtlen 7 = 76 := by decide +kernel
theorem qk_7 : ∀ pc, pc < qtlen 7 → qok 7 pc = true := fun pc h => by
  rw [ql_7] at h
  rcases Nat.lt_or_ge pc 76 with h0 | h0
  · have h1 := List.all_eq_true.mp qk_7_0 (pc - 0) (List.mem_range.mpr (by omega))
    rwa [show 0 + (pc - 0) = pc by omega] at h1
  omega
set_option maxRecDepth 100000 in
theorem qk_8_0 : (List.range 10).all (fun i => qok 8 (0 + i)) = true := by decide +kernel
theorem ql_8 : qtlen 8 = 10 := by decide +kernel
theorem qk_8 : ∀ pc, pc < qtlen 8 → qok 8 pc = true := fun pc h => by
  rw [ql_8] at h
  rcases Nat.lt_or_ge pc 10 with h0 | h0
  · have h1 := List.all_eq_true.mp qk_8_0 (pc - 0) (List.mem_range.mpr (by omega))
    rwa [show 0 + (pc - 0) = pc by omega] at h1
  omega
set_option maxRecDepth 100000 in
theorem qk_9_0 : (List.range 18).all (fun i => qok 9 (0 + i)) = true := by decide +kernel
theorem ql_9 : qtlen 9 = 18 := by decide +kernel
theorem qk_9 : ∀ pc, pc < qtlen 9 → qok 9 pc = true := fun pc h => by
  rw [ql_9] at h
  rcases Nat.lt_or_ge pc 18 with h0 | h0
  · have h1 := List.all_eq_true.mp qk_9_0 (pc - 0) (List.mem_range.mpr (by omega))
    rwa [show 0 + (pc - 0) = pc by omega] at h1
  omega
set_option maxRecDepth 100000 in
theorem qk_10_0 : (List.range 27).all (fun i => qok 10 (0 + i)) = true := by decide +kernel
theorem ql_10 : qtlen 10 = 27 := by decide +kernel
theorem qk_10 : ∀ pc, pc < qtlen 10 → qok 10 pc = true := fun pc h => by
  rw [ql_10] at h
  rcases Nat.lt_or_ge pc 27 with h0 | h0
  · have h1 := List.all_eq_true.mp qk_10_0 (pc - 0) (List.mem_range.mpr (by omega))
    rwa [show 0 + (pc - 0) = pc by omega] at h1
  omega
set_option maxRecDepth 100000 in
theorem qk_11_0 : (List.range 31).all (fun i => qok 11 (0 + i)) = true := by decide +kernel
theorem ql_11 : qtlen 11 = 31 := by decide +kernel
theorem qk_11 : ∀ pc, pc < qtlen 11 → qok 11 pc = true := fun pc h => by
  rw [ql_11] at h
  rcases Nat.lt_or_ge pc 31 with h0 | h0
  · have h1 := List.all_eq_true.mp qk_11_0 (pc - 0) (List.mem_range.mpr (by omega))
    rwa [show 0 + (pc - 0) = pc by omega] at h1
  omega
set_option maxRecDepth 100000 in
theorem qk_12_0 : (List.range 133).all (fun i => qok 12 (0 + i)) = true := by decide +kernel
theorem ql_12 : qtlen 12 = 133 := by decide +kernel
theorem qk_12 : ∀ pc, pc < qtlen 12 → qok 12 pc = true := fun pc h => by
  rw [ql_12] at h
  rcases Nat.lt_or_ge pc 133 with h0 | h0
  · have h1 := List.all_eq_true.mp qk_12_0 (pc - 0) (List.mem_range.mpr (by omega))
    rwa [show 0 + (pc - 0) = pc by omega] at h1
  omega
set_option maxRecDepth 100000 in
theorem qk_13_0 : (List.range 218).all (fun i => qok 13 (0 + i)) = true := by decide +kernel
theorem ql_13 : qtlen 13 = 218 := by decide +kernel
theorem qk_13 : ∀ pc, pc < qtlen 13 → qok 13 pc = true := fun pc h => by
  rw [ql_13] at h
  rcases Nat.lt_or_ge pc 218 with h0 | h0
  · have h1 := List.all_eq_true.mp qk_13_0 (pc - 0) (List.mem_range.mpr (by omega))
    rwa [show 0 + (pc - 0) = pc by omega] at h1
  omega
set_option maxRecDepth 100000 in
theorem qk_14_0 : (List.range 106).all (fun i => qok 14 (0 + i)) = true := by decide +kernel
theorem ql_14 : qtlen 14 = 106 := by decide +kernel
theorem qk_14 : ∀ pc, pc < qtlen 14 → qok 14 pc = true := fun pc h => by
  rw [ql_14] at h
  rcases Nat.lt_or_ge pc 106 with h0 | h0
  · have h1 := List.all_eq_true.mp qk_14_0 (pc - 0) (List.mem_range.mpr (by omega))
    rwa [show 0 + (pc - 0) = pc by omega] at h1
  omega
set_option maxRecDepth 100000 in
theorem qk_15_0 : (List.range 34).all (fun i => qok 15 (0 + i)) = true := by decide +kernel
theorem ql_15 : qtlen 15 = 34 := by decide +kernel
theorem qk_15 : ∀ pc, pc < qtlen 15 → qok 15 pc = true := fun pc h => by
  rw [ql_15] at h
  rcases Nat.lt_or_ge pc 34 with h0 | h0
  · have h1 := List.all_eq_true.mp qk_15_0 (pc - 0) (List.mem_range.mpr (by omega))
    rwa [show 0 + (pc - 0) = pc by omega] at h1
  omega
set_option maxRecDepth 100000 in
theorem qk_16_0 : (List.range 21).all (fun i => qok 16 (0 + i)) = true := by decide +kernel
theorem ql_16 : qtlen 16 = 21 := by decide +kernel
theorem qk_16 : ∀ pc, pc < qtlen 16 → qok 16 pc = true := fun pc h => by
  rw [ql_16] at h
  rcases Nat.lt_or_ge pc 21 with h0 | h0
  · have h1 := List.all_eq_true.mp qk_16_0 (pc - 0) (List.mem_range.mpr (by omega))
    rwa [show 0 + (pc - 0) = pc by omega] at h1
  omega
set_option maxRecDepth 100000 in
theorem qk_17_0 : (List.range 18).all (fun i => qok 17 (0 + i)) = true := by decide +kernel
theorem ql_17 : qtlen 17 = 18 := by decide +kernel
theorem qk_17 : ∀ pc, pc < qtlen 17 → qok 17 pc = true := fun pc h => by
  rw [ql_17] at h
  rcases Nat.lt_or_ge pc 18 with h0 | h0
  · have h1 := List.all_eq_true.mp qk_17_0 (pc - 0) (List.mem_range.mpr (by omega))
    rwa [show 0 + (pc - 0) = pc by omega] at h1
  omega
set_option maxRecDepth 100000 in
theorem qk_18_0 : (List.range 43).all (fun i => qok 18 (0 + i)) = true := by decide +kernel
theorem ql_18 : qtlen 18 = 43 := by decide +kernel
theorem qk_18 : ∀ pc, pc < qtlen 18 → qok 18 pc = true := fun pc h => by
  rw [ql_18] at h
  rcases Nat.lt_or_ge pc 43 with h0 | h0
  · have h1 := List.all_eq_true.mp qk_18_0 (pc - 0) (List.mem_range.mpr (by omega))
    rwa [show 0 + (pc - 0) = pc by omega] at h1
  omega
set_option maxRecDepth 100000 in
theorem qk_19_0 : (List.range 90).all (fun i => qok 19 (0 + i)) = true := by decide +kernel
theorem ql_19 : qtlen 19 = 90 := by decide +kernel
theorem qk_19 : ∀ pc, pc < qtlen 19 → qok 19 pc = true := fun pc h => by
  rw [ql_19] at h
  rcases Nat.lt_or_ge pc 90 with h0 | h0
  · have h1 := List.all_eq_true.mp qk_19_0 (pc - 0) (List.mem_range.mpr (by omega))
    rwa [show 0 + (pc - 0) = pc by omega] at h1
  omega
set_option maxRecDepth 100000 in
theorem qk_20_0 : (List.range 24).all (fun i => qok 20 (0 + i)) = true := by decide +kernel
theorem ql_20 : qtlen 20 = 24 := by decide +kernel
theorem qk_20 : ∀ pc, pc < qtlen 20 → qok 20 pc = true := fun pc h => by
  rw [ql_20] at h
  rcases Nat.lt_or_ge pc 24 with h0 | h0
  · have h1 := List.all_eq_true.mp qk_20_0 (pc - 0) (List.mem_range.mpr (by omega))
    rwa [show 0 + (pc - 0) = pc by omega] at h1
  omega
set_option maxRecDepth 100000 in
theorem qk_21_0 : (List.range 18).all (fun i => qok 21 (0 + i)) = true := by decide +kernel
theorem ql_21 : qtlen 21 = 18 := by decide +kernel
theorem qk_21 : ∀ pc, pc < qtlen 21 → qok 21 pc = true := fun pc h => by
  rw [ql_21] at h
  rcases Nat.lt_or_ge pc 18 with h0 | h0
  · have h1 := List.all_eq_true.mp qk_21_0 (pc - 0) (List.mem_range.mpr (by omega))
    rwa [show 0 + (pc - 0) = pc by omega] at h1
  omega
set_option maxRecDepth 100000 in
theorem qk_22_0 : (List.range 31).all (fun i => qok 22 (0 + i)) = true := by decide +kernel
theorem ql_22 : qtlen 22 = 31 := by decide +kernel
theorem qk_22 : ∀ pc, pc < qtlen 22 → qok 22 pc = true := fun pc h => by
  rw [ql_22] at h
  rcases Nat.lt_or_ge pc 31 with h0 | h0
  · have h1 := List.all_eq_true.mp qk_22_0 (pc - 0) (List.mem_range.mpr (by omega))
    rwa [show 0 + (pc - 0) = pc by omega] at h1
  omega
set_option maxRecDepth 100000 in
theorem qk_23_0 : (List.range 72).all (fun i => qok 23 (0 + i)) = true := by decide +kernel
theorem ql_23 : qtlen 23 = 72 := by decide +kernel
theorem qk_23 : ∀ pc, pc < qtlen 23 → qok 23 pc = true := fun pc h => by
  rw [ql_23] at h
  rcases Nat.lt_or_ge pc 72 with h0 | h0
  · have h1 := List.all_eq_true.mp qk_23_0 (pc - 0) (List.mem_range.mpr (by omega))
    rwa [show 0 + (pc - 0) = pc by omega] at h1
  omega
set_option maxRecDepth 100000 in
theorem qk_24_0 : (List.range 30).all (fun i => qok 24 (0 + i)) = true := by decide +kernel
theorem ql_24 : qtlen 24 = 30 := by decide +kernel
theorem qk_24 : ∀ pc, pc < qtlen 24 → qok 24 pc = true := fun pc h => by
  rw [ql_24] at h
  rcases Nat.lt_or_ge pc 30 with h0 | h0
  · have h1 := List.all_eq_true.mp qk_24_0 (pc - 0) (List.mem_range.mpr (by omega))
    rwa [show 0 + (pc - 0) = pc by omega] at h1
  omega
set_option maxRecDepth 100000 in
theorem qk_25_0 : (List.range 63).all (fun i => qok 25 (0 + i)) = true := by decide +kernel
theorem ql_25 : qtlen 25 = 63 := by decide +kernel
theorem qk_25 : ∀ pc, pc < qtlen 25 → qok 25 pc = true := fun pc h => by
  rw [ql_25] at h
  rcases Nat.lt_or_ge pc 63 with h0 | h0
  · have h1 := List.all_eq_true.mp qk_25_0 (pc - 0) (List.mem_range.mpr (by omega))
    rwa [show 0 + (pc - 0) = pc by omega] at h1
  omega
set_option maxRecDepth 100000 in
theorem qk_26_0 : (List.range 80).all (fun i => qok 26 (0 + i)) = true := by decide +kernel
theorem ql_26 : qtlen 26 = 80 := by decide +kernel
theorem qk_26 : ∀ pc, pc < qtlen 26 → qok 26 pc = true := fun pc h => by
  rw [ql_26] at h
  rcases Nat.lt_or_ge pc 80 with h0 | h0
  · have h1 := List.all_eq_true.mp qk_26_0 (pc - 0) (List.mem_range.mpr (by omega))
    rwa [show 0 + (pc - 0) = pc by omega] at h1
  omega
set_option maxRecDepth 100000 in
theorem qk_27_0 : (List.range 59).all (fun i => qok 27 (0 + i)) = true := by decide +kernel
theorem ql_27 : qtlen 27 = 59 := by decide +kernel
theorem qk_27 : ∀ pc, pc < qtlen 27 → qok 27 pc = true := fun pc h => by
  rw [ql_27] at h
  rcases Nat.lt_or_ge pc 59 with h0 | h0
  · have h1 := List.all_eq_true.mp qk_27_0 (pc - 0) (List.mem_range.mpr (by omega))
    rwa [show 0 + (pc - 0) = pc by omega] at h1
  omega
set_option maxRecDepth 100000 in
theorem qk_28_0 : (List.range 59).all (fun i => qok 28 (0 + i)) = true := by decide +kernel
theorem ql_28 : qtlen 28 = 59 := by decide +kernel
theorem qk_28 : ∀ pc, pc < qtlen 28 → qok 28 pc = true := fun pc h => by
  rw [ql_28] at h
  rcases Nat.lt_or_ge pc 59 with h0 | h0
  · have h1 := List.all_eq_true.mp qk_28_0 (pc - 0) (List.mem_range.mpr (by omega))
    rwa [show 0 + (pc - 0) = pc by omega] at h1
  omega
set_option maxRecDepth 100000 in
theorem qk_29_0 : (List.range 94).all (fun i => qok 29 (0 + i)) = true := by decide +kernel
theorem ql_29 : qtlen 29 = 94 := by decide +kernel
theorem qk_29 : ∀ pc, pc < qtlen 29 → qok 29 pc = true := fun pc h => by
  rw [ql_29] at h
  rcases Nat.lt_or_ge pc 94 with h0 | h0
  · have h1 := List.all_eq_true.mp qk_29_0 (pc - 0) (List.mem_range.mpr (by omega))
    rwa [show 0 + (pc - 0) = pc by omega] at h1
  omega
set_option maxRecDepth 100000 in
theorem qk_30_0 : (List.range 121).all (fun i => qok 30 (0 + i)) = true := by decide +kernel
theorem ql_30 : qtlen 30 = 121 := by decide +kernel
theorem qk_30 : ∀ pc, pc < qtlen 30 → qok 30 pc = true := fun pc h => by
  rw [ql_30] at h
  rcases Nat.lt_or_ge pc 121 with h0 | h0
  · have h1 := List.all_eq_true.mp qk_30_0 (pc - 0) (List.mem_range.mpr (by omega))
    rwa [show 0 + (pc - 0) = pc by omega] at h1
  omega
set_option maxRecDepth 100000 in
theorem qk_31_0 : (List.range 23).all (fun i => qok 31 (0 + i)) = true := by decide +kernel
theorem ql_31 : qtlen 31 = 23 := by decide +kernel
theorem qk_31 : ∀ pc, pc < qtlen 31 → qok 31 pc = true := fun pc h => by
  rw [ql_31] at h
  rcases Nat.lt_or_ge pc 23 with h0 | h0
  · have h1 := List.all_eq_true.mp qk_31_0 (pc - 0) (List.mem_range.mpr (by omega))
    rwa [show 0 + (pc - 0) = pc by omega] at h1
  omega
set_option maxRecDepth 100000 in
theorem qk_32_0 : (List.range 77).all (fun i => qok 32 (0 + i)) = true := by decide +kernel
theorem ql_32 : qtlen 32 = 77 := by decide +kernel
theorem qk_32 : ∀ pc, pc < qtlen 32 → qok 32 pc = true := fun pc h => by
  rw [ql_32] at h
  rcases Nat.lt_or_ge pc 77 with h0 | h0
  · have h1 := List.all_eq_true.mp qk_32_0 (pc - 0) (List.mem_range.mpr (by omega))
    rwa [show 0 + (pc - 0) = pc by omega] at h1
  omega
set_option maxRecDepth 100000 in
theorem qk_33_0 : (List.range 39).all (fun i => qok 33 (0 + i)) = true := by decide +kernel
theorem ql_33 : qtlen 33 = 39 := by decide +kernel
theorem qk_33 : ∀ pc, pc < qtlen 33 → qok 33 pc = true := fun pc h => by
  rw [ql_33] at h
  rcases Nat.lt_or_ge pc 39 with h0 | h0
  · have h1 := List.all_eq_true.mp qk_33_0 (pc - 0) (List.mem_range.mpr (by omega))
    rwa [show 0 + (pc - 0) = pc by omega] at h1
  omega
set_option maxRecDepth 100000 in
theorem qk_34_0 : (List.range 69).all (fun i => qok 34 (0 + i)) = true := by decide +kernel
theorem ql_34 : qtlen 34 = 69 := by decide +kernel
theorem qk_34 : ∀ pc, pc < qtlen 34 → qok 34 pc = true := fun pc h => by
  rw [ql_34] at h
  rcases Nat.lt_or_ge pc 69 with h0 | h0
  · have h1 := List.all_eq_true.mp qk_34_0 (pc - 0) (List.mem_range.mpr (by omega))
    rwa [show 0 + (pc - 0) = pc by omega] at h1
  omega
set_option maxRecDepth 100000 in
theorem qk_35_0 : (List.range 28).all (fun i => qok 35 (0 + i)) = true := by decide +kernel
theorem ql_35 : qtlen 35 = 28 := by decide +kernel
theorem qk_35 : ∀ pc, pc < qtlen 35 → qok 35 pc = true := fun pc h => by
  rw [ql_35] at h
  rcases Nat.lt_or_ge pc 28 with h0 | h0
  · have h1 := List.all_eq_true.mp qk_35_0 (pc - 0) (List.mem_range.mpr (by omega))
    rwa [show 0 + (pc - 0) = pc by omega] at h1
  omega
set_option maxRecDepth 100000 in
theorem qk_36_0 : (List.range 33).all (fun i => qok 36 (0 + i)) = true := by decide +kernel
theorem ql_36 : qtlen 36 = 33 := by decide +kernel
theorem qk_36 : ∀ pc, pc < qtlen 36 → qok 36 pc = true := fun pc h => by
  rw [ql_36] at h
  rcases Nat.lt_or_ge pc 33 with h0 | h0
  · have h1 := List.all_eq_true.mp qk_36_0 (pc - 0) (List.mem_range.mpr (by omega))
    rwa [show 0 + (pc - 0) = pc by omega] at h1
  omega
set_option maxRecDepth 100000 in
theorem qk_37_0 : (List.range 43).all (fun i => qok 37 (0 + i)) = true := by decide +kernel
theorem ql_37 : qtlen 37 = 43 := by decide +kernel
theorem qk_37 : ∀ pc, pc < qtlen 37 → qok 37 pc = true := fun pc h => by
  rw [ql_37] at h
  rcases Nat.lt_or_ge pc 43 with h0 | h0
  · have h1 := List.all_eq_true.mp qk_37_0 (pc - 0) (List.mem_range.mpr (by omega))
    rwa [show 0 + (pc - 0) = pc by omega] at h1
  omega
set_option maxRecDepth 100000 in
theorem qk_38_0 : (List.range 21).all (fun i => qok 38 (0 + i)) = true := by decide +kernel
theorem ql_38 : qtlen 38 = 21 := by decide +kernel
theorem qk_38 : ∀ pc, pc < qtlen 38 → qok 38 pc = true := fun pc h => by
  rw [ql_38] at h
  rcases Nat.lt_or_ge pc 21 with h0 | h0
  · have h1 := List.all_eq_true.mp qk_38_0 (pc - 0) (List.mem_range.mpr (by omega))
    rwa [show 0 + (pc - 0) = pc by omega] at h1
  omega
set_option maxRecDepth 100000 in
theorem qk_39_0 : (List.range 25).all (fun i => qok 39 (0 + i)) = true := by decide +kernel
theorem ql_39 : qtlen 39 = 25 := by decide +kernel
theorem qk_39 : ∀ pc, pc < qtlen 39 → qok 39 pc = true := fun pc h => by
  rw [ql_39] at h
  rcases Nat.lt_or_ge pc 25 with h0 | h0
  · have h1 := List.all_eq_true.mp qk_39_0 (pc - 0) (List.mem_range.mpr (by omega))
    rwa [show 0 + (pc - 0) = pc by omega] at h1
  omega
set_option maxRecDepth 100000 in
theorem qk_40_0 : (List.range 25).all (fun i => qok 40 (0 + i)) = true := by decide +kernel
theorem ql_40 : qtlen 40 = 25 := by decide +kernel
theorem qk_40 : ∀ pc, pc < qtlen 40 → qok 40 pc = true := fun pc h => by
  rw [ql_40] at h
  rcases Nat.lt_or_ge pc 25 with h0 | h0
  · have h1 := List.all_eq_true.mp qk_40_0 (pc - 0) (List.mem_range.mpr (by omega))
    rwa [show 0 + (pc - 0) = pc by omega] at h1
  omega
set_option maxRecDepth 100000 in
theorem qk_41_0 : (List.range 14).all (fun i => qok 41 (0 + i)) = true := by decide +kernel
theorem ql_41 : qtlen 41 = 14 := by decide +kernel
theorem qk_41 : ∀ pc, pc < qtlen 41 → qok 41 pc = true := fun pc h => by
  rw [ql_41] at h
  rcases Nat.lt_or_ge pc 14 with h0 | h0
  · have h1 := List.all_eq_true.mp qk_41_0 (pc - 0) (List.mem_range.mpr (by omega))
    rwa [show 0 + (pc - 0) = pc by omega] at h1
  omega
set_option maxRecDepth 100000 in
theorem qk_42_0 : (List.range 14).all (fun i => qok 42 (0 + i)) = true := by decide +kernel
theorem ql_42 : qtlen 42 = 14 := by decide +kernel
theorem qk_42 : ∀ pc, pc < qtlen 42 → qok 42 pc = true := fun pc h => by
  rw [ql_42] at h
  rcases Nat.lt_or_ge pc 14 with h0 | h0
  · have h1 := List.all_eq_true.mp qk_42_0 (pc - 0) (List.mem_range.mpr (by omega))
    rwa [show 0 + (pc - 0) = pc by omega] at h1
  omega
set_option maxRecDepth 100000 in
theorem qk_43_0 : (List.range 14).all (fun i => qok 43 (0 + i)) = true := by decide +kernel
theorem ql_43 : qtlen 43 = 14 := by decide +kernel
theorem qk_43 : ∀ pc, pc < qtlen 43 → qok 43 pc = true := fun pc h => by
  rw [ql_43] at h
  rcases Nat.lt_or_ge pc 14 with h0 | h0
  · have h1 := List.all_eq_true.mp qk_43_0 (pc - 0) (List.mem_range.mpr (by omega))
    rwa [show 0 + (pc - 0) = pc by omega] at h1
  omega
set_option maxRecDepth 100000 in
theorem qk_44_0 : (List.range 14).all (fun i => qok 44 (0 + i)) = true := by decide +kernel
theorem ql_44 : qtlen 44 = 14 := by decide +kernel
theorem qk_44 : ∀ pc, pc < qtlen 44 → qok 44 pc = true := fun pc h => by
  rw [ql_44] at h
  rcases Nat.lt_or_ge pc 14 with h0 | h0
  · have h1 := List.all_eq_true.mp qk_44_0 (pc - 0) (List.mem_range.mpr (by omega))
    rwa [show 0 + (pc - 0) = pc by omega] at h1
  omega
set_option maxRecDepth 100000 in
theorem qk_45_0 : (List.range 21).all (fun i => qok 45 (0 + i)) = true := by decide +kernel
theorem ql_45 : qtlen 45 = 21 := by decide +kernel
theorem qk_45 : ∀ pc, pc < qtlen 45 → qok 45 pc = true := fun pc h => by
  rw [ql_45] at h
  rcases Nat.lt_or_ge pc 21 with h0 | h0
  · have h1 := List.all_eq_true.mp qk_45_0 (pc - 0) (List.mem_range.mpr (by omega))
    rwa [show 0 + (pc - 0) = pc by omega] at h1
  omega
set_option maxRecDepth 100000 in
theorem qk_46_0 : (List.range 14).all (fun i => qok 46 (0 + i)) = true := by decide +kernel
theorem ql_46 : qtlen 46 = 14 := by decide +kernel
theorem qk_46 : ∀ pc, pc < qtlen 46 → qok 46 pc = true := fun pc h => by
  rw [ql_46] at h
  rcases Nat.lt_or_ge pc 14 with h0 | h0
  · have h1 := List.all_eq_true.mp qk_46_0 (pc - 0) (List.mem_range.mpr (by omega))
    rwa [show 0 + (pc - 0) = pc by omega] at h1
  omega
set_option maxRecDepth 100000 in
theorem qk_47_0 : (List.range 22).all (fun i => qok 47 (0 + i)) = true := by decide +kernel
theorem ql_47 : qtlen 47 = 22 := by decide +kernel
theorem qk_47 : ∀ pc, pc < qtlen 47 → qok 47 pc = true := fun pc h => by
  rw [ql_47] at h
  rcases Nat.lt_or_ge pc 22 with h0 | h0
  · have h1 := List.all_eq_true.mp qk_47_0 (pc - 0) (List.mem_range.mpr (by omega))
    rwa [show 0 + (pc - 0) = pc by omega] at h1
  omega
set_option maxRecDepth 100000 in
theorem qk_48_0 : (List.range 14).all (fun i => qok 48 (0 + i)) = true := by decide +kernel
theorem ql_48 : qtlen 48 = 14 := by decide +kernel
theorem qk_48 : ∀ pc, pc < qtlen 48 → qok 48 pc = true := fun pc h => by
  rw [ql_48] at h
  rcases Nat.lt_or_ge pc 14 with h0 | h0
  · have h1 := List.all_eq_true.mp qk_48_0 (pc - 0) (List.mem_range.mpr (by omega))
    rwa [show 0 + (pc - 0) = pc by omega] at h1
  omega
set_option maxRecDepth 100000 in
theorem qk_49_0 : (List.range 26).all (fun i => qok 49 (0 + i)) = true := by decide +kernel
theorem ql_49 : qtlen 49 = 26 := by decide +kernel
theorem qk_49 : ∀ pc, pc < qtlen 49 → qok 49 pc = true := fun pc h => by
  rw [ql_49] at h
  rcases Nat.lt_or_ge pc 26 with h0 | h0
  · have h1 := List.all_eq_true.mp qk_49_0 (pc - 0) (List.mem_range.mpr (by omega))
    rwa [show 0 + (pc - 0) = pc by omega] at h1
  omega
set_option maxRecDepth 100000 in
theorem qk_50_0 : (List.range 14).all (fun i => qok 50 (0 + i)) = true := by decide +kernel
theorem ql_50 : qtlen 50 = 14 := by decide +kernel
theorem qk_50 : ∀ pc, pc < qtlen 50 → qok 50 pc = true := fun pc h => by
  rw [ql_50] at h
  rcases Nat.lt_or_ge pc 14 with h0 | h0
  · have h1 := List.all_eq_true.mp qk_50_0 (pc - 0) (List.mem_range.mpr (by omega))
    rwa [show 0 + (pc - 0) = pc by omega] at h1
  omega
set_option maxRecDepth 100000 in
theorem qk_51_0 : (List.range 160).all (fun i => qok 51 (0 + i)) = true := by decide +kernel
theorem ql_51 : qtlen 51 = 160 := by decide +kernel
theorem qk_51 : ∀ pc, pc < qtlen 51 → qok 51 pc = true := fun pc h => by
  rw [ql_51] at h
  rcases Nat.lt_or_ge pc 160 with h0 | h0
  · have h1 := List.all_eq_true.mp qk_51_0 (pc - 0) (List.mem_range.mpr (by omega))
    rwa [show 0 + (pc - 0) = pc by omega] at h1
  omega
set_option maxRecDepth 100000 in
theorem qk_52_0 : (List.range 108).all (fun i => qok 52 (0 + i)) = true := by decide +kernel
theorem ql_52 : qtlen 52 = 108 := by decide +kernel
theorem qk_52 : ∀ pc, pc < qtlen 52 → qok 52 pc = true := fun pc h => by
  rw [ql_52] at h
  rcases Nat.lt_or_ge pc 108 with h0 | h0
  · have h1 := List.all_eq_true.mp qk_52_0 (pc - 0) (List.mem_range.mpr (by omega))
    rwa [show 0 + (pc - 0) = pc by omega] at h1
  omega
set_option maxRecDepth 100000 in
theorem qk_53_0 : (List.range 91).all (fun i => qok 53 (0 + i)) = true := by decide +kernel
theorem ql_53 : qtlen 53 = 91 := by decide +kernel
theorem qk_53 : ∀ pc, pc < qtlen 53 → qok 53 pc = true := fun pc h => by
  rw [ql_53] at h
  rcases Nat.lt_or_ge pc 91 with h0 | h0
  · have h1 := List.all_eq_true.mp qk_53_0 (pc - 0) (List.mem_range.mpr (by omega))
    rwa [show 0 + (pc - 0) = pc by omega] at h1
  omega
set_option maxRecDepth 100000 in
theorem qk_54_0 : (List.range 90).all (fun i => qok 54 (0 + i)) = true := by decide +kernel
theorem ql_54 : qtlen 54 = 90 := by decide +kernel
theorem qk_54 : ∀ pc, pc < qtlen 54 → qok 54 pc = true := fun pc h => by
  rw [ql_54] at h
  rcases Nat.lt_or_ge pc 90 with h0 | h0
  · have h1 := List.all_eq_true.mp qk_54_0 (pc - 0) (List.mem_range.mpr (by omega))
    rwa [show 0 + (pc - 0) = pc by omega] at h1
  omega
set_option maxRecDepth 100000 in
theorem qk_55_0 : (List.range 8).all (fun i => qok 55 (0 + i)) = true := by decide +kernel
theorem ql_55 : qtlen 55 = 8 := by decide +kernel
theorem qk_55 : ∀ pc, pc < qtlen 55 → qok 55 pc = true := fun pc h => by
  rw [ql_55] at h
  rcases Nat.lt_or_ge pc 8 with h0 | h0
  · have h1 := List.all_eq_true.mp qk_55_0 (pc - 0) (List.mem_range.mpr (by omega))
    rwa [show 0 + (pc - 0) = pc by omega] at h1
  omega
set_option maxRecDepth 100000 in
theorem qk_56_0 : (List.range 16).all (fun i => qok 56 (0 + i)) = true := by decide +kernel
theorem ql_56 : qtlen 56 = 16 := by decide +kernel
theorem qk_56 : ∀ pc, pc < qtlen 56 → qok 56 pc = true := fun pc h => by
  rw [ql_56] at h
  rcases Nat.lt_or_ge pc 16 with h0 | h0
  · have h1 := List.all_eq_true.mp qk_56_0 (pc - 0) (List.mem_range.mpr (by omega))
    rwa [show 0 + (pc - 0) = pc by omega] at h1
  omega
set_option maxRecDepth 100000 in
theorem qk_57_0 : (List.range 15).all (fun i => qok 57 (0 + i)) = true := by decide +kernel
theorem ql_57 : qtlen 57 = 15 := by decide +kernel
theorem qk_57 : ∀ pc, pc < qtlen 57 → qok 57 pc = true := fun pc h => by
  rw [ql_57] at h
  rcases Nat.lt_or_ge pc 15 with h0 | h0
  · have h1 := List.all_eq_true.mp qk_57_0 (pc - 0) (List.mem_range.mpr (by omega))
    rwa [show 0 + (pc - 0) = pc by omega] at h1
  omega
set_option maxRecDepth 100000 in
theorem qk_58_0 : (List.range 17).all (fun i => qok 58 (0 + i)) = true := by decide +kernel
theorem ql_58 : qtlen 58 = 17 := by decide +kernel
theorem qk_58 : ∀ pc, pc < qtlen 58 → qok 58 pc = true := fun pc h => by
  rw [ql_58] at h
  rcases Nat.lt_or_ge pc 17 with h0 | h0
  · have h1 := List.all_eq_true.mp qk_58_0 (pc - 0) (List.mem_range.mpr (by omega))
    rwa [show 0 + (pc - 0) = pc by omega] at h1
  omega
set_option maxRecDepth 100000 in
theorem qk_59_0 : (List.range 44).all (fun i => qok 59 (0 + i)) = true := by decide +kernel
theorem ql_59 : qtlen 59 = 44 := by decide +kernel
theorem qk_59 : ∀ pc, pc < qtlen 59 → qok 59 pc = true := fun pc h => by
  rw [ql_59] at h
  rcases Nat.lt_or_ge pc 44 with h0 | h0
  · have h1 := List.all_eq_true.mp qk_59_0 (pc - 0) (List.mem_range.mpr (by omega))
    rwa [show 0 + (pc - 0) = pc by omega] at h1
  omega
set_option maxRecDepth 100000 in
theorem qk_60_0 : (List.range 20).all (fun i => qok 60 (0 + i)) = true := by decide +kernel
theorem ql_60 : qtlen 60 = 20 := by decide +kernel
theorem qk_60 : ∀ pc, pc < qtlen 60 → qok 60 pc = true := fun pc h => by
  rw [ql_60] at h
  rcases Nat.lt_or_ge pc 20 with h0 | h0
  · have h1 := List.all_eq_true.mp qk_60_0 (pc - 0) (List.mem_range.mpr (by omega))
    rwa [show 0 + (pc - 0) = pc by omega] at h1
  omega
set_option maxRecDepth 100000 in
theorem qk_61_0 : (List.range 48).all (fun i => qok 61 (0 + i)) = true := by decide +kernel
theorem ql_61 : qtlen 61 = 48 := by decide +kernel
theorem qk_61 : ∀ pc, pc < qtlen 61 → qok 61 pc = true := fun pc h => by
  rw [ql_61] at h
  rcases Nat.lt_or_ge pc 48 with h0 | h0
  · have h1 := List.all_eq_true.mp qk_61_0 (pc - 0) (List.mem_range.mpr (by omega))
    rwa [show 0 + (pc - 0) = pc by omega] at h1
  omega
set_option maxRecDepth 100000 in
theorem qk_62_0 : (List.range 78).all (fun i => qok 62 (0 + i)) = true := by decide +kernel
theorem ql_62 : qtlen 62 = 78 := by decide +kernel
theorem qk_62 : ∀ pc, pc < qtlen 62 → qok 62 pc = true := fun pc h => by
  rw [ql_62] at h
  rcases Nat.lt_or_ge pc 78 with h0 | h0
  · have h1 := List.all_eq_true.mp qk_62_0 (pc - 0) (List.mem_range.mpr (by omega))
    rwa [show 0 + (pc - 0) = pc by omega] at h1
  omega
set_option maxRecDepth 100000 in
theorem qk_63_0 : (List.range 33).all (fun i => qok 63 (0 + i)) = true := by decide +kernel
theorem ql_63 : qtlen 63 = 33 := by decide +kernel
theorem qk_63 : ∀ pc, pc < qtlen 63 → qok 63 pc = true := fun pc h => by
  rw [ql_63] at h
  rcases Nat.lt_or_ge pc 33 with h0 | h0
  · have h1 := List.all_eq_true.mp qk_63_0 (pc - 0) (List.mem_range.mpr (by omega))
    rwa [show 0 + (pc - 0) = pc by omega] at h1
  omega
set_option maxRecDepth 100000 in
theorem qk_64_0 : (List.range 52).all (fun i => qok 64 (0 + i)) = true := by decide +kernel
theorem ql_64 : qtlen 64 = 52 := by decide +kernel
theorem qk_64 : ∀ pc, pc < qtlen 64 → qok 64 pc = true := fun pc h => by
  rw [ql_64] at h
  rcases Nat.lt_or_ge pc 52 with h0 | h0
  · have h1 := List.all_eq_true.mp qk_64_0 (pc - 0) (List.mem_range.mpr (by omega))
    rwa [show 0 + (pc - 0) = pc by omega] at h1
  omega
set_option maxRecDepth 100000 in
theorem qk_65_0 : (List.range 15).all (fun i => qok 65 (0 + i)) = true := by decide +kernel
theorem ql_65 : qtlen 65 = 15 := by decide +kernel
theorem qk_65 : ∀ pc, pc < qtlen 65 → qok 65 pc = true := fun pc h => by
  rw [ql_65] at h
  rcases Nat.lt_or_ge pc 15 with h0 | h0
  · have h1 := List.all_eq_true.mp qk_65_0 (pc - 0) (List.mem_range.mpr (by omega))
    rwa [show 0 + (pc - 0) = pc by omega] at h1
  omega
set_option maxRecDepth 100000 in
theorem qk_66_0 : (List.range 23).all (fun i => qok 66 (0 + i)) = true := by decide +kernel
theorem ql_66 : qtlen 66 = 23 := by decide +kernel
theorem qk_66 : ∀ pc, pc < qtlen 66 → qok 66 pc = true := fun pc h => by
  rw [ql_66] at h
  rcases Nat.lt_or_ge pc 23 with h0 | h0
  · have h1 := List.all_eq_true.mp qk_66_0 (pc - 0) (List.mem_range.mpr (by omega))
    rwa [show 0 + (pc - 0) = pc by omega] at h1
  omega
set_option maxRecDepth 100000 in
theorem qk_67_0 : (List.range 136).all (fun i => qok 67 (0 + i)) = true := by decide +kernel
theorem ql_67 : qtlen 67 = 136 := by decide +kernel
theorem qk_67 : ∀ pc, pc < qtlen 67 → qok 67 pc = true := fun pc h => by
  rw [ql_67] at h
  rcases Nat.lt_or_ge pc 136 with h0 | h0
  · have h1 := List.all_eq_true.mp qk_67_0 (pc - 0) (List.mem_range.mpr (by omega))
    rwa [show 0 + (pc - 0) = pc by omega] at h1
  omega
set_option maxRecDepth 100000 in
theorem qk_68_0 : (List.range 230).all (fun i => qok 68 (0 + i)) = true := by decide +kernel
theorem ql_68 : qtlen 68 = 230 := by decide +kernel
theorem qk_68 : ∀ pc, pc < qtlen 68 → qok 68 pc = true := fun pc h => by
  rw [ql_68] at h
  rcases Nat.lt_or_ge pc 230 with h0 | h0
  · have h1 := List.all_eq_true.mp qk_68_0 (pc - 0) (List.mem_range.mpr (by omega))
    rwa [show 0 + (pc - 0) = pc by omega] at h1
  omega
set_option maxRecDepth 100000 in
theorem qk_69_0 : (List.range 23).all (fun i => qok 69 (0 + i)) = true := by decide +kernel
theorem ql_69 : qtlen 69 = 23 := by decide +kernel
theorem qk_69 : ∀ pc, pc < qtlen 69 → qok 69 pc = true := fun pc h => by
  rw [ql_69] at h
  rcases Nat.lt_or_ge pc 23 with h0 | h0
  · have h1 := List.all_eq_true.mp qk_69_0 (pc - 0) (List.mem_range.mpr (by omega))
    rwa [show 0 + (pc - 0) = pc by omega] at h1
  omega
set_option maxRecDepth 100000 in
theorem qk_70_0 : (List.range 92).all (fun i => qok 70 (0 + i)) = true := by decide +kernel
theorem ql_70 : qtlen 70 = 92 := by decide +kernel
theorem qk_70 : ∀ pc, pc < qtlen 70 → qok 70 pc = true := fun pc h => by
  rw [ql_70] at h
  rcases Nat.lt_or_ge pc 92 with h0 | h0
  · have h1 := List.all_eq_true.mp qk_70_0 (pc - 0) (List.mem_range.mpr (by omega))
    rwa [show 0 + (pc - 0) = pc by omega] at h1
  omega
set_option maxRecDepth 100000 in
theorem qk_71_0 : (List.range 34).all (fun i => qok 71 (0 + i)) = true := by decide +kernel
theorem ql_71 : qtlen 71 = 34 := by decide +kernel
theorem qk_71 : ∀ pc, pc < qtlen 71 → qok 71 pc = true := fun pc h => by
  rw [ql_71] at h
  rcases Nat.lt_or_ge pc 34 with h0 | h0
  · have h1 := List.all_eq_true.mp qk_71_0 (pc - 0) (List.mem_range.mpr (by omega))
    rwa [show 0 + (pc - 0) = pc by omega] at h1
  omega
set_option maxRecDepth 100000 in
theorem qk_72_0 : (List.range 87).all (fun i => qok 72 (0 + i)) = true := by decide +kernel
theorem ql_72 : qtlen 72 = 87 := by decide +kernel
theorem qk_72 : ∀ pc, pc < qtlen 72 → qok 72 pc = true := fun pc h => by
  rw [ql_72] at h
  rcases Nat.lt_or_ge pc 87 with h0 | h0
  · have h1 := List.all_eq_true.mp qk_72_0 (pc - 0) (List.mem_range.mpr (by omega))
    rwa [show 0 + (pc - 0) = pc by omega] at h1
  omega
set_option maxRecDepth 100000 in
theorem qk_73_0 : (List.range 49).all (fun i => qok 73 (0 + i)) = true := by decide +kernel
theorem ql_73 : qtlen 73 = 49 := by decide +kernel
theorem qk_73 : ∀ pc, pc < qtlen 73 → qok 73 pc = true := fun pc h => by
  rw [ql_73] at h
  rcases Nat.lt_or_ge pc 49 with h0 | h0
  · have h1 := List.all_eq_true.mp qk_73_0 (pc - 0) (List.mem_range.mpr (by omega))
    rwa [show 0 + (pc - 0) = pc by omega] at h1
  omega
set_option maxRecDepth 100000 in
theorem qk_74_0 : (List.range 5).all (fun i => qok 74 (0 + i)) = true := by decide +kernel
theorem ql_74 : qtlen 74 = 5 := by decide +kernel
theorem qk_74 : ∀ pc, pc < qtlen 74 → qok 74 pc = true := fun pc h => by
  rw [ql_74] at h
  rcases Nat.lt_or_ge pc 5 with h0 | h0
  · have h1 := List.all_eq_true.mp qk_74_0 (pc - 0) (List.mem_range.mpr (by omega))
    rwa [show 0 + (pc - 0) = pc by omega] at h1
  omega
set_option maxRecDepth 100000 in
theorem qk_75_0 : (List.range 16).all (fun i => qok 75 (0 + i)) = true := by decide +kernel
theorem ql_75 : qtlen 75 = 16 := by decide +kernel
theorem qk_75 : ∀ pc, pc < qtlen 75 → qok 75 pc = true := fun pc h => by
  rw [ql_75] at h
  rcases Nat.lt_or_ge pc 16 with h0 | h0
  · have h1 := List.all_eq_true.mp qk_75_0 (pc - 0) (List.mem_range.mpr (by omega))
    rwa [show 0 + (pc - 0) = pc by omega] at h1
  omega
set_option maxRecDepth 100000 in
theorem qk_76_0 : (List.range 29).all (fun i => qok 76 (0 + i)) = true := by decide +kernel
theorem ql_76 : qtlen 76 = 29 := by decide +kernel
theorem qk_76 : ∀ pc, pc < qtlen 76 → qok 76 pc = true := fun pc h => by
  rw [ql_76] at h
  rcases Nat.lt_or_ge pc 29 with h0 | h0
  · have h1 := List.all_eq_true.mp qk_76_0 (pc - 0) (List.mem_range.mpr (by omega))
    rwa [show 0 + (pc - 0) = pc by omega] at h1
  omega
set_option maxRecDepth 100000 in
theorem qk_77_0 : (List.range 12).all (fun i => qok 77 (0 + i)) = true := by decide +kernel
theorem ql_77 : qtlen 77 = 12 := by decide +kernel
theorem qk_77 : ∀ pc, pc < qtlen 77 → qok 77 pc = true := fun pc h => by
  rw [ql_77] at h
  rcases Nat.lt_or_ge pc 12 with h0 | h0
  · have h1 := List.all_eq_true.mp qk_77_0 (pc - 0) (List.mem_range.mpr (by omega))
    rwa [show 0 + (pc - 0) = pc by omega] at h1
  omega
set_option maxRecDepth 100000 in
theorem qk_78_0 : (List.range 70).all (fun i => qok 78 (0 + i)) = true := by decide +kernel
theorem ql_78 : qtlen 78 = 70 := by decide +kernel
theorem qk_78 : ∀ pc, pc < qtlen 78 → qok 78 pc = true := fun pc h => by
  rw [ql_78] at h
  rcases Nat.lt_or_ge pc 70 with h0 | h0
  · have h1 := List.all_eq_true.mp qk_78_0 (pc - 0) (List.mem_range.mpr (by omega))
    rwa [show 0 + (pc - 0) = pc by omega] at h1
  omega
set_option maxRecDepth 100000 in
theorem qk_79_0 : (List.range 48).all (fun i => qok 79 (0 + i)) = true := by decide +kernel
theorem ql_79 : qtlen 79 = 48 := by decide +kernel
theorem qk_79 : ∀ pc, pc < qtlen 79 → qok 79 pc = true := fun pc h => by
  rw [ql_79] at h
  rcases Nat.lt_or_ge pc 48 with h0 | h0
  · have h1 := List.all_eq_true.mp qk_79_0 (pc - 0) (List.mem_range.mpr (by omega))
    rwa [show 0 + (pc - 0) = pc by omega] at h1
  omega
set_option maxRecDepth 100000 in
theorem qk_80_0 : (List.range 49).all (fun i => qok 80 (0 + i)) = true := by decide +kernel
theorem ql_80 : qtlen 80 = 49 := by decide +kernel
theorem qk_80 : ∀ pc, pc < qtlen 80 → qok 80 pc = true := fun pc h => by
  rw [ql_80] at h
  rcases Nat.lt_or_ge pc 49 with h0 | h0
  · have h1 := List.all_eq_true.mp qk_80_0 (pc - 0) (List.mem_range.mpr (by omega))
    rwa [show 0 + (pc - 0) = pc by omega] at h1
  omega
set_option maxRecDepth 100000 in
theorem qk_81_0 : (List.range 13).all (fun i => qok 81 (0 + i)) = true := by decide +kernel
theorem ql_81 : qtlen 81 = 13 := by decide +kernel
theorem qk_81 : ∀ pc, pc < qtlen 81 → qok 81 pc = true := fun pc h => by
  rw [ql_81] at h
  rcases Nat.lt_or_ge pc 13 with h0 | h0
  · have h1 := List.all_eq_true.mp qk_81_0 (pc - 0) (List.mem_range.mpr (by omega))
    rwa [show 0 + (pc - 0) = pc by omega] at h1
  omega
set_option maxRecDepth 100000 in
theorem qk_82_0 : (List.range 50).all (fun i => qok 82 (0 + i)) = true := by decide +kernel
theorem ql_82 : qtlen 82 = 50 := by decide +kernel
theorem qk_82 : ∀ pc, pc < qtlen 82 → qok 82 pc = true := fun pc h => by
  rw [ql_82] at h
  rcases Nat.lt_or_ge pc 50 with h0 | h0
  · have h1 := List.all_eq_true.mp qk_82_0 (pc - 0) (List.mem_range.mpr (by omega))
    rwa [show 0 + (pc - 0) = pc by omega] at h1
  omega
set_option maxRecDepth 100000 in
theorem qk_83_0 : (List.range 16).all (fun i => qok 83 (0 + i)) = true := by decide +kernel
theorem ql_83 : qtlen 83 = 16 := by decide +kernel
theorem qk_83 : ∀ pc, pc < qtlen 83 → qok 83 pc = true := fun pc h => by
  rw [ql_83] at h
  rcases Nat.lt_or_ge pc 16 with h0 | h0
  · have h1 := List.all_eq_true.mp qk_83_0 (pc - 0) (List.mem_range.mpr (by omega))
    rwa [show 0 + (pc - 0) = pc by omega] at h1
  omega
set_option maxRecDepth 100000 in
theorem qk_84_0 : (List.range 30).all (fun i => qok 84 (0 + i)) = true := by decide +kernel
theorem ql_84 : qtlen 84 = 30 := by decide +kernel
theorem qk_84 : ∀ pc, pc < qtlen 84 → qok 84 pc = true := fun pc h => by
  rw [ql_84] at h
  rcases Nat.lt_or_ge pc 30 with h0 | h0
  · have h1 := List.all_eq_true.mp qk_84_0 (pc - 0) (List.mem_range.mpr (by omega))
    rwa [show 0 + (pc - 0) = pc by omega] at h1
  omega
set_option maxRecDepth 100000 in
theorem qk_85_0 : (List.range 37).all (fun i => qok 85 (0 + i)) = true := by decide +kernel
theorem ql_85 : qtlen 85 = 37 := by decide +kernel
theorem qk_85 : ∀ pc, pc < qtlen 85 → qok 85 pc = true := fun pc h => by
  rw [ql_85] at h
  rcases Nat.lt_or_ge pc 37 with h0 | h0
  · have h1 := List.all_eq_true.mp qk_85_0 (pc - 0) (List.mem_range.mpr (by omega))
    rwa [show 0 + (pc - 0) = pc by omega] at h1
  omega
set_option maxRecDepth 100000 in
theorem qk_86_0 : (List.range 38).all (fun i => qok 86 (0 + i)) = true := by decide +kernel
theorem ql_86 : qtlen 86 = 38 := by decide +kernel
theorem qk_86 : ∀ pc, pc < qtlen 86 → qok 86 pc = true := fun pc h => by
  rw [ql_86] at h
  rcases Nat.lt_or_ge pc 38 with h0 | h0
  · have h1 := List.all_eq_true.mp qk_86_0 (pc - 0) (List.mem_range.mpr (by omega))
    rwa [show 0 + (pc - 0) = pc by omega] at h1
  omega
set_option maxRecDepth 100000 in
theorem qk_87_0 : (List.range 82).all (fun i => qok 87 (0 + i)) = true := by decide +kernel
theorem ql_87 : qtlen 87 = 82 := by decide +kernel
theorem qk_87 : ∀ pc, pc < qtlen 87 → qok 87 pc = true := fun pc h => by
  rw [ql_87] at h
  rcases Nat.lt_or_ge pc 82 with h0 | h0
  · have h1 := List.all_eq_true.mp qk_87_0 (pc - 0) (List.mem_range.mpr (by omega))
    rwa [show 0 + (pc - 0) = pc by omega] at h1
  omega
set_option maxRecDepth 100000 in
theorem qk_88_0 : (List.range 91).all (fun i => qok 88 (0 + i)) = true := by decide +kernel
theorem ql_88 : qtlen 88 = 91 := by decide +kernel
theorem qk_88 : ∀ pc, pc < qtlen 88 → qok 88 pc = true := fun pc h => by
  rw [ql_88] at h
  rcases Nat.lt_or_ge pc 91 with h0 | h0
  · have h1 := List.all_eq_true.mp qk_88_0 (pc - 0) (List.mem_range.mpr (by omega))
    rwa [show 0 + (pc - 0) = pc by omega] at h1
  omega
set_option maxRecDepth 100000 in
theorem qk_89_0 : (List.range 22).all (fun i => qok 89 (0 + i)) = true := by decide +kernel
theorem ql_89 : qtlen 89 = 22 := by decide +kernel
theorem qk_89 : ∀ pc, pc < qtlen 89 → qok 89 pc = true := fun pc h => by
  rw [ql_89] at h
  rcases Nat.lt_or_ge pc 22 with h0 | h0
  · have h1 := List.all_eq_true.mp qk_89_0 (pc - 0) (List.mem_range.mpr (by omega))
    rwa [show 0 + (pc - 0) = pc by omega] at h1
  omega
set_option maxRecDepth 100000 in
theorem qk_90_0 : (List.range 57).all (fun i => qok 90 (0 + i)) = true := by decide +kernel
theorem ql_90 : qtlen 90 = 57 := by decide +kernel
theorem qk_90 : ∀ pc, pc < qtlen 90 → qok 90 pc = true := fun pc h => by
  rw [ql_90] at h
  rcases Nat.lt_or_ge pc 57 with h0 | h0
  · have h1 := List.all_eq_true.mp qk_90_0 (pc - 0) (List.mem_range.mpr (by omega))
    rwa [show 0 + (pc - 0) = pc by omega] at h1
  omega
set_option maxRecDepth 100000 in
theorem qk_91_0 : (List.range 37).all (fun i => qok 91 (0 + i)) = true := by decide +kernel
theorem ql_91 : qtlen 91 = 37 := by decide +kernel
theorem qk_91 : ∀ pc, pc < qtlen 91 → qok 91 pc = true := fun pc h => by
  rw [ql_91] at h
  rcases Nat.lt_or_ge pc 37 with h0 | h0
  · have h1 := List.all_eq_true.mp qk_91_0 (pc - 0) (List.mem_range.mpr (by omega))
    rwa [show 0 + (pc - 0) = pc by omega] at h1
  omega
set_option maxRecDepth 100000 in
theorem qk_92_0 : (List.range 63).all (fun i => qok 92 (0 + i)) = true := by decide +kernel
theorem ql_92 : qtlen 92 = 63 := by decide +kernel
theorem qk_92 : ∀ pc, pc < qtlen 92 → qok 92 pc = true := fun pc h => by
  rw [ql_92] at h
  rcases Nat.lt_or_ge pc 63 with h0 | h0
  · have h1 := List.all_eq_true.mp qk_92_0 (pc - 0) (List.mem_range.mpr (by omega))
    rwa [show 0 + (pc - 0) = pc by omega] at h1
  omega
set_option maxRecDepth 100000 in
theorem qk_93_0 : (List.range 36).all (fun i => qok 93 (0 + i)) = true := by decide +kernel
theorem ql_93 : qtlen 93 = 36 := by decide +kernel
theorem qk_93 : ∀ pc, pc < qtlen 93 → qok 93 pc = true := fun pc h => by
  rw [ql_93] at h
  rcases Nat.lt_or_ge pc 36 with h0 | h0
  · have h1 := List.all_eq_true.mp qk_93_0 (pc - 0) (List.mem_range.mpr (by omega))
    rwa [show 0 + (pc - 0) = pc by omega] at h1
  omega
set_option maxRecDepth 100000 in
theorem qk_94_0 : (List.range 35).all (fun i => qok 94 (0 + i)) = true := by decide +kernel
theorem ql_94 : qtlen 94 = 35 := by decide +kernel
theorem qk_94 : ∀ pc, pc < qtlen 94 → qok 94 pc = true := fun pc h => by
  rw [ql_94] at h
  rcases Nat.lt_or_ge pc 35 with h0 | h0
  · have h1 := List.all_eq_true.mp qk_94_0 (pc - 0) (List.mem_range.mpr (by omega))
    rwa [show 0 + (pc - 0) = pc by omega] at h1
  omega
set_option maxRecDepth 100000 in
theorem qk_95_0 : (List.range 32).all (fun i => qok 95 (0 + i)) = true := by decide +kernel
theorem ql_95 : qtlen 95 = 32 := by decide +kernel
theorem qk_95 : ∀ pc, pc < qtlen 95 → qok 95 pc = true := fun pc h => by
  rw [ql_95] at h
  rcases Nat.lt_or_ge pc 32 with h0 | h0
  · have h1 := List.all_eq_true.mp qk_95_0 (pc - 0) (List.mem_range.mpr (by omega))
    rwa [show 0 + (pc - 0) = pc by omega] at h1
  omega
set_option maxRecDepth 100000 in
theorem qk_96_0 : (List.range 79).all (fun i => qok 96 (0 + i)) = true := by decide +kernel
theorem ql_96 : qtlen 96 = 79 := by decide +kernel
theorem qk_96 : ∀ pc, pc < qtlen 96 → qok 96 pc = true := fun pc h => by
  rw [ql_96] at h
  rcases Nat.lt_or_ge pc 79 with h0 | h0
  · have h1 := List.all_eq_true.mp qk_96_0 (pc - 0) (List.mem_range.mpr (by omega))
    rwa [show 0 + (pc - 0) = pc by omega] at h1
  omega
set_option maxRecDepth 100000 in
theorem qk_97_0 : (List.range 37).all (fun i => qok 97 (0 + i)) = true := by decide +kernel
theorem ql_97 : qtlen 97 = 37 := by decide +kernel
theorem qk_97 : ∀ pc, pc < qtlen 97 → qok 97 pc = true := fun pc h => by
  rw [ql_97] at h
  rcases Nat.lt_or_ge pc 37 with h0 | h0
  · have h1 := List.all_eq_true.mp qk_97_0 (pc - 0) (List.mem_range.mpr (by omega))
    rwa [show 0 + (pc - 0) = pc by omega] at h1
  omega
set_option maxRecDepth 100000 in
theorem qk_98_0 : (List.range 54).all (fun i => qok 98 (0 + i)) = true := by decide +kernel
theorem ql_98 : qtlen 98 = 54 := by decide +kernel
theorem qk_98 : ∀ pc, pc < qtlen 98 → qok 98 pc = true := fun pc h => by
  rw [ql_98] at h
  rcases Nat.lt_or_ge pc 54 with h0 | h0
  · have h1 := List.all_eq_true.mp qk_98_0 (pc - 0) (List.mem_range.mpr (by omega))
    rwa [show 0 + (pc - 0) = pc by omega] at h1
  omega
set_option maxRecDepth 100000 in
theorem qk_99_0 : (List.range 55).all (fun i => qok 99 (0 + i)) = true := by decide +kernel
theorem ql_99 : qtlen 99 = 55 := by decide +kernel
theorem qk_99 : ∀ pc, pc < qtlen 99 → qok 99 pc = true := fun pc h => by
  rw [ql_99] at h
  rcases Nat.lt_or_ge pc 55 with h0 | h0
  · have h1 := List.all_eq_true.mp qk_99_0 (pc - 0) (List.mem_range.mpr (by omega))
    rwa [show 0 + (pc - 0) = pc by omega] at h1
  omega
set_option maxRecDepth 100000 in
theorem qk_100_0 : (List.range 75).all (fun i => qok 100 (0 + i)) = true := by decide +kernel
theorem ql_100 : qtlen 100 = 75 := by decide +kernel
theorem qk_100 : ∀ pc, pc < qtlen 100 → qok 100 pc = true := fun pc h => by
  rw [ql_100] at h
  rcases Nat.lt_or_ge pc 75 with h0 | h0
  · have h1 := List.all_eq_true.mp qk_100_0 (pc - 0) (List.mem_range.mpr (by omega))
    rwa [show 0 + (pc - 0) = pc by omega] at h1
  omega
set_option maxRecDepth 100000 in
theorem qk_101_0 : (List.range 19).all (fun i => qok 101 (0 + i)) = true := by decide +kernel
theorem ql_101 : qtlen 101 = 19 := by decide +kernel
theorem qk_101 : ∀ pc, pc < qtlen 101 → qok 101 pc = true := fun pc h => by
  rw [ql_101] at h
  rcases Nat.lt_or_ge pc 19 with h0 | h0
  · have h1 := List.all_eq_true.mp qk_101_0 (pc - 0) (List.mem_range.mpr (by omega))
    rwa [show 0 + (pc - 0) = pc by omega] at h1
  omega
set_option maxRecDepth 100000 in
theorem qk_102_0 : (List.range 25).all (fun i => qok 102 (0 + i)) = true := by decide +kernel
theorem ql_102 : qtlen 102 = 25 := by decide +kernel
theorem qk_102 : ∀ pc, pc < qtlen 102 → qok 102 pc = true := fun pc h => by
  rw [ql_102] at h
  rcases Nat.lt_or_ge pc 25 with h0 | h0
  · have h1 := List.all_eq_true.mp qk_102_0 (pc - 0) (List.mem_range.mpr (by omega))
    rwa [show 0 + (pc - 0) = pc by omega] at h1
  omega
set_option maxRecDepth 100000 in
theorem qk_103_0 : (List.range 47).all (fun i => qok 103 (0 + i)) = true := by decide +kernel
theorem ql_103 : qtlen 103 = 47 := by decide +kernel
theorem qk_103 : ∀ pc, pc < qtlen 103 → qok 103 pc = true := fun pc h => by
  rw [ql_103] at h
  rcases Nat.lt_or_ge pc 47 with h0 | h0
  · have h1 := List.all_eq_true.mp qk_103_0 (pc - 0) (List.mem_range.mpr (by omega))
    rwa [show 0 + (pc - 0) = pc by omega] at h1
  omega
set_option maxRecDepth 100000 in
theorem qk_104_0 : (List.range 47).all (fun i => qok 104 (0 + i)) = true := by decide +kernel
theorem ql_104 : qtlen 104 = 47 := by decide +kernel
theorem qk_104 : ∀ pc, pc < qtlen 104 → qok 104 pc = true := fun pc h => by
  rw [ql_104] at h
  rcases Nat.lt_or_ge pc 47 with h0 | h0
  · have h1 := List.all_eq_true.mp qk_104_0 (pc - 0) (List.mem_range.mpr (by omega))
    rwa [show 0 + (pc - 0) = pc by omega] at h1
  omega
set_option maxRecDepth 100000 in
theorem qk_105_0 : (List.range 24).all (fun i => qok 105 (0 + i)) = true := by decide +kernel
theorem ql_105 : qtlen 105 = 24 := by decide +kernel
theorem qk_105 : ∀ pc, pc < qtlen 105 → qok 105 pc = true := fun pc h => by
  rw [ql_105] at h
  rcases Nat.lt_or_ge pc 24 with h0 | h0
  · have h1 := List.all_eq_true.mp qk_105_0 (pc - 0) (List.mem_range.mpr (by omega))
    rwa [show 0 + (pc - 0) = pc by omega] at h1
  omega
set_option maxRecDepth 100000 in
theorem qk_106_0 : (List.range 40).all (fun i => qok 106 (0 + i)) = true := by decide +kernel
theorem ql_106 : qtlen 106 = 40 := by decide +kernel
theorem qk_106 : ∀ pc, pc < qtlen 106 → qok 106 pc = true := fun pc h => by
  rw [ql_106] at h
  rcases Nat.lt_or_ge pc 40 with h0 | h0
  · have h1 := List.all_eq_true.mp qk_106_0 (pc - 0) (List.mem_range.mpr (by omega))
    rwa [show 0 + (pc - 0) = pc by omega] at h1
  omega
set_option maxRecDepth 100000 in
theorem qk_107_0 : (List.range 75).all (fun i => qok 107 (0 + i)) = true := by decide +kernel
theorem ql_107 : qtlen 107 = 75 := by decide +kernel
theorem qk_107 : ∀ pc, pc < qtlen 107 → qok 107 pc = true := fun pc h => by
  rw [ql_107] at h
  rcases Nat.lt_or_ge pc 75 with h0 | h0
  · have h1 := List.all_eq_true.mp qk_107_0 (pc - 0) (List.mem_range.mpr (by omega))
    rwa [show 0 + (pc - 0) = pc by omega] at h1
  omega
set_option maxRecDepth 100000 in
theorem qk_108_0 : (List.range 54).all (fun i => qok 108 (0 + i)) = true := by decide +kernel
theorem ql_108 : qtlen 108 = 54 := by decide +kernel
theorem qk_108 : ∀ pc, pc < qtlen 108 → qok 108 pc = true := fun pc h => by
  rw [ql_108] at h
  rcases Nat.lt_or_ge pc 54 with h0 | h0
  · have h1 := List.all_eq_true.mp qk_108_0 (pc - 0) (List.mem_range.mpr (by omega))
    rwa [show 0 + (pc - 0) = pc by omega] at h1
  omega
set_option maxRecDepth 100000 in
theorem qk_109_0 : (List.range 60).all (fun i => qok 109 (0 + i)) = true := by decide +kernel
theorem ql_109 : qtlen 109 = 60 := by decide +kernel
theorem qk_109 : ∀ pc, pc < qtlen 109 → qok 109 pc = true := fun pc h => by
  rw [ql_109] at h
  rcases Nat.lt_or_ge pc 60 with h0 | h0
  · have h1 := List.all_eq_true.mp qk_109_0 (pc - 0) (List.mem_range.mpr (by omega))
    rwa [show 0 + (pc - 0) = pc by omega] at h1
  omega
set_option maxRecDepth 100000 in
theorem qk_110_0 : (List.range 16).all (fun i => qok 110 (0 + i)) = true := by decide +kernel
theorem ql_110 : qtlen 110 = 16 := by decide +kernel
theorem qk_110 : ∀ pc, pc < qtlen 110 → qok 110 pc = true := fun pc h => by
  rw [ql_110] at h
  rcases Nat.lt_or_ge pc 16 with h0 | h0
  · have h1 := List.all_eq_true.mp qk_110_0 (pc - 0) (List.mem_range.mpr (by omega))
    rwa [show 0 + (pc - 0) = pc by omega] at h1
  omega
set_option maxRecDepth 100000 in
theorem qk_111_0 : (List.range 42).all (fun i => qok 111 (0 + i)) = true := by decide +kernel
theorem ql_111 : qtlen 111 = 42 := by decide +kernel
theorem qk_111 : ∀ pc, pc < qtlen 111 → qok 111 pc = true := fun pc h => by
  rw [ql_111] at h
  rcases Nat.lt_or_ge pc 42 with h0 | h0
  · have h1 := List.all_eq_true.mp qk_111_0 (pc - 0) (List.mem_range.mpr (by omega))
    rwa [show 0 + (pc - 0) = pc by omega] at h1
  omega
set_option maxRecDepth 100000 in
theorem qk_112_0 : (List.range 56).all (fun i => qok 112 (0 + i)) = true := by decide +kernel
theorem ql_112 : qtlen 112 = 56 := by decide +kernel
theorem qk_112 : ∀ pc, pc < qtlen 112 → qok 112 pc = true := fun pc h => by
  rw [ql_112] at h
  rcases Nat.lt_or_ge pc 56 with h0 | h0
  · have h1 := List.all_eq_true.mp qk_112_0 (pc - 0) (List.mem_range.mpr (by omega))
    rwa [show 0 + (pc - 0) = pc by omega] at h1
  omega
set_option maxRecDepth 100000 in
theorem qk_113_0 : (List.range 8).all (fun i => qok 113 (0 + i)) = true := by decide +kernel
theorem ql_113 : qtlen 113 = 8 := by decide +kernel
theorem qk_113 : ∀ pc, pc < qtlen 113 → qok 113 pc = true := fun pc h => by
  rw [ql_113] at h
  rcases Nat.lt_or_ge pc 8 with h0 | h0
  · have h1 := List.all_eq_true.mp qk_113_0 (pc - 0) (List.mem_range.mpr (by omega))
    rwa [show 0 + (pc - 0) = pc by omega] at h1
  omega
set_option maxRecDepth 100000 in
theorem qk_114_0 : (List.range 400).all (fun i => qok 114 (0 + i)) = true := by decide +kernel
set_option maxRecDepth 100000 in
theorem qk_114_1 : (List.range 42).all (fun i => qok 114 (400 + i)) = true := by decide +kernel
theorem ql_114 : qtlen 114 = 442 := by decide +kernel
theorem qk_114 : ∀ pc, pc < qtlen 114 → qok 114 pc = true := fun pc h => by
  rw [ql_114] at h
  rcases Nat.lt_or_ge pc 400 with h0 | h0
  · have h1 := List.all_eq_true.mp qk_114_0 (pc - 0) (List.mem_range.mpr (by omega))
    rwa [show 0 + (pc - 0) = pc by omega] at h1
  rcases Nat.lt_or_ge pc 442 with h1 | h1
  · have h1 := List.all_eq_true.mp qk_114_1 (pc - 400) (List.mem_range.mpr (by omega))
    rwa [show 400 + (pc - 400) = pc by omega] at h1
  omega
set_option maxRecDepth 100000 in
theorem qk_115_0 : (List.range 23).all (fun i => qok 115 (0 + i)) = true := by decide +kernel
theorem ql_115 : qtlen 115 = 23 := by decide +kernel
theorem qk_115 : ∀ pc, pc < qtlen 115 → qok 115 pc = true := fun pc h => by
  rw [ql_115] at h
  rcases Nat.lt_or_ge pc 23 with h0 | h0
  · have h1 := List.all_eq_true.mp qk_115_0 (pc - 0) (List.mem_range.mpr (by omega))
    rwa [show 0 + (pc - 0) = pc by omega] at h1
  omega
set_option maxRecDepth 100000 in
theorem qk_116_0 : (List.range 5).all (fun i => qok 116 (0 + i)) = true := by decide +kernel
theorem ql_116 : qtlen 116 = 5 := by decide +kernel
theorem qk_116 : ∀ pc, pc < qtlen 116 → qok 116 pc = true := fun pc h => by
  rw [ql_116] at h
  rcases Nat.lt_or_ge pc 5 with h0 | h0
  · have h1 := List.all_eq_true.mp qk_116_0 (pc - 0) (List.mem_range.mpr (by omega))
    rwa [show 0 + (pc - 0) = pc by omega] at h1
  omega
set_option maxRecDepth 100000 in
theorem qk_117_0 : (List.range 10).all (fun i => qok 117 (0 + i)) = true := by decide +kernel
theorem ql_117 : qtlen 117 = 10 := by decide +kernel
theorem qk_117 : ∀ pc, pc < qtlen 117 → qok 117 pc = true := fun pc h => by
  rw [ql_117] at h
  rcases Nat.lt_or_ge pc 10 with h0 | h0
  · have h1 := List.all_eq_true.mp qk_117_0 (pc - 0) (List.mem_range.mpr (by omega))
    rwa [show 0 + (pc - 0) = pc by omega] at h1
  omega
set_option maxRecDepth 100000 in
theorem qk_118_0 : (List.range 12).all (fun i => qok 118 (0 + i)) = true := by decide +kernel
theorem ql_118 : qtlen 118 = 12 := by decide +kernel
theorem qk_118 : ∀ pc, pc < qtlen 118 → qok 118 pc = true := fun pc h => by
  rw [ql_118] at h
  rcases Nat.lt_or_ge pc 12 with h0 | h0
  · have h1 := List.all_eq_true.mp qk_118_0 (pc - 0) (List.mem_range.mpr (by omega))
    rwa [show 0 + (pc - 0) = pc by omega] at h1
  omega
set_option maxRecDepth 100000 in
theorem qk_119_0 : (List.range 60).all (fun i => qok 119 (0 + i)) = true := by decide +kernel
theorem ql_119 : qtlen 119 = 60 := by decide +kernel
theorem qk_119 : ∀ pc, pc < qtlen 119 → qok 119 pc = true := fun pc h => by
  rw [ql_119] at h
  rcases Nat.lt_or_ge pc 60 with h0 | h0
  · have h1 := List.all_eq_true.mp qk_119_0 (pc - 0) (List.mem_range.mpr (by omega))
    rwa [show 0 + (pc - 0) = pc by omega] at h1
  omega
set_option maxRecDepth 100000 in
theorem qk_120_0 : (List.range 11).all (fun i => qok 120 (0 + i)) = true := by decide +kernel
theorem ql_120 : qtlen 120 = 11 := by decide +kernel
theorem qk_120 : ∀ pc, pc < qtlen 120 → qok 120 pc = true := fun pc h => by
  rw [ql_120] at h
  rcases Nat.lt_or_ge pc 11 with h0 | h0
  · have h1 := List.all_eq_true.mp qk_120_0 (pc - 0) (List.mem_range.mpr (by omega))
    rwa [show 0 + (pc - 0) = pc by omega] at h1
  omega
set_option maxRecDepth 100000 in
theorem qk_121_0 : (List.range 5).all (fun i => qok 121 (0 + i)) = true := by decide +kernel
theorem ql_121 : qtlen 121 = 5 := by decide +kernel
theorem qk_121 : ∀ pc, pc < qtlen 121 → qok 121 pc = true := fun pc h => by
  rw [ql_121] at h
  rcases Nat.lt_or_ge pc 5 with h0 | h0
  · have h1 := List.all_eq_true.mp qk_121_0 (pc - 0) (List.mem_range.mpr (by omega))
    rwa [show 0 + (pc - 0) = pc by omega] at h1
  omega
set_option maxRecDepth 100000 in
theorem qk_122_0 : (List.range 12).all (fun i => qok 122 (0 + i)) = true := by decide +kernel
theorem ql_122 : qtlen 122 = 12 := by decide +kernel
theorem qk_122 : ∀ pc, pc < qtlen 122 → qok 122 pc = true := fun pc h => by
  rw [ql_122] at h
  rcases Nat.lt_or_ge pc 12 with h0 | h0
  · have h1 := List.all_eq_true.mp qk_122_0 (pc - 0) (List.mem_range.mpr (by omega))
    rwa [show 0 + (pc - 0) = pc by omega] at h1
  omega
set_option maxRecDepth 100000 in
theorem qk_123_0 : (List.range 23).all (fun i => qok 123 (0 + i)) = true := by decide +kernel
theorem ql_123 : qtlen 123 = 23 := by decide +kernel
theorem qk_123 : ∀ pc, pc < qtlen 123 → qok 123 pc = true := fun pc h => by
  rw [ql_123] at h
  rcases Nat.lt_or_ge pc 23 with h0 | h0
  · have h1 := List.all_eq_true.mp qk_123_0 (pc - 0) (List.mem_range.mpr (by omega))
    rwa [show 0 + (pc - 0) = pc by omega] at h1
  omega
set_option maxRecDepth 100000 in
theorem qk_124_0 : (List.range 25).all (fun i => qok 124 (0 + i)) = true := by decide +kernel
theorem ql_124 : qtlen 124 = 25 := by decide +kernel
theorem qk_124 : ∀ pc, pc < qtlen 124 → qok 124 pc = true := fun pc h => by
  rw [ql_124] at h
  rcases Nat.lt_or_ge pc 25 with h0 | h0
  · have h1 := List.all_eq_true.mp qk_124_0 (pc - 0) (List.mem_range.mpr (by omega))
    rwa [show 0 + (pc - 0) = pc by omega] at h1
  omega
set_option maxRecDepth 100000 in
theorem qk_125_0 : (List.range 43).all (fun i => qok 125 (0 + i)) = true := by decide +kernel
theorem ql_125 : qtlen 125 = 43 := by decide +kernel
theorem qk_125 : ∀ pc, pc < qtlen 125 → qok 125 pc = true := fun pc h => by
  rw [ql_125] at h
  rcases Nat.lt_or_ge pc 43 with h0 | h0
  · have h1 := List.all_eq_true.mp qk_125_0 (pc - 0) (List.mem_range.mpr (by omega))
    rwa [show 0 + (pc - 0) = pc by omega] at h1
  omega
set_option maxRecDepth 100000 in
theorem qk_126_0 : (List.range 76).all (fun i => qok 126 (0 + i)) = true := by decide +kernel
theorem ql_126 : qtlen 126 = 76 := by decide +kernel
theorem qk_126 : ∀ pc, pc < qtlen 126 → qok 126 pc = true := fun pc h => by
  rw [ql_126] at h
  rcases Nat.lt_or_ge pc 76 with h0 | h0
  · have h1 := List.all_eq_true.mp qk_126_0 (pc - 0) (List.mem_range.mpr (by omega))
    rwa [show 0 + (pc - 0) = pc by omega] at h1
  omega
set_option maxRecDepth 100000 in
theorem qk_127_0 : (List.range 10).all (fun i => qok 127 (0 + i)) = true := by decide +kernel
theorem ql_127 : qtlen 127 = 10 := by decide +kernel
theorem qk_127 : ∀ pc, pc < qtlen 127 → qok 127 pc = true := fun pc h => by
  rw [ql_127] at h
  rcases Nat.lt_or_ge pc 10 with h0 | h0
  · have h1 := List.all_eq_true.mp qk_127_0 (pc - 0) (List.mem_range.mpr (by omega))
    rwa [show 0 + (pc - 0) = pc by omega] at h1
  omega
set_option maxRecDepth 100000 in
theorem qk_128_0 : (List.range 40).all (fun i => qok 128 (0 + i)) = true := by decide +kernel
theorem ql_128 : qtlen 128 = 40 := by decide +kernel
theorem qk_128 : ∀ pc, pc < qtlen 128 → qok 128 pc = true := fun pc h => by
  rw [ql_128] at h
  rcases Nat.lt_or_ge pc 40 with h0 | h0
  · have h1 := List.all_eq_true.mp qk_128_0 (pc - 0) (List.mem_range.mpr (by omega))
    rwa [show 0 + (pc - 0) = pc by omega] at h1
  omega
set_option maxRecDepth 100000 in
theorem qk_129_0 : (List.range 21).all (fun i => qok 129 (0 + i)) = true := by decide +kernel
theorem ql_129 : qtlen 129 = 21 := by decide +kernel
theorem qk_129 : ∀ pc, pc < qtlen 129 → qok 129 pc = true := fun pc h => by
  rw [ql_129] at h
  rcases Nat.lt_or_ge pc 21 with h0 | h0
  · have h1 := List.all_eq_true.mp qk_129_0 (pc - 0) (List.mem_range.mpr (by omega))
    rwa [show 0 + (pc - 0) = pc by omega] at h1
  omega
set_option maxRecDepth 100000 in
theorem qk_130_0 : (List.range 20).all (fun i => qok 130 (0 + i)) = true := by decide +kernel
theorem ql_130 : qtlen 130 = 20 := by decide +kernel
theorem qk_130 : ∀ pc, pc < qtlen 130 → qok 130 pc = true := fun pc h => by
  rw [ql_130] at h
  rcases Nat.lt_or_ge pc 20 with h0 | h0
  · have h1 := List.all_eq_true.mp qk_130_0 (pc - 0) (List.mem_range.mpr (by omega))
    rwa [show 0 + (pc - 0) = pc by omega] at h1
  omega
set_option maxRecDepth 100000 in
theorem qk_131_0 : (List.range 20).all (fun i => qok 131 (0 + i)) = true := by decide +kernel
theorem ql_131 : qtlen 131 = 20 := by decide +kernel
theorem qk_131 : ∀ pc, pc < qtlen 131 → qok 131 pc = true := fun pc h => by
  rw [ql_131] at h
  rcases Nat.lt_or_ge pc 20 with h0 | h0
  · have h1 := List.all_eq_true.mp qk_131_0 (pc - 0) (List.mem_range.mpr (by omega))
    rwa [show 0 + (pc - 0) = pc by omega] at h1
  omega
set_option maxRecDepth 100000 in
theorem qk_132_0 : (List.range 23).all (fun i => qok 132 (0 + i)) = true := by decide +kernel
theorem ql_132 : qtlen 132 = 23 := by decide +kernel
theorem qk_132 : ∀ pc, pc < qtlen 132 → qok 132 pc = true := fun pc h => by
  rw [ql_132] at h
  rcases Nat.lt_or_ge pc 23 with h0 | h0
  · have h1 := List.all_eq_true.mp qk_132_0 (pc - 0) (List.mem_range.mpr (by omega))
    rwa [show 0 + (pc - 0) = pc by omega] at h1
  omega
set_option maxRecDepth 100000 in
theorem qk_133_0 : (List.range 27).all (fun i => qok 133 (0 + i)) = true := by decide +kernel
theorem ql_133 : qtlen 133 = 27 := by decide +kernel
theorem qk_133 : ∀ pc, pc < qtlen 133 → qok 133 pc = true := fun pc h => by
  rw [ql_133] at h
  rcases Nat.lt_or_ge pc 27 with h0 | h0
  · have h1 := List.all_eq_true.mp qk_133_0 (pc - 0) (List.mem_range.mpr (by omega))
    rwa [show 0 + (pc - 0) = pc by omega] at h1
  omega
set_option maxRecDepth 100000 in
theorem qk_134_0 : (List.range 19).all (fun i => qok 134 (0 + i)) = true := by decide +kernel
theorem ql_134 : qtlen 134 = 19 := by decide +kernel
theorem qk_134 : ∀ pc, pc < qtlen 134 → qok 134 pc = true := fun pc h => by
  rw [ql_134] at h
  rcases Nat.lt_or_ge pc 19 with h0 | h0
  · have h1 := List.all_eq_true.mp qk_134_0 (pc - 0) (List.mem_range.mpr (by omega))
    rwa [show 0 + (pc - 0) = pc by omega] at h1
  omega
set_option maxRecDepth 100000 in
theorem qk_135_0 : (List.range 17).all (fun i => qok 135 (0 + i)) = true := by decide +kernel
theorem ql_135 : qtlen 135 = 17 := by decide +kernel
theorem qk_135 : ∀ pc, pc < qtlen 135 → qok 135 pc = true := fun pc h => by
  rw [ql_135] at h
  rcases Nat.lt_or_ge pc 17 with h0 | h0
  · have h1 := List.all_eq_true.mp qk_135_0 (pc - 0) (List.mem_range.mpr (by omega))
    rwa [show 0 + (pc - 0) = pc by omega] at h1
  omega
set_option maxRecDepth 100000 in
theorem qk_136_0 : (List.range 23).all (fun i => qok 136 (0 + i)) = true := by decide +kernel
theorem ql_136 : qtlen 136 = 23 := by decide +kernel
theorem qk_136 : ∀ pc, pc < qtlen 136 → qok 136 pc = true := fun pc h => by
  rw [ql_136] at h
  rcases Nat.lt_or_ge pc 23 with h0 | h0
  · have h1 := List.all_eq_true.mp qk_136_0 (pc - 0) (List.mem_range.mpr (by omega))
    rwa [show 0 + (pc - 0) = pc by omega] at h1
  omega
set_option maxRecDepth 100000 in
theorem qk_137_0 : (List.range 17).all (fun i => qok 137 (0 + i)) = true := by decide +kernel
theorem ql_137 : qtlen 137 = 17 := by decide +kernel
theorem qk_137 : ∀ pc, pc < qtlen 137 → qok 137 pc = true := fun pc h => by
  rw [ql_137] at h
  rcases Nat.lt_or_ge pc 17 with h0 | h0
  · have h1 := List.all_eq_true.mp qk_137_0 (pc - 0) (List.mem_range.mpr (by omega))
    rwa [show 0 + (pc - 0) = pc by omega] at h1
  omega
set_option maxRecDepth 100000 in
theorem qk_138_0 : (List.range 17).all (fun i => qok 138 (0 + i)) = true := by decide +kernel
theorem ql_138 : qtlen 138 = 17 := by decide +kernel
theorem qk_138 : ∀ pc, pc < qtlen 138 → qok 138 pc = true := fun pc h => by
  rw [ql_138] at h
  rcases Nat.lt_or_ge pc 17 with h0 | h0
  · have h1 := List.all_eq_true.mp qk_138_0 (pc - 0) (List.mem_range.mpr (by omega))
    rwa [show 0 + (pc - 0) = pc by omega] at h1
  omega
set_option maxRecDepth 100000 in
theorem qk_139_0 : (List.range 17).all (fun i => qok 139 (0 + i)) = true := by decide +kernel
theorem ql_139 : qtlen 139 = 17 := by decide +kernel
theorem qk_139 : ∀ pc, pc < qtlen 139 → qok 139 pc = true := fun pc h => by
  rw [ql_139] at h
  rcases Nat.lt_or_ge pc 17 with h0 | h0
  · have h1 := List.all_eq_true.mp qk_139_0 (pc - 0) (List.mem_range.mpr (by omega))
    rwa [show 0 + (pc - 0) = pc by omega] at h1
  omega
set_option maxRecDepth 100000 in
theorem qk_140_0 : (List.range 15).all (fun i => qok 140 (0 + i)) = true := by decide +kernel
theorem ql_140 : qtlen 140 = 15 := by decide +kernel
theorem qk_140 : ∀ pc, pc < qtlen 140 → qok 140 pc = true := fun pc h => by
  rw [ql_140] at h
  rcases Nat.lt_or_ge pc 15 with h0 | h0
  · have h1 := List.all_eq_true.mp qk_140_0 (pc - 0) (List.mem_range.mpr (by omega))
    rwa [show 0 + (pc - 0) = pc by omega] at h1
  omega
set_option maxRecDepth 100000 in
theorem qk_141_0 : (List.range 19).all (fun i => qok 141 (0 + i)) = true := by decide +kernel
theorem ql_141 : qtlen 141 = 19 := by decide +kernel
theorem qk_141 : ∀ pc, pc < qtlen 141 → qok 141 pc = true := fun pc h => by
  rw [ql_141] at h
  rcases Nat.lt_or_ge pc 19 with h0 | h0
  · have h1 := List.all_eq_true.mp qk_141_0 (pc - 0) (List.mem_range.mpr (by omega))
    rwa [show 0 + (pc - 0) = pc by omega] at h1
  omega
set_option maxRecDepth 100000 in
theorem qk_142_0 : (List.range 19).all (fun i => qok 142 (0 + i)) = true := by decide +kernel
theorem ql_142 : qtlen 142 = 19 := by decide +kernel
theorem qk_142 : ∀ pc, pc < qtlen 142 → qok 142 pc = true := fun pc h => by
  rw [ql_142] at h
  rcases Nat.lt_or_ge pc 19 with h0 | h0
  · have h1 := List.all_eq_true.mp qk_142_0 (pc - 0) (List.mem_range.mpr (by omega))
    rwa [show 0 + (pc - 0) = pc by omega] at h1
  omega
set_option maxRecDepth 100000 in
theorem qk_143_0 : (List.range 17).all (fun i => qok 143 (0 + i)) = true := by decide +kernel
theorem ql_143 : qtlen 143 = 17 := by decide +kernel
theorem qk_143 : ∀ pc, pc < qtlen 143 → qok 143 pc = true := fun pc h => by
  rw [ql_143] at h
  rcases Nat.lt_or_ge pc 17 with h0 | h0
  · have h1 := List.all_eq_true.mp qk_143_0 (pc - 0) (List.mem_range.mpr (by omega))
    rwa [show 0 + (pc - 0) = pc by omega] at h1
  omega
set_option maxRecDepth 100000 in
theorem qk_144_0 : (List.range 17).all (fun i => qok 144 (0 + i)) = true := by decide +kernel
theorem ql_144 : qtlen 144 = 17 := by decide +kernel
theorem qk_144 : ∀ pc, pc < qtlen 144 → qok 144 pc = true := fun pc h => by
  rw [ql_144] at h
  rcases Nat.lt_or_ge pc 17 with h0 | h0
  · have h1 := List.all_eq_true.mp qk_144_0 (pc - 0) (List.mem_range.mpr (by omega))
    rwa [show 0 + (pc - 0) = pc by omega] at h1
  omega
set_option maxRecDepth 100000 in
theorem qk_145_0 : (List.range 14).all (fun i => qok 145 (0 + i)) = true := by decide +kernel
theorem ql_145 : qtlen 145 = 14 := by decide +kernel
theorem qk_145 : ∀ pc, pc < qtlen 145 → qok 145 pc = true := fun pc h => by
  rw [ql_145] at h
  rcases Nat.lt_or_ge pc 14 with h0 | h0
  · have h1 := List.all_eq_true.mp qk_145_0 (pc - 0) (List.mem_range.mpr (by omega))
    rwa [show 0 + (pc - 0) = pc by omega] at h1
  omega
set_option maxRecDepth 100000 in
theorem qk_146_0 : (List.range 14).all (fun i => qok 146 (0 + i)) = true := by decide +kernel
theorem ql_146 : qtlen 146 = 14 := by decide +kernel
theorem qk_146 : ∀ pc, pc < qtlen 146 → qok 146 pc = true := fun pc h => by
  rw [ql_146] at h
  rcases Nat.lt_or_ge pc 14 with h0 | h0
  · have h1 := List.all_eq_true.mp qk_146_0 (pc - 0) (List.mem_range.mpr (by omega))
    rwa [show 0 + (pc - 0) = pc by omega] at h1
  omega
set_option maxRecDepth 100000 in
theorem qk_147_0 : (List.range 17).all (fun i => qok 147 (0 + i)) = true := by decide +kernel
theorem ql_147 : qtlen 147 = 17 := by decide +kernel
theorem qk_147 : ∀ pc, pc < qtlen 147 → qok 147 pc = true := fun pc h => by
  rw [ql_147] at h
  rcases Nat.lt_or_ge pc 17 with h0 | h0
  · have h1 := List.all_eq_true.mp qk_147_0 (pc - 0) (List.mem_range.mpr (by omega))
    rwa [show 0 + (pc - 0) = pc by omega] at h1
  omega
set_option maxRecDepth 100000 in
theorem qk_148_0 : (List.range 15).all (fun i => qok 148 (0 + i)) = true := by decide +kernel
theorem ql_148 : qtlen 148 = 15 := by decide +kernel
theorem qk_148 : ∀ pc, pc < qtlen 148 → qok 148 pc = true := fun pc h => by
  rw [ql_148] at h
  rcases Nat.lt_or_ge pc 15 with h0 | h0
  · have h1 := List.all_eq_true.mp qk_148_0 (pc - 0) (List.mem_range.mpr (by omega))
    rwa [show 0 + (pc - 0) = pc by omega] at h1
  omega
set_option maxRecDepth 100000 in
theorem qk_149_0 : (List.range 17).all (fun i => qok 149 (0 + i)) = true := by decide +kernel
theorem ql_149 : qtlen 149 = 17 := by decide +kernel
theorem qk_149 : ∀ pc, pc < qtlen 149 → qok 149 pc = true := fun pc h => by
  rw [ql_149] at h
  rcases Nat.lt_or_ge pc 17 with h0 | h0
  · have h1 := List.all_eq_true.mp qk_149_0 (pc - 0) (List.mem_range.mpr (by omega))
    rwa [show 0 + (pc - 0) = pc by omega] at h1
  omega
set_option maxRecDepth 100000 in
theorem qk_150_0 : (List.range 17).all (fun i => qok 150 (0 + i)) = true := by decide +kernel
theorem ql_150 : qtlen 150 = 17 := by decide +kernel
theorem qk_150 : ∀ pc, pc < qtlen 150 → qok 150 pc = true := fun pc h => by
  rw [ql_150] at h
  rcases Nat.lt_or_ge pc 17 with h0 | h0
  · have h1 := List.all_eq_true.mp qk_150_0 (pc - 0) (List.mem_range.mpr (by omega))
    rwa [show 0 + (pc - 0) = pc by omega] at h1
  omega
set_option maxRecDepth 100000 in
theorem qk_151_0 : (List.range 17).all (fun i => qok 151 (0 + i)) = true := by decide +kernel
theorem ql_151 : qtlen 151 = 17 := by decide +kernel
theorem qk_151 : ∀ pc, pc < qtlen 151 → qok 151 pc = true := fun pc h => by
  rw [ql_151] at h
  rcases Nat.lt_or_ge pc 17 with h0 | h0
  · have h1 := List.all_eq_true.mp qk_151_0 (pc - 0) (List.mem_range.mpr (by omega))
    rwa [show 0 + (pc - 0) = pc by omega] at h1
  omega
set_option maxRecDepth 100000 in
theorem qk_152_0 : (List.range 17).all (fun i => qok 152 (0 + i)) = true := by decide +kernel
theorem ql_152 : qtlen 152 = 17 := by decide +kernel
theorem qk_152 : ∀ pc, pc < qtlen 152 → qok 152 pc = true := fun pc h => by
  rw [ql_152] at h
  rcases Nat.lt_or_ge pc 17 with h0 | h0
  · have h1 := List.all_eq_true.mp qk_152_0 (pc - 0) (List.mem_range.mpr (by omega))
    rwa [show 0 + (pc - 0) = pc by omega] at h1
  omega
set_option maxRecDepth 100000 in
theorem qk_153_0 : (List.range 400).all (fun i => qok 153 (0 + i)) = true := by decide +kernel
set_option maxRecDepth 100000 in
theorem qk_153_1 : (List.range 400).all (fun i => qok 153 (400 + i)) = true := by decide +kernel
set_option maxRecDepth 100000 in
theorem qk_153_2 : (List.range 400).all (fun i => qok 153 (800 + i)) = true := by decide +kernel
set_option maxRecDepth 100000 in
theorem qk_153_3 : (List.range 400).all (fun i => qok 153 (1200 + i)) = true := by decide +kernel
set_option maxRecDepth 100000 in
theorem qk_153_4 : (List.range 95).all (fun i => qok 153 (1600 + i)) = true := by decide +kernel
theorem ql_153 : qtlen 153 = 1695 := by decide +kernel
theorem qk_153 : ∀ pc, pc < qtlen 153 → qok 153 pc = true := fun pc h => by
  rw [ql_153] at h
  rcases Nat.lt_or_ge pc 400 with h0 | h0
  · have h1 := List.all_eq_true.mp qk_153_0 (pc - 0) (List.mem_range.mpr (by omega))
    rwa [show 0 + (pc - 0) = pc by omega] at h1
  rcases Nat.lt_or_ge pc 800 with h1 | h1
  · have h1 := List.all_eq_true.mp qk_153_1 (pc - 400) (List.mem_range.mpr (by omega))
    rwa [show 400 + (pc - 400) = pc by omega] at h1
  rcases Nat.lt_or_ge pc 1200 with h2 | h2
  · have h1 := List.all_eq_true.mp qk_153_2 (pc - 800) (List.mem_range.mpr (by omega))
    rwa [show 800 + (pc - 800) = pc by omega] at h1
  rcases Nat.lt_or_ge pc 1600 with h3 | h3
  · have h1 := List.all_eq_true.mp qk_153_3 (pc - 1200) (List.mem_range.mpr (by omega))
    rwa [show 1200 + (pc - 1200) = pc by omega] at h1
  rcases Nat.lt_or_ge pc 1695 with h4 | h4
  · have h1 := List.all_eq_true.mp qk_153_4 (pc - 1600) (List.mem_range.mpr (by omega))
    rwa [show 1600 + (pc - 1600) = pc by omega] at h1
  omega
set_option maxRecDepth 100000 in
theorem qk_154_0 : (List.range 30).all (fun i => qok 154 (0 + i)) = true := by decide +kernel
theorem ql_154 : qtlen 154 = 30 := by decide +kernel
theorem qk_154 : ∀ pc, pc < qtlen 154 → qok 154 pc = true := fun pc h => by
  rw [ql_154] at h
  rcases Nat.lt_or_ge pc 30 with h0 | h0
  · have h1 := List.all_eq_true.mp qk_154_0 (pc - 0) (List.mem_range.mpr (by omega))
    rwa [show 0 + (pc - 0) = pc by omega] at h1
  omega
set_option maxRecDepth 100000 in
theorem qk_155_0 : (List.range 30).all (fun i => qok 155 (0 + i)) = true := by decide +kernel
theorem ql_155 : qtlen 155 = 30 := by decide +kernel
theorem qk_155 : ∀ pc, pc < qtlen 155 → qok 155 pc = true := fun pc h => by
  rw [ql_155] at h
  rcases Nat.lt_or_ge pc 30 with h0 | h0
  · have h1 := List.all_eq_true.mp qk_155_0 (pc - 0) (List.mem_range.mpr (by omega))
    rwa [show 0 + (pc - 0) = pc by omega] at h1
  omega
set_option maxRecDepth 100000 in
theorem qk_156_0 : (List.range 30).all (fun i => qok 156 (0 + i)) = true := by decide +kernel
theorem ql_156 : qtlen 156 = 30 := by decide +kernel
theorem qk_156 : ∀ pc, pc < qtlen 156 → qok 156 pc = true := fun pc h => by
  rw [ql_156] at h
  rcases Nat.lt_or_ge pc 30 with h0 | h0
  · have h1 := List.all_eq_true.mp qk_156_0 (pc - 0) (List.mem_range.mpr (by omega))
    rwa [show 0 + (pc - 0) = pc by omega] at h1
  omega
set_option maxRecDepth 100000 in
theorem qk_157_0 : (List.range 30).all (fun i => qok 157 (0 + i)) = true := by decide +kernel
theorem ql_157 : qtlen 157 = 30 := by decide +kernel
theorem qk_157 : ∀ pc, pc < qtlen 157 → qok 157 pc = true := fun pc h => by
  rw [ql_157] at h
  rcases Nat.lt_or_ge pc 30 with h0 | h0
  · have h1 := List.all_eq_true.mp qk_157_0 (pc - 0) (List.mem_range.mpr (by omega))
    rwa [show 0 + (pc - 0) = pc by omega] at h1
  omega
set_option maxRecDepth 100000 in
theorem qk_158_0 : (List.range 30).all (fun i => qok 158 (0 + i)) = true := by decide +kernel
theorem ql_158 : qtlen 158 = 30 := by decide +kernel
theorem qk_158 : ∀ pc, pc < qtlen 158 → qok 158 pc = true := fun pc h => by
  rw [ql_158] at h
  rcases Nat.lt_or_ge pc 30 with h0 | h0
  · have h1 := List.all_eq_true.mp qk_158_0 (pc - 0) (List.mem_range.mpr (by omega))
    rwa [show 0 + (pc - 0) = pc by omega] at h1
  omega
set_option maxRecDepth 100000 in
theorem qk_159_0 : (List.range 30).all (fun i => qok 159 (0 + i)) = true := by decide +kernel
theorem ql_159 : qtlen 159 = 30 := by decide +kernel
theorem qk_159 : ∀ pc, pc < qtlen 159 → qok 159 pc = true := fun pc h => by
  rw [ql_159] at h
  rcases Nat.lt_or_ge pc 30 with h0 | h0
  · have h1 := List.all_eq_true.mp qk_159_0 (pc - 0) (List.mem_range.mpr (by omega))
    rwa [show 0 + (pc - 0) = pc by omega] at h1
  omega
set_option maxRecDepth 100000 in
theorem qk_160_0 : (List.range 30).all (fun i => qok 160 (0 + i)) = true := by decide +kernel
theorem ql_160 : qtlen 160 = 30 := by decide +kernel
theorem qk_160 : ∀ pc, pc < qtlen 160 → qok 160 pc = true := fun pc h => by
  rw [ql_160] at h
  rcases Nat.lt_or_ge pc 30 with h0 | h0
  · have h1 := List.all_eq_true.mp qk_160_0 (pc - 0) (List.mem_range.mpr (by omega))
    rwa [show 0 + (pc - 0) = pc by omega] at h1
  omega
set_option maxRecDepth 100000 in
theorem qk_161_0 : (List.range 30).all (fun i => qok 161 (0 + i)) = true := by decide +kernel
theorem ql_161 : qtlen 161 = 30 := by decide +kernel
theorem qk_161 : ∀ pc, pc < qtlen 161 → qok 161 pc = true := fun pc h => by
  rw [ql_161] at h
  rcases Nat.lt_or_ge pc 30 with h0 | h0
  · have h1 := List.all_eq_true.mp qk_161_0 (pc - 0) (List.mem_range.mpr (by omega))
    rwa [show 0 + (pc - 0) = pc by omega] at h1
  omega
set_option maxRecDepth 100000 in
theorem qk_162_0 : (List.range 30).all (fun i => qok 162 (0 + i)) = true := by decide +kernel
theorem ql_162 : qtlen 162 = 30 := by decide +kernel
theorem qk_162 : ∀ pc, pc < qtlen 162 → qok 162 pc = true := fun pc h => by
  rw [ql_162] at h
  rcases Nat.lt_or_ge pc 30 with h0 | h0
  · have h1 := List.all_eq_true.mp qk_162_0 (pc - 0) (List.mem_range.mpr (by omega))
    rwa [show 0 + (pc - 0) = pc by omega] at h1
  omega
