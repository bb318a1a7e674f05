/-! ===== the abstract machine's table says what the small one's tables say ===== -/
def qkd (e : mIns) : Nat := match e.2.1 with
  | .invokestatic _ => 0
  | .invokespecial _ => 1
  | .invokevirtual _ => 2
  | _ => 9
def qrk (e : mIns) : Nat := match e.2.1 with
  | .ireturn => 0
  | .areturn => 1
  | .lreturn => 5
  | .dreturn => 6
  | .return_ => 9
  | .new _ => if e.2.2.2.1 = 995 then 46 else 99
  | _ => 99
def qgI (j x y z u v : Nat) (e : mIns) : Bool := match mPos[x]?, mmeth x with
  | some q, some k => decide (e.2.2.2.1 = x ∧ e.1 + 3 = y ∧ x ≤ 990 ∧ z = q.2.2.2.2.2 ∧ v / 64 = k.2.2.1 ∧ mfits j x = true) && (if u = 3 then decide (qkd e = 0 ∧ (mhof x).isSome = true ∧ e.2.2.1 = 0) else (if u = 0 then decide (qkd e = 0 ∧ q.1 ≠ 99999 ∧ q.2.2.2.2.1 = true ∧ e.2.2.1 ≤ 1 ∧ mhof x = none) else (if u = 1 then decide (qkd e = 1 ∧ q.1 ≠ 99999 ∧ q.2.2.2.2.1 = false ∧ k.1.name = "<init>" ∧ k.2.2.2.1 = none) else decide (u = 2 ∧ qkd e = 2 ∧ q.1 ≠ 99999 ∧ q.2.2.2.2.1 = false ∧ q.2.2.1 ≠ 99999 ∧ e.2.2.1 = 0 ∧ (mCl[v % 64]?).map (fun c => c.1) = some k.1.cls))))
  | _, _ => false
def qgR (v z : Nat) (e : mIns) (ty : Option FieldType) : Bool := decide (qrk e = z) && (if z = 0 then (if v = 0 then decide (ty = some .int) else decide (v = 1 ∧ ty = some .boolean)) else (if z = 1 then (match ty with
  | some (.object _) => true
  | some (.array _) => true
  | _ => false) else (if z = 5 then decide (ty = some .long) else (if z = 6 then decide (ty = some .double) else decide (z = 9 ∧ ty = none)))))
def qgS (op y v : Nat) (e : mIns) (r : mMth) : Bool := decide (e.1 + 3 = y ∧ 1 ≤ r.2.2.2.2.2.1 ∧ v = r.2.2.2.2.2.2) && (if op = 41 then decide (qkd e = 1 ∧ e.2.2.2.1 = 998) else (if op = 42 then decide (qkd e = 0 ∧ e.2.2.2.1 = 997 ∧ mMathPos.2.2.1 ≠ 99999) else decide (op = 43 ∧ qkd e = 0 ∧ e.2.2.2.1 = 996 ∧ mMathPos.1 ≠ 99999)))
def qgood (j pc : Nat) (i : qI) : Bool := match i, mmeth j with
  | (op, x, y, z, u, v, e), some r => decide (mlook (mcode j) pc = some e ∧ e.1 = pc) && (if op < 40 then decide (qenc e = (op, x, y, z, u) ∧ v = r.2.2.1) else (if op = 40 then qgI j x y z u v e else (if op ≤ 43 then qgS op y v e r else (if op = 45 then qgR v z e r.2.2.2.1 else decide (op = 46 ∧ qrk e = 46 ∧ e.2.2.2.2.1 = x)))))
  | _, _ => false
noncomputable def qok (j pc : Nat) : Bool := qif (Nat.beq (qtab j pc).1 99) true (qgood j pc (qtab j pc))
set_option maxRecDepth 100000 in
theorem qk_0_0 : (List.range 1700).all (fun i => qok 0 (0 + i)) = true := by decide +kernel
theorem qk_0 : ∀ pc, pc < 1700 → qok 0 pc = true := fun pc h => by
  have h1 := List.all_eq_true.mp qk_0_0 pc (List.mem_range.mpr h)
  rwa [Nat.zero_add] at h1
set_option maxRecDepth 100000 in
theorem qk_1_0 : (List.range 1700).all (fun i => qok 1 (0 + i)) = true := by decide +kernel
theorem qk_1 : ∀ pc, pc < 1700 → qok 1 pc = true := fun pc h => by
  have h1 := List.all_eq_true.mp qk_1_0 pc (List.mem_range.mpr h)
  rwa [Nat.zero_add] at h1
set_option maxRecDepth 100000 in
theorem qk_2_0 : (List.range 1700).all (fun i => qok 2 (0 + i)) = true := by decide +kernel
theorem qk_2 : ∀ pc, pc < 1700 → qok 2 pc = true := fun pc h => by
  have h1 := List.all_eq_true.mp qk_2_0 pc (List.mem_range.mpr h)
  rwa [Nat.zero_add] at h1
set_option maxRecDepth 100000 in
theorem qk_3_0 : (List.range 1700).all (fun i => qok 3 (0 + i)) = true := by decide +kernel
theorem qk_3 : ∀ pc, pc < 1700 → qok 3 pc = true := fun pc h => by
  have h1 := List.all_eq_true.mp qk_3_0 pc (List.mem_range.mpr h)
  rwa [Nat.zero_add] at h1
set_option maxRecDepth 100000 in
theorem qk_4_0 : (List.range 1700).all (fun i => qok 4 (0 + i)) = true := by decide +kernel
theorem qk_4 : ∀ pc, pc < 1700 → qok 4 pc = true := fun pc h => by
  have h1 := List.all_eq_true.mp qk_4_0 pc (List.mem_range.mpr h)
  rwa [Nat.zero_add] at h1
set_option maxRecDepth 100000 in
theorem qk_5_0 : (List.range 1700).all (fun i => qok 5 (0 + i)) = true := by decide +kernel
theorem qk_5 : ∀ pc, pc < 1700 → qok 5 pc = true := fun pc h => by
  have h1 := List.all_eq_true.mp qk_5_0 pc (List.mem_range.mpr h)
  rwa [Nat.zero_add] at h1
set_option maxRecDepth 100000 in
theorem qk_6_0 : (List.range 1700).all (fun i => qok 6 (0 + i)) = true := by decide +kernel
theorem qk_6 : ∀ pc, pc < 1700 → qok 6 pc = true := fun pc h => by
  have h1 := List.all_eq_true.mp qk_6_0 pc (List.mem_range.mpr h)
  rwa [Nat.zero_add] at h1
set_option maxRecDepth 100000 in
theorem qk_7_0 : (List.range 1700).all (fun i => qok 7 (0 + i)) = true := by decide +kernel
theorem qk_7 : ∀ pc, pc < 1700 → qok 7 pc = true := fun pc h => by
  have h1 := List.all_eq_true.mp qk_7_0 pc (List.mem_range.mpr h)
  rwa [Nat.zero_add] at h1
set_option maxRecDepth 100000 in
theorem qk_8_0 : (List.range 1700).all (fun i => qok 8 (0 + i)) = true := by decide +kernel
theorem qk_8 : ∀ pc, pc < 1700 → qok 8 pc = true := fun pc h => by
  have h1 := List.all_eq_true.mp qk_8_0 pc (List.mem_range.mpr h)
  rwa [Nat.zero_add] at h1
set_option maxRecDepth 100000 in
theorem qk_9_0 : (List.range 1700).all (fun i => qok 9 (0 + i)) = true := by decide +kernel
theorem qk_9 : ∀ pc, pc < 1700 → qok 9 pc = true := fun pc h => by
  have h1 := List.all_eq_true.mp qk_9_0 pc (List.mem_range.mpr h)
  rwa [Nat.zero_add] at h1
set_option maxRecDepth 100000 in
theorem qk_10_0 : (List.range 1700).all (fun i => qok 10 (0 + i)) = true := by decide +kernel
theorem qk_10 : ∀ pc, pc < 1700 → qok 10 pc = true := fun pc h => by
  have h1 := List.all_eq_true.mp qk_10_0 pc (List.mem_range.mpr h)
  rwa [Nat.zero_add] at h1
set_option maxRecDepth 100000 in
theorem qk_11_0 : (List.range 1700).all (fun i => qok 11 (0 + i)) = true := by decide +kernel
theorem qk_11 : ∀ pc, pc < 1700 → qok 11 pc = true := fun pc h => by
  have h1 := List.all_eq_true.mp qk_11_0 pc (List.mem_range.mpr h)
  rwa [Nat.zero_add] at h1
set_option maxRecDepth 100000 in
theorem qk_12_0 : (List.range 1700).all (fun i => qok 12 (0 + i)) = true := by decide +kernel
theorem qk_12 : ∀ pc, pc < 1700 → qok 12 pc = true := fun pc h => by
  have h1 := List.all_eq_true.mp qk_12_0 pc (List.mem_range.mpr h)
  rwa [Nat.zero_add] at h1
set_option maxRecDepth 100000 in
theorem qk_13_0 : (List.range 1700).all (fun i => qok 13 (0 + i)) = true := by decide +kernel
theorem qk_13 : ∀ pc, pc < 1700 → qok 13 pc = true := fun pc h => by
  have h1 := List.all_eq_true.mp qk_13_0 pc (List.mem_range.mpr h)
  rwa [Nat.zero_add] at h1
set_option maxRecDepth 100000 in
theorem qk_14_0 : (List.range 1700).all (fun i => qok 14 (0 + i)) = true := by decide +kernel
theorem qk_14 : ∀ pc, pc < 1700 → qok 14 pc = true := fun pc h => by
  have h1 := List.all_eq_true.mp qk_14_0 pc (List.mem_range.mpr h)
  rwa [Nat.zero_add] at h1
set_option maxRecDepth 100000 in
theorem qk_15_0 : (List.range 1700).all (fun i => qok 15 (0 + i)) = true := by decide +kernel
theorem qk_15 : ∀ pc, pc < 1700 → qok 15 pc = true := fun pc h => by
  have h1 := List.all_eq_true.mp qk_15_0 pc (List.mem_range.mpr h)
  rwa [Nat.zero_add] at h1
set_option maxRecDepth 100000 in
theorem qk_16_0 : (List.range 1700).all (fun i => qok 16 (0 + i)) = true := by decide +kernel
theorem qk_16 : ∀ pc, pc < 1700 → qok 16 pc = true := fun pc h => by
  have h1 := List.all_eq_true.mp qk_16_0 pc (List.mem_range.mpr h)
  rwa [Nat.zero_add] at h1
set_option maxRecDepth 100000 in
theorem qk_17_0 : (List.range 1700).all (fun i => qok 17 (0 + i)) = true := by decide +kernel
theorem qk_17 : ∀ pc, pc < 1700 → qok 17 pc = true := fun pc h => by
  have h1 := List.all_eq_true.mp qk_17_0 pc (List.mem_range.mpr h)
  rwa [Nat.zero_add] at h1
set_option maxRecDepth 100000 in
theorem qk_18_0 : (List.range 1700).all (fun i => qok 18 (0 + i)) = true := by decide +kernel
theorem qk_18 : ∀ pc, pc < 1700 → qok 18 pc = true := fun pc h => by
  have h1 := List.all_eq_true.mp qk_18_0 pc (List.mem_range.mpr h)
  rwa [Nat.zero_add] at h1
set_option maxRecDepth 100000 in
theorem qk_19_0 : (List.range 1700).all (fun i => qok 19 (0 + i)) = true := by decide +kernel
theorem qk_19 : ∀ pc, pc < 1700 → qok 19 pc = true := fun pc h => by
  have h1 := List.all_eq_true.mp qk_19_0 pc (List.mem_range.mpr h)
  rwa [Nat.zero_add] at h1
set_option maxRecDepth 100000 in
theorem qk_20_0 : (List.range 1700).all (fun i => qok 20 (0 + i)) = true := by decide +kernel
theorem qk_20 : ∀ pc, pc < 1700 → qok 20 pc = true := fun pc h => by
  have h1 := List.all_eq_true.mp qk_20_0 pc (List.mem_range.mpr h)
  rwa [Nat.zero_add] at h1
set_option maxRecDepth 100000 in
theorem qk_21_0 : (List.range 1700).all (fun i => qok 21 (0 + i)) = true := by decide +kernel
theorem qk_21 : ∀ pc, pc < 1700 → qok 21 pc = true := fun pc h => by
  have h1 := List.all_eq_true.mp qk_21_0 pc (List.mem_range.mpr h)
  rwa [Nat.zero_add] at h1
set_option maxRecDepth 100000 in
theorem qk_22_0 : (List.range 1700).all (fun i => qok 22 (0 + i)) = true := by decide +kernel
theorem qk_22 : ∀ pc, pc < 1700 → qok 22 pc = true := fun pc h => by
  have h1 := List.all_eq_true.mp qk_22_0 pc (List.mem_range.mpr h)
  rwa [Nat.zero_add] at h1
set_option maxRecDepth 100000 in
theorem qk_23_0 : (List.range 1700).all (fun i => qok 23 (0 + i)) = true := by decide +kernel
theorem qk_23 : ∀ pc, pc < 1700 → qok 23 pc = true := fun pc h => by
  have h1 := List.all_eq_true.mp qk_23_0 pc (List.mem_range.mpr h)
  rwa [Nat.zero_add] at h1
set_option maxRecDepth 100000 in
theorem qk_24_0 : (List.range 1700).all (fun i => qok 24 (0 + i)) = true := by decide +kernel
theorem qk_24 : ∀ pc, pc < 1700 → qok 24 pc = true := fun pc h => by
  have h1 := List.all_eq_true.mp qk_24_0 pc (List.mem_range.mpr h)
  rwa [Nat.zero_add] at h1
set_option maxRecDepth 100000 in
theorem qk_25_0 : (List.range 1700).all (fun i => qok 25 (0 + i)) = true := by decide +kernel
theorem qk_25 : ∀ pc, pc < 1700 → qok 25 pc = true := fun pc h => by
  have h1 := List.all_eq_true.mp qk_25_0 pc (List.mem_range.mpr h)
  rwa [Nat.zero_add] at h1
set_option maxRecDepth 100000 in
theorem qk_26_0 : (List.range 1700).all (fun i => qok 26 (0 + i)) = true := by decide +kernel
theorem qk_26 : ∀ pc, pc < 1700 → qok 26 pc = true := fun pc h => by
  have h1 := List.all_eq_true.mp qk_26_0 pc (List.mem_range.mpr h)
  rwa [Nat.zero_add] at h1
set_option maxRecDepth 100000 in
theorem qk_27_0 : (List.range 1700).all (fun i => qok 27 (0 + i)) = true := by decide +kernel
theorem qk_27 : ∀ pc, pc < 1700 → qok 27 pc = true := fun pc h => by
  have h1 := List.all_eq_true.mp qk_27_0 pc (List.mem_range.mpr h)
  rwa [Nat.zero_add] at h1
set_option maxRecDepth 100000 in
theorem qk_28_0 : (List.range 1700).all (fun i => qok 28 (0 + i)) = true := by decide +kernel
theorem qk_28 : ∀ pc, pc < 1700 → qok 28 pc = true := fun pc h => by
  have h1 := List.all_eq_true.mp qk_28_0 pc (List.mem_range.mpr h)
  rwa [Nat.zero_add] at h1
set_option maxRecDepth 100000 in
theorem qk_29_0 : (List.range 1700).all (fun i => qok 29 (0 + i)) = true := by decide +kernel
theorem qk_29 : ∀ pc, pc < 1700 → qok 29 pc = true := fun pc h => by
  have h1 := List.all_eq_true.mp qk_29_0 pc (List.mem_range.mpr h)
  rwa [Nat.zero_add] at h1
set_option maxRecDepth 100000 in
theorem qk_30_0 : (List.range 1700).all (fun i => qok 30 (0 + i)) = true := by decide +kernel
theorem qk_30 : ∀ pc, pc < 1700 → qok 30 pc = true := fun pc h => by
  have h1 := List.all_eq_true.mp qk_30_0 pc (List.mem_range.mpr h)
  rwa [Nat.zero_add] at h1
set_option maxRecDepth 100000 in
theorem qk_31_0 : (List.range 1700).all (fun i => qok 31 (0 + i)) = true := by decide +kernel
theorem qk_31 : ∀ pc, pc < 1700 → qok 31 pc = true := fun pc h => by
  have h1 := List.all_eq_true.mp qk_31_0 pc (List.mem_range.mpr h)
  rwa [Nat.zero_add] at h1
set_option maxRecDepth 100000 in
theorem qk_32_0 : (List.range 1700).all (fun i => qok 32 (0 + i)) = true := by decide +kernel
theorem qk_32 : ∀ pc, pc < 1700 → qok 32 pc = true := fun pc h => by
  have h1 := List.all_eq_true.mp qk_32_0 pc (List.mem_range.mpr h)
  rwa [Nat.zero_add] at h1
set_option maxRecDepth 100000 in
theorem qk_33_0 : (List.range 1700).all (fun i => qok 33 (0 + i)) = true := by decide +kernel
theorem qk_33 : ∀ pc, pc < 1700 → qok 33 pc = true := fun pc h => by
  have h1 := List.all_eq_true.mp qk_33_0 pc (List.mem_range.mpr h)
  rwa [Nat.zero_add] at h1
set_option maxRecDepth 100000 in
theorem qk_34_0 : (List.range 1700).all (fun i => qok 34 (0 + i)) = true := by decide +kernel
theorem qk_34 : ∀ pc, pc < 1700 → qok 34 pc = true := fun pc h => by
  have h1 := List.all_eq_true.mp qk_34_0 pc (List.mem_range.mpr h)
  rwa [Nat.zero_add] at h1
set_option maxRecDepth 100000 in
theorem qk_35_0 : (List.range 1700).all (fun i => qok 35 (0 + i)) = true := by decide +kernel
theorem qk_35 : ∀ pc, pc < 1700 → qok 35 pc = true := fun pc h => by
  have h1 := List.all_eq_true.mp qk_35_0 pc (List.mem_range.mpr h)
  rwa [Nat.zero_add] at h1
set_option maxRecDepth 100000 in
theorem qk_36_0 : (List.range 1700).all (fun i => qok 36 (0 + i)) = true := by decide +kernel
theorem qk_36 : ∀ pc, pc < 1700 → qok 36 pc = true := fun pc h => by
  have h1 := List.all_eq_true.mp qk_36_0 pc (List.mem_range.mpr h)
  rwa [Nat.zero_add] at h1
set_option maxRecDepth 100000 in
theorem qk_37_0 : (List.range 1700).all (fun i => qok 37 (0 + i)) = true := by decide +kernel
theorem qk_37 : ∀ pc, pc < 1700 → qok 37 pc = true := fun pc h => by
  have h1 := List.all_eq_true.mp qk_37_0 pc (List.mem_range.mpr h)
  rwa [Nat.zero_add] at h1
set_option maxRecDepth 100000 in
theorem qk_38_0 : (List.range 1700).all (fun i => qok 38 (0 + i)) = true := by decide +kernel
theorem qk_38 : ∀ pc, pc < 1700 → qok 38 pc = true := fun pc h => by
  have h1 := List.all_eq_true.mp qk_38_0 pc (List.mem_range.mpr h)
  rwa [Nat.zero_add] at h1
set_option maxRecDepth 100000 in
theorem qk_39_0 : (List.range 1700).all (fun i => qok 39 (0 + i)) = true := by decide +kernel
theorem qk_39 : ∀ pc, pc < 1700 → qok 39 pc = true := fun pc h => by
  have h1 := List.all_eq_true.mp qk_39_0 pc (List.mem_range.mpr h)
  rwa [Nat.zero_add] at h1
set_option maxRecDepth 100000 in
theorem qk_40_0 : (List.range 1700).all (fun i => qok 40 (0 + i)) = true := by decide +kernel
theorem qk_40 : ∀ pc, pc < 1700 → qok 40 pc = true := fun pc h => by
  have h1 := List.all_eq_true.mp qk_40_0 pc (List.mem_range.mpr h)
  rwa [Nat.zero_add] at h1
set_option maxRecDepth 100000 in
theorem qk_41_0 : (List.range 1700).all (fun i => qok 41 (0 + i)) = true := by decide +kernel
theorem qk_41 : ∀ pc, pc < 1700 → qok 41 pc = true := fun pc h => by
  have h1 := List.all_eq_true.mp qk_41_0 pc (List.mem_range.mpr h)
  rwa [Nat.zero_add] at h1
set_option maxRecDepth 100000 in
theorem qk_42_0 : (List.range 1700).all (fun i => qok 42 (0 + i)) = true := by decide +kernel
theorem qk_42 : ∀ pc, pc < 1700 → qok 42 pc = true := fun pc h => by
  have h1 := List.all_eq_true.mp qk_42_0 pc (List.mem_range.mpr h)
  rwa [Nat.zero_add] at h1
set_option maxRecDepth 100000 in
theorem qk_43_0 : (List.range 1700).all (fun i => qok 43 (0 + i)) = true := by decide +kernel
theorem qk_43 : ∀ pc, pc < 1700 → qok 43 pc = true := fun pc h => by
  have h1 := List.all_eq_true.mp qk_43_0 pc (List.mem_range.mpr h)
  rwa [Nat.zero_add] at h1
set_option maxRecDepth 100000 in
theorem qk_44_0 : (List.range 1700).all (fun i => qok 44 (0 + i)) = true := by decide +kernel
theorem qk_44 : ∀ pc, pc < 1700 → qok 44 pc = true := fun pc h => by
  have h1 := List.all_eq_true.mp qk_44_0 pc (List.mem_range.mpr h)
  rwa [Nat.zero_add] at h1
set_option maxRecDepth 100000 in
theorem qk_45_0 : (List.range 1700).all (fun i => qok 45 (0 + i)) = true := by decide +kernel
theorem qk_45 : ∀ pc, pc < 1700 → qok 45 pc = true := fun pc h => by
  have h1 := List.all_eq_true.mp qk_45_0 pc (List.mem_range.mpr h)
  rwa [Nat.zero_add] at h1
set_option maxRecDepth 100000 in
theorem qk_46_0 : (List.range 1700).all (fun i => qok 46 (0 + i)) = true := by decide +kernel
theorem qk_46 : ∀ pc, pc < 1700 → qok 46 pc = true := fun pc h => by
  have h1 := List.all_eq_true.mp qk_46_0 pc (List.mem_range.mpr h)
  rwa [Nat.zero_add] at h1
set_option maxRecDepth 100000 in
theorem qk_47_0 : (List.range 1700).all (fun i => qok 47 (0 + i)) = true := by decide +kernel
theorem qk_47 : ∀ pc, pc < 1700 → qok 47 pc = true := fun pc h => by
  have h1 := List.all_eq_true.mp qk_47_0 pc (List.mem_range.mpr h)
  rwa [Nat.zero_add] at h1
set_option maxRecDepth 100000 in
theorem qk_48_0 : (List.range 1700).all (fun i => qok 48 (0 + i)) = true := by decide +kernel
theorem qk_48 : ∀ pc, pc < 1700 → qok 48 pc = true := fun pc h => by
  have h1 := List.all_eq_true.mp qk_48_0 pc (List.mem_range.mpr h)
  rwa [Nat.zero_add] at h1
set_option maxRecDepth 100000 in
theorem qk_49_0 : (List.range 1700).all (fun i => qok 49 (0 + i)) = true := by decide +kernel
theorem qk_49 : ∀ pc, pc < 1700 → qok 49 pc = true := fun pc h => by
  have h1 := List.all_eq_true.mp qk_49_0 pc (List.mem_range.mpr h)
  rwa [Nat.zero_add] at h1
set_option maxRecDepth 100000 in
theorem qk_50_0 : (List.range 1700).all (fun i => qok 50 (0 + i)) = true := by decide +kernel
theorem qk_50 : ∀ pc, pc < 1700 → qok 50 pc = true := fun pc h => by
  have h1 := List.all_eq_true.mp qk_50_0 pc (List.mem_range.mpr h)
  rwa [Nat.zero_add] at h1
set_option maxRecDepth 100000 in
theorem qk_51_0 : (List.range 1700).all (fun i => qok 51 (0 + i)) = true := by decide +kernel
theorem qk_51 : ∀ pc, pc < 1700 → qok 51 pc = true := fun pc h => by
  have h1 := List.all_eq_true.mp qk_51_0 pc (List.mem_range.mpr h)
  rwa [Nat.zero_add] at h1
set_option maxRecDepth 100000 in
theorem qk_52_0 : (List.range 1700).all (fun i => qok 52 (0 + i)) = true := by decide +kernel
theorem qk_52 : ∀ pc, pc < 1700 → qok 52 pc = true := fun pc h => by
  have h1 := List.all_eq_true.mp qk_52_0 pc (List.mem_range.mpr h)
  rwa [Nat.zero_add] at h1
set_option maxRecDepth 100000 in
theorem qk_53_0 : (List.range 1700).all (fun i => qok 53 (0 + i)) = true := by decide +kernel
theorem qk_53 : ∀ pc, pc < 1700 → qok 53 pc = true := fun pc h => by
  have h1 := List.all_eq_true.mp qk_53_0 pc (List.mem_range.mpr h)
  rwa [Nat.zero_add] at h1
set_option maxRecDepth 100000 in
theorem qk_54_0 : (List.range 1700).all (fun i => qok 54 (0 + i)) = true := by decide +kernel
theorem qk_54 : ∀ pc, pc < 1700 → qok 54 pc = true := fun pc h => by
  have h1 := List.all_eq_true.mp qk_54_0 pc (List.mem_range.mpr h)
  rwa [Nat.zero_add] at h1
set_option maxRecDepth 100000 in
theorem qk_55_0 : (List.range 1700).all (fun i => qok 55 (0 + i)) = true := by decide +kernel
theorem qk_55 : ∀ pc, pc < 1700 → qok 55 pc = true := fun pc h => by
  have h1 := List.all_eq_true.mp qk_55_0 pc (List.mem_range.mpr h)
  rwa [Nat.zero_add] at h1
set_option maxRecDepth 100000 in
theorem qk_56_0 : (List.range 1700).all (fun i => qok 56 (0 + i)) = true := by decide +kernel
theorem qk_56 : ∀ pc, pc < 1700 → qok 56 pc = true := fun pc h => by
  have h1 := List.all_eq_true.mp qk_56_0 pc (List.mem_range.mpr h)
  rwa [Nat.zero_add] at h1
set_option maxRecDepth 100000 in
theorem qk_57_0 : (List.range 1700).all (fun i => qok 57 (0 + i)) = true := by decide +kernel
theorem qk_57 : ∀ pc, pc < 1700 → qok 57 pc = true := fun pc h => by
  have h1 := List.all_eq_true.mp qk_57_0 pc (List.mem_range.mpr h)
  rwa [Nat.zero_add] at h1
set_option maxRecDepth 100000 in
theorem qk_58_0 : (List.range 1700).all (fun i => qok 58 (0 + i)) = true := by decide +kernel
theorem qk_58 : ∀ pc, pc < 1700 → qok 58 pc = true := fun pc h => by
  have h1 := List.all_eq_true.mp qk_58_0 pc (List.mem_range.mpr h)
  rwa [Nat.zero_add] at h1
set_option maxRecDepth 100000 in
theorem qk_59_0 : (List.range 1700).all (fun i => qok 59 (0 + i)) = true := by decide +kernel
theorem qk_59 : ∀ pc, pc < 1700 → qok 59 pc = true := fun pc h => by
  have h1 := List.all_eq_true.mp qk_59_0 pc (List.mem_range.mpr h)
  rwa [Nat.zero_add] at h1
set_option maxRecDepth 100000 in
theorem qk_60_0 : (List.range 1700).all (fun i => qok 60 (0 + i)) = true := by decide +kernel
theorem qk_60 : ∀ pc, pc < 1700 → qok 60 pc = true := fun pc h => by
  have h1 := List.all_eq_true.mp qk_60_0 pc (List.mem_range.mpr h)
  rwa [Nat.zero_add] at h1
set_option maxRecDepth 100000 in
theorem qk_61_0 : (List.range 1700).all (fun i => qok 61 (0 + i)) = true := by decide +kernel
theorem qk_61 : ∀ pc, pc < 1700 → qok 61 pc = true := fun pc h => by
  have h1 := List.all_eq_true.mp qk_61_0 pc (List.mem_range.mpr h)
  rwa [Nat.zero_add] at h1
set_option maxRecDepth 100000 in
theorem qk_62_0 : (List.range 1700).all (fun i => qok 62 (0 + i)) = true := by decide +kernel
theorem qk_62 : ∀ pc, pc < 1700 → qok 62 pc = true := fun pc h => by
  have h1 := List.all_eq_true.mp qk_62_0 pc (List.mem_range.mpr h)
  rwa [Nat.zero_add] at h1
set_option maxRecDepth 100000 in
theorem qk_63_0 : (List.range 1700).all (fun i => qok 63 (0 + i)) = true := by decide +kernel
theorem qk_63 : ∀ pc, pc < 1700 → qok 63 pc = true := fun pc h => by
  have h1 := List.all_eq_true.mp qk_63_0 pc (List.mem_range.mpr h)
  rwa [Nat.zero_add] at h1
set_option maxRecDepth 100000 in
theorem qk_64_0 : (List.range 1700).all (fun i => qok 64 (0 + i)) = true := by decide +kernel
theorem qk_64 : ∀ pc, pc < 1700 → qok 64 pc = true := fun pc h => by
  have h1 := List.all_eq_true.mp qk_64_0 pc (List.mem_range.mpr h)
  rwa [Nat.zero_add] at h1
set_option maxRecDepth 100000 in
theorem qk_65_0 : (List.range 1700).all (fun i => qok 65 (0 + i)) = true := by decide +kernel
theorem qk_65 : ∀ pc, pc < 1700 → qok 65 pc = true := fun pc h => by
  have h1 := List.all_eq_true.mp qk_65_0 pc (List.mem_range.mpr h)
  rwa [Nat.zero_add] at h1
set_option maxRecDepth 100000 in
theorem qk_66_0 : (List.range 1700).all (fun i => qok 66 (0 + i)) = true := by decide +kernel
theorem qk_66 : ∀ pc, pc < 1700 → qok 66 pc = true := fun pc h => by
  have h1 := List.all_eq_true.mp qk_66_0 pc (List.mem_range.mpr h)
  rwa [Nat.zero_add] at h1
set_option maxRecDepth 100000 in
theorem qk_67_0 : (List.range 1700).all (fun i => qok 67 (0 + i)) = true := by decide +kernel
theorem qk_67 : ∀ pc, pc < 1700 → qok 67 pc = true := fun pc h => by
  have h1 := List.all_eq_true.mp qk_67_0 pc (List.mem_range.mpr h)
  rwa [Nat.zero_add] at h1
set_option maxRecDepth 100000 in
theorem qk_68_0 : (List.range 1700).all (fun i => qok 68 (0 + i)) = true := by decide +kernel
theorem qk_68 : ∀ pc, pc < 1700 → qok 68 pc = true := fun pc h => by
  have h1 := List.all_eq_true.mp qk_68_0 pc (List.mem_range.mpr h)
  rwa [Nat.zero_add] at h1
set_option maxRecDepth 100000 in
theorem qk_69_0 : (List.range 1700).all (fun i => qok 69 (0 + i)) = true := by decide +kernel
theorem qk_69 : ∀ pc, pc < 1700 → qok 69 pc = true := fun pc h => by
  have h1 := List.all_eq_true.mp qk_69_0 pc (List.mem_range.mpr h)
  rwa [Nat.zero_add] at h1
set_option maxRecDepth 100000 in
theorem qk_70_0 : (List.range 1700).all (fun i => qok 70 (0 + i)) = true := by decide +kernel
theorem qk_70 : ∀ pc, pc < 1700 → qok 70 pc = true := fun pc h => by
  have h1 := List.all_eq_true.mp qk_70_0 pc (List.mem_range.mpr h)
  rwa [Nat.zero_add] at h1
set_option maxRecDepth 100000 in
theorem qk_71_0 : (List.range 1700).all (fun i => qok 71 (0 + i)) = true := by decide +kernel
theorem qk_71 : ∀ pc, pc < 1700 → qok 71 pc = true := fun pc h => by
  have h1 := List.all_eq_true.mp qk_71_0 pc (List.mem_range.mpr h)
  rwa [Nat.zero_add] at h1
set_option maxRecDepth 100000 in
theorem qk_72_0 : (List.range 1700).all (fun i => qok 72 (0 + i)) = true := by decide +kernel
theorem qk_72 : ∀ pc, pc < 1700 → qok 72 pc = true := fun pc h => by
  have h1 := List.all_eq_true.mp qk_72_0 pc (List.mem_range.mpr h)
  rwa [Nat.zero_add] at h1
set_option maxRecDepth 100000 in
theorem qk_73_0 : (List.range 1700).all (fun i => qok 73 (0 + i)) = true := by decide +kernel
theorem qk_73 : ∀ pc, pc < 1700 → qok 73 pc = true := fun pc h => by
  have h1 := List.all_eq_true.mp qk_73_0 pc (List.mem_range.mpr h)
  rwa [Nat.zero_add] at h1
set_option maxRecDepth 100000 in
theorem qk_74_0 : (List.range 1700).all (fun i => qok 74 (0 + i)) = true := by decide +kernel
theorem qk_74 : ∀ pc, pc < 1700 → qok 74 pc = true := fun pc h => by
  have h1 := List.all_eq_true.mp qk_74_0 pc (List.mem_range.mpr h)
  rwa [Nat.zero_add] at h1
set_option maxRecDepth 100000 in
theorem qk_75_0 : (List.range 1700).all (fun i => qok 75 (0 + i)) = true := by decide +kernel
theorem qk_75 : ∀ pc, pc < 1700 → qok 75 pc = true := fun pc h => by
  have h1 := List.all_eq_true.mp qk_75_0 pc (List.mem_range.mpr h)
  rwa [Nat.zero_add] at h1
set_option maxRecDepth 100000 in
theorem qk_76_0 : (List.range 1700).all (fun i => qok 76 (0 + i)) = true := by decide +kernel
theorem qk_76 : ∀ pc, pc < 1700 → qok 76 pc = true := fun pc h => by
  have h1 := List.all_eq_true.mp qk_76_0 pc (List.mem_range.mpr h)
  rwa [Nat.zero_add] at h1
set_option maxRecDepth 100000 in
theorem qk_77_0 : (List.range 1700).all (fun i => qok 77 (0 + i)) = true := by decide +kernel
theorem qk_77 : ∀ pc, pc < 1700 → qok 77 pc = true := fun pc h => by
  have h1 := List.all_eq_true.mp qk_77_0 pc (List.mem_range.mpr h)
  rwa [Nat.zero_add] at h1
set_option maxRecDepth 100000 in
theorem qk_78_0 : (List.range 1700).all (fun i => qok 78 (0 + i)) = true := by decide +kernel
theorem qk_78 : ∀ pc, pc < 1700 → qok 78 pc = true := fun pc h => by
  have h1 := List.all_eq_true.mp qk_78_0 pc (List.mem_range.mpr h)
  rwa [Nat.zero_add] at h1
set_option maxRecDepth 100000 in
theorem qk_79_0 : (List.range 1700).all (fun i => qok 79 (0 + i)) = true := by decide +kernel
theorem qk_79 : ∀ pc, pc < 1700 → qok 79 pc = true := fun pc h => by
  have h1 := List.all_eq_true.mp qk_79_0 pc (List.mem_range.mpr h)
  rwa [Nat.zero_add] at h1
set_option maxRecDepth 100000 in
theorem qk_80_0 : (List.range 1700).all (fun i => qok 80 (0 + i)) = true := by decide +kernel
theorem qk_80 : ∀ pc, pc < 1700 → qok 80 pc = true := fun pc h => by
  have h1 := List.all_eq_true.mp qk_80_0 pc (List.mem_range.mpr h)
  rwa [Nat.zero_add] at h1
set_option maxRecDepth 100000 in
theorem qk_81_0 : (List.range 1700).all (fun i => qok 81 (0 + i)) = true := by decide +kernel
theorem qk_81 : ∀ pc, pc < 1700 → qok 81 pc = true := fun pc h => by
  have h1 := List.all_eq_true.mp qk_81_0 pc (List.mem_range.mpr h)
  rwa [Nat.zero_add] at h1
set_option maxRecDepth 100000 in
theorem qk_82_0 : (List.range 1700).all (fun i => qok 82 (0 + i)) = true := by decide +kernel
theorem qk_82 : ∀ pc, pc < 1700 → qok 82 pc = true := fun pc h => by
  have h1 := List.all_eq_true.mp qk_82_0 pc (List.mem_range.mpr h)
  rwa [Nat.zero_add] at h1
set_option maxRecDepth 100000 in
theorem qk_83_0 : (List.range 1700).all (fun i => qok 83 (0 + i)) = true := by decide +kernel
theorem qk_83 : ∀ pc, pc < 1700 → qok 83 pc = true := fun pc h => by
  have h1 := List.all_eq_true.mp qk_83_0 pc (List.mem_range.mpr h)
  rwa [Nat.zero_add] at h1
set_option maxRecDepth 100000 in
theorem qk_84_0 : (List.range 1700).all (fun i => qok 84 (0 + i)) = true := by decide +kernel
theorem qk_84 : ∀ pc, pc < 1700 → qok 84 pc = true := fun pc h => by
  have h1 := List.all_eq_true.mp qk_84_0 pc (List.mem_range.mpr h)
  rwa [Nat.zero_add] at h1
set_option maxRecDepth 100000 in
theorem qk_85_0 : (List.range 1700).all (fun i => qok 85 (0 + i)) = true := by decide +kernel
theorem qk_85 : ∀ pc, pc < 1700 → qok 85 pc = true := fun pc h => by
  have h1 := List.all_eq_true.mp qk_85_0 pc (List.mem_range.mpr h)
  rwa [Nat.zero_add] at h1
set_option maxRecDepth 100000 in
theorem qk_86_0 : (List.range 1700).all (fun i => qok 86 (0 + i)) = true := by decide +kernel
theorem qk_86 : ∀ pc, pc < 1700 → qok 86 pc = true := fun pc h => by
  have h1 := List.all_eq_true.mp qk_86_0 pc (List.mem_range.mpr h)
  rwa [Nat.zero_add] at h1
set_option maxRecDepth 100000 in
theorem qk_87_0 : (List.range 1700).all (fun i => qok 87 (0 + i)) = true := by decide +kernel
theorem qk_87 : ∀ pc, pc < 1700 → qok 87 pc = true := fun pc h => by
  have h1 := List.all_eq_true.mp qk_87_0 pc (List.mem_range.mpr h)
  rwa [Nat.zero_add] at h1
set_option maxRecDepth 100000 in
theorem qk_88_0 : (List.range 1700).all (fun i => qok 88 (0 + i)) = true := by decide +kernel
theorem qk_88 : ∀ pc, pc < 1700 → qok 88 pc = true := fun pc h => by
  have h1 := List.all_eq_true.mp qk_88_0 pc (List.mem_range.mpr h)
  rwa [Nat.zero_add] at h1
set_option maxRecDepth 100000 in
theorem qk_89_0 : (List.range 1700).all (fun i => qok 89 (0 + i)) = true := by decide +kernel
theorem qk_89 : ∀ pc, pc < 1700 → qok 89 pc = true := fun pc h => by
  have h1 := List.all_eq_true.mp qk_89_0 pc (List.mem_range.mpr h)
  rwa [Nat.zero_add] at h1
set_option maxRecDepth 100000 in
theorem qk_90_0 : (List.range 1700).all (fun i => qok 90 (0 + i)) = true := by decide +kernel
theorem qk_90 : ∀ pc, pc < 1700 → qok 90 pc = true := fun pc h => by
  have h1 := List.all_eq_true.mp qk_90_0 pc (List.mem_range.mpr h)
  rwa [Nat.zero_add] at h1
set_option maxRecDepth 100000 in
theorem qk_91_0 : (List.range 1700).all (fun i => qok 91 (0 + i)) = true := by decide +kernel
theorem qk_91 : ∀ pc, pc < 1700 → qok 91 pc = true := fun pc h => by
  have h1 := List.all_eq_true.mp qk_91_0 pc (List.mem_range.mpr h)
  rwa [Nat.zero_add] at h1
set_option maxRecDepth 100000 in
theorem qk_92_0 : (List.range 1700).all (fun i => qok 92 (0 + i)) = true := by decide +kernel
theorem qk_92 : ∀ pc, pc < 1700 → qok 92 pc = true := fun pc h => by
  have h1 := List.all_eq_true.mp qk_92_0 pc (List.mem_range.mpr h)
  rwa [Nat.zero_add] at h1
set_option maxRecDepth 100000 in
theorem qk_93_0 : (List.range 1700).all (fun i => qok 93 (0 + i)) = true := by decide +kernel
theorem qk_93 : ∀ pc, pc < 1700 → qok 93 pc = true := fun pc h => by
  have h1 := List.all_eq_true.mp qk_93_0 pc (List.mem_range.mpr h)
  rwa [Nat.zero_add] at h1
set_option maxRecDepth 100000 in
theorem qk_94_0 : (List.range 1700).all (fun i => qok 94 (0 + i)) = true := by decide +kernel
theorem qk_94 : ∀ pc, pc < 1700 → qok 94 pc = true := fun pc h => by
  have h1 := List.all_eq_true.mp qk_94_0 pc (List.mem_range.mpr h)
  rwa [Nat.zero_add] at h1
set_option maxRecDepth 100000 in
theorem qk_95_0 : (List.range 1700).all (fun i => qok 95 (0 + i)) = true := by decide +kernel
theorem qk_95 : ∀ pc, pc < 1700 → qok 95 pc = true := fun pc h => by
  have h1 := List.all_eq_true.mp qk_95_0 pc (List.mem_range.mpr h)
  rwa [Nat.zero_add] at h1
set_option maxRecDepth 100000 in
theorem qk_96_0 : (List.range 1700).all (fun i => qok 96 (0 + i)) = true := by decide +kernel
theorem qk_96 : ∀ pc, pc < 1700 → qok 96 pc = true := fun pc h => by
  have h1 := List.all_eq_true.mp qk_96_0 pc (List.mem_range.mpr h)
  rwa [Nat.zero_add] at h1
set_option maxRecDepth 100000 in
theorem qk_97_0 : (List.range 1700).all (fun i => qok 97 (0 + i)) = true := by decide +kernel
theorem qk_97 : ∀ pc, pc < 1700 → qok 97 pc = true := fun pc h => by
  have h1 := List.all_eq_true.mp qk_97_0 pc (List.mem_range.mpr h)
  rwa [Nat.zero_add] at h1
set_option maxRecDepth 100000 in
theorem qk_98_0 : (List.range 1700).all (fun i => qok 98 (0 + i)) = true := by decide +kernel
theorem qk_98 : ∀ pc, pc < 1700 → qok 98 pc = true := fun pc h => by
  have h1 := List.all_eq_true.mp qk_98_0 pc (List.mem_range.mpr h)
  rwa [Nat.zero_add] at h1
set_option maxRecDepth 100000 in
theorem qk_99_0 : (List.range 1700).all (fun i => qok 99 (0 + i)) = true := by decide +kernel
theorem qk_99 : ∀ pc, pc < 1700 → qok 99 pc = true := fun pc h => by
  have h1 := List.all_eq_true.mp qk_99_0 pc (List.mem_range.mpr h)
  rwa [Nat.zero_add] at h1
set_option maxRecDepth 100000 in
theorem qk_100_0 : (List.range 1700).all (fun i => qok 100 (0 + i)) = true := by decide +kernel
theorem qk_100 : ∀ pc, pc < 1700 → qok 100 pc = true := fun pc h => by
  have h1 := List.all_eq_true.mp qk_100_0 pc (List.mem_range.mpr h)
  rwa [Nat.zero_add] at h1
set_option maxRecDepth 100000 in
theorem qk_101_0 : (List.range 1700).all (fun i => qok 101 (0 + i)) = true := by decide +kernel
theorem qk_101 : ∀ pc, pc < 1700 → qok 101 pc = true := fun pc h => by
  have h1 := List.all_eq_true.mp qk_101_0 pc (List.mem_range.mpr h)
  rwa [Nat.zero_add] at h1
set_option maxRecDepth 100000 in
theorem qk_102_0 : (List.range 1700).all (fun i => qok 102 (0 + i)) = true := by decide +kernel
theorem qk_102 : ∀ pc, pc < 1700 → qok 102 pc = true := fun pc h => by
  have h1 := List.all_eq_true.mp qk_102_0 pc (List.mem_range.mpr h)
  rwa [Nat.zero_add] at h1
set_option maxRecDepth 100000 in
theorem qk_103_0 : (List.range 1700).all (fun i => qok 103 (0 + i)) = true := by decide +kernel
theorem qk_103 : ∀ pc, pc < 1700 → qok 103 pc = true := fun pc h => by
  have h1 := List.all_eq_true.mp qk_103_0 pc (List.mem_range.mpr h)
  rwa [Nat.zero_add] at h1
set_option maxRecDepth 100000 in
theorem qk_104_0 : (List.range 1700).all (fun i => qok 104 (0 + i)) = true := by decide +kernel
theorem qk_104 : ∀ pc, pc < 1700 → qok 104 pc = true := fun pc h => by
  have h1 := List.all_eq_true.mp qk_104_0 pc (List.mem_range.mpr h)
  rwa [Nat.zero_add] at h1
set_option maxRecDepth 100000 in
theorem qk_105_0 : (List.range 1700).all (fun i => qok 105 (0 + i)) = true := by decide +kernel
theorem qk_105 : ∀ pc, pc < 1700 → qok 105 pc = true := fun pc h => by
  have h1 := List.all_eq_true.mp qk_105_0 pc (List.mem_range.mpr h)
  rwa [Nat.zero_add] at h1
set_option maxRecDepth 100000 in
theorem qk_106_0 : (List.range 1700).all (fun i => qok 106 (0 + i)) = true := by decide +kernel
theorem qk_106 : ∀ pc, pc < 1700 → qok 106 pc = true := fun pc h => by
  have h1 := List.all_eq_true.mp qk_106_0 pc (List.mem_range.mpr h)
  rwa [Nat.zero_add] at h1
set_option maxRecDepth 100000 in
theorem qk_107_0 : (List.range 1700).all (fun i => qok 107 (0 + i)) = true := by decide +kernel
theorem qk_107 : ∀ pc, pc < 1700 → qok 107 pc = true := fun pc h => by
  have h1 := List.all_eq_true.mp qk_107_0 pc (List.mem_range.mpr h)
  rwa [Nat.zero_add] at h1
set_option maxRecDepth 100000 in
theorem qk_108_0 : (List.range 1700).all (fun i => qok 108 (0 + i)) = true := by decide +kernel
theorem qk_108 : ∀ pc, pc < 1700 → qok 108 pc = true := fun pc h => by
  have h1 := List.all_eq_true.mp qk_108_0 pc (List.mem_range.mpr h)
  rwa [Nat.zero_add] at h1
set_option maxRecDepth 100000 in
theorem qk_109_0 : (List.range 1700).all (fun i => qok 109 (0 + i)) = true := by decide +kernel
theorem qk_109 : ∀ pc, pc < 1700 → qok 109 pc = true := fun pc h => by
  have h1 := List.all_eq_true.mp qk_109_0 pc (List.mem_range.mpr h)
  rwa [Nat.zero_add] at h1
set_option maxRecDepth 100000 in
theorem qk_110_0 : (List.range 1700).all (fun i => qok 110 (0 + i)) = true := by decide +kernel
theorem qk_110 : ∀ pc, pc < 1700 → qok 110 pc = true := fun pc h => by
  have h1 := List.all_eq_true.mp qk_110_0 pc (List.mem_range.mpr h)
  rwa [Nat.zero_add] at h1
set_option maxRecDepth 100000 in
theorem qk_111_0 : (List.range 1700).all (fun i => qok 111 (0 + i)) = true := by decide +kernel
theorem qk_111 : ∀ pc, pc < 1700 → qok 111 pc = true := fun pc h => by
  have h1 := List.all_eq_true.mp qk_111_0 pc (List.mem_range.mpr h)
  rwa [Nat.zero_add] at h1
set_option maxRecDepth 100000 in
theorem qk_112_0 : (List.range 1700).all (fun i => qok 112 (0 + i)) = true := by decide +kernel
theorem qk_112 : ∀ pc, pc < 1700 → qok 112 pc = true := fun pc h => by
  have h1 := List.all_eq_true.mp qk_112_0 pc (List.mem_range.mpr h)
  rwa [Nat.zero_add] at h1
set_option maxRecDepth 100000 in
theorem qk_113_0 : (List.range 1700).all (fun i => qok 113 (0 + i)) = true := by decide +kernel
theorem qk_113 : ∀ pc, pc < 1700 → qok 113 pc = true := fun pc h => by
  have h1 := List.all_eq_true.mp qk_113_0 pc (List.mem_range.mpr h)
  rwa [Nat.zero_add] at h1
set_option maxRecDepth 100000 in
theorem qk_114_0 : (List.range 1700).all (fun i => qok 114 (0 + i)) = true := by decide +kernel
theorem qk_114 : ∀ pc, pc < 1700 → qok 114 pc = true := fun pc h => by
  have h1 := List.all_eq_true.mp qk_114_0 pc (List.mem_range.mpr h)
  rwa [Nat.zero_add] at h1
set_option maxRecDepth 100000 in
theorem qk_115_0 : (List.range 1700).all (fun i => qok 115 (0 + i)) = true := by decide +kernel
theorem qk_115 : ∀ pc, pc < 1700 → qok 115 pc = true := fun pc h => by
  have h1 := List.all_eq_true.mp qk_115_0 pc (List.mem_range.mpr h)
  rwa [Nat.zero_add] at h1
set_option maxRecDepth 100000 in
theorem qk_116_0 : (List.range 1700).all (fun i => qok 116 (0 + i)) = true := by decide +kernel
theorem qk_116 : ∀ pc, pc < 1700 → qok 116 pc = true := fun pc h => by
  have h1 := List.all_eq_true.mp qk_116_0 pc (List.mem_range.mpr h)
  rwa [Nat.zero_add] at h1
set_option maxRecDepth 100000 in
theorem qk_117_0 : (List.range 1700).all (fun i => qok 117 (0 + i)) = true := by decide +kernel
theorem qk_117 : ∀ pc, pc < 1700 → qok 117 pc = true := fun pc h => by
  have h1 := List.all_eq_true.mp qk_117_0 pc (List.mem_range.mpr h)
  rwa [Nat.zero_add] at h1
set_option maxRecDepth 100000 in
theorem qk_118_0 : (List.range 1700).all (fun i => qok 118 (0 + i)) = true := by decide +kernel
theorem qk_118 : ∀ pc, pc < 1700 → qok 118 pc = true := fun pc h => by
  have h1 := List.all_eq_true.mp qk_118_0 pc (List.mem_range.mpr h)
  rwa [Nat.zero_add] at h1
set_option maxRecDepth 100000 in
theorem qk_119_0 : (List.range 1700).all (fun i => qok 119 (0 + i)) = true := by decide +kernel
theorem qk_119 : ∀ pc, pc < 1700 → qok 119 pc = true := fun pc h => by
  have h1 := List.all_eq_true.mp qk_119_0 pc (List.mem_range.mpr h)
  rwa [Nat.zero_add] at h1
set_option maxRecDepth 100000 in
theorem qk_120_0 : (List.range 1700).all (fun i => qok 120 (0 + i)) = true := by decide +kernel
theorem qk_120 : ∀ pc, pc < 1700 → qok 120 pc = true := fun pc h => by
  have h1 := List.all_eq_true.mp qk_120_0 pc (List.mem_range.mpr h)
  rwa [Nat.zero_add] at h1
set_option maxRecDepth 100000 in
theorem qk_121_0 : (List.range 1700).all (fun i => qok 121 (0 + i)) = true := by decide +kernel
theorem qk_121 : ∀ pc, pc < 1700 → qok 121 pc = true := fun pc h => by
  have h1 := List.all_eq_true.mp qk_121_0 pc (List.mem_range.mpr h)
  rwa [Nat.zero_add] at h1
set_option maxRecDepth 100000 in
theorem qk_122_0 : (List.range 1700).all (fun i => qok 122 (0 + i)) = true := by decide +kernel
theorem qk_122 : ∀ pc, pc < 1700 → qok 122 pc = true := fun pc h => by
  have h1 := List.all_eq_true.mp qk_122_0 pc (List.mem_range.mpr h)
  rwa [Nat.zero_add] at h1
set_option maxRecDepth 100000 in
theorem qk_123_0 : (List.range 1700).all (fun i => qok 123 (0 + i)) = true := by decide +kernel
theorem qk_123 : ∀ pc, pc < 1700 → qok 123 pc = true := fun pc h => by
  have h1 := List.all_eq_true.mp qk_123_0 pc (List.mem_range.mpr h)
  rwa [Nat.zero_add] at h1
set_option maxRecDepth 100000 in
theorem qk_124_0 : (List.range 1700).all (fun i => qok 124 (0 + i)) = true := by decide +kernel
theorem qk_124 : ∀ pc, pc < 1700 → qok 124 pc = true := fun pc h => by
  have h1 := List.all_eq_true.mp qk_124_0 pc (List.mem_range.mpr h)
  rwa [Nat.zero_add] at h1
set_option maxRecDepth 100000 in
theorem qk_125_0 : (List.range 1700).all (fun i => qok 125 (0 + i)) = true := by decide +kernel
theorem qk_125 : ∀ pc, pc < 1700 → qok 125 pc = true := fun pc h => by
  have h1 := List.all_eq_true.mp qk_125_0 pc (List.mem_range.mpr h)
  rwa [Nat.zero_add] at h1
set_option maxRecDepth 100000 in
theorem qk_126_0 : (List.range 1700).all (fun i => qok 126 (0 + i)) = true := by decide +kernel
theorem qk_126 : ∀ pc, pc < 1700 → qok 126 pc = true := fun pc h => by
  have h1 := List.all_eq_true.mp qk_126_0 pc (List.mem_range.mpr h)
  rwa [Nat.zero_add] at h1
set_option maxRecDepth 100000 in
theorem qk_127_0 : (List.range 1700).all (fun i => qok 127 (0 + i)) = true := by decide +kernel
theorem qk_127 : ∀ pc, pc < 1700 → qok 127 pc = true := fun pc h => by
  have h1 := List.all_eq_true.mp qk_127_0 pc (List.mem_range.mpr h)
  rwa [Nat.zero_add] at h1
set_option maxRecDepth 100000 in
theorem qk_128_0 : (List.range 1700).all (fun i => qok 128 (0 + i)) = true := by decide +kernel
theorem qk_128 : ∀ pc, pc < 1700 → qok 128 pc = true := fun pc h => by
  have h1 := List.all_eq_true.mp qk_128_0 pc (List.mem_range.mpr h)
  rwa [Nat.zero_add] at h1
set_option maxRecDepth 100000 in
theorem qk_129_0 : (List.range 1700).all (fun i => qok 129 (0 + i)) = true := by decide +kernel
theorem qk_129 : ∀ pc, pc < 1700 → qok 129 pc = true := fun pc h => by
  have h1 := List.all_eq_true.mp qk_129_0 pc (List.mem_range.mpr h)
  rwa [Nat.zero_add] at h1
set_option maxRecDepth 100000 in
theorem qk_130_0 : (List.range 1700).all (fun i => qok 130 (0 + i)) = true := by decide +kernel
theorem qk_130 : ∀ pc, pc < 1700 → qok 130 pc = true := fun pc h => by
  have h1 := List.all_eq_true.mp qk_130_0 pc (List.mem_range.mpr h)
  rwa [Nat.zero_add] at h1
set_option maxRecDepth 100000 in
theorem qk_131_0 : (List.range 1700).all (fun i => qok 131 (0 + i)) = true := by decide +kernel
theorem qk_131 : ∀ pc, pc < 1700 → qok 131 pc = true := fun pc h => by
  have h1 := List.all_eq_true.mp qk_131_0 pc (List.mem_range.mpr h)
  rwa [Nat.zero_add] at h1
set_option maxRecDepth 100000 in
theorem qk_132_0 : (List.range 1700).all (fun i => qok 132 (0 + i)) = true := by decide +kernel
theorem qk_132 : ∀ pc, pc < 1700 → qok 132 pc = true := fun pc h => by
  have h1 := List.all_eq_true.mp qk_132_0 pc (List.mem_range.mpr h)
  rwa [Nat.zero_add] at h1
set_option maxRecDepth 100000 in
theorem qk_133_0 : (List.range 1700).all (fun i => qok 133 (0 + i)) = true := by decide +kernel
theorem qk_133 : ∀ pc, pc < 1700 → qok 133 pc = true := fun pc h => by
  have h1 := List.all_eq_true.mp qk_133_0 pc (List.mem_range.mpr h)
  rwa [Nat.zero_add] at h1
set_option maxRecDepth 100000 in
theorem qk_134_0 : (List.range 1700).all (fun i => qok 134 (0 + i)) = true := by decide +kernel
theorem qk_134 : ∀ pc, pc < 1700 → qok 134 pc = true := fun pc h => by
  have h1 := List.all_eq_true.mp qk_134_0 pc (List.mem_range.mpr h)
  rwa [Nat.zero_add] at h1
set_option maxRecDepth 100000 in
theorem qk_135_0 : (List.range 1700).all (fun i => qok 135 (0 + i)) = true := by decide +kernel
theorem qk_135 : ∀ pc, pc < 1700 → qok 135 pc = true := fun pc h => by
  have h1 := List.all_eq_true.mp qk_135_0 pc (List.mem_range.mpr h)
  rwa [Nat.zero_add] at h1
set_option maxRecDepth 100000 in
theorem qk_136_0 : (List.range 1700).all (fun i => qok 136 (0 + i)) = true := by decide +kernel
theorem qk_136 : ∀ pc, pc < 1700 → qok 136 pc = true := fun pc h => by
  have h1 := List.all_eq_true.mp qk_136_0 pc (List.mem_range.mpr h)
  rwa [Nat.zero_add] at h1
set_option maxRecDepth 100000 in
theorem qk_137_0 : (List.range 1700).all (fun i => qok 137 (0 + i)) = true := by decide +kernel
theorem qk_137 : ∀ pc, pc < 1700 → qok 137 pc = true := fun pc h => by
  have h1 := List.all_eq_true.mp qk_137_0 pc (List.mem_range.mpr h)
  rwa [Nat.zero_add] at h1
set_option maxRecDepth 100000 in
theorem qk_138_0 : (List.range 1700).all (fun i => qok 138 (0 + i)) = true := by decide +kernel
theorem qk_138 : ∀ pc, pc < 1700 → qok 138 pc = true := fun pc h => by
  have h1 := List.all_eq_true.mp qk_138_0 pc (List.mem_range.mpr h)
  rwa [Nat.zero_add] at h1
set_option maxRecDepth 100000 in
theorem qk_139_0 : (List.range 1700).all (fun i => qok 139 (0 + i)) = true := by decide +kernel
theorem qk_139 : ∀ pc, pc < 1700 → qok 139 pc = true := fun pc h => by
  have h1 := List.all_eq_true.mp qk_139_0 pc (List.mem_range.mpr h)
  rwa [Nat.zero_add] at h1
set_option maxRecDepth 100000 in
theorem qk_140_0 : (List.range 1700).all (fun i => qok 140 (0 + i)) = true := by decide +kernel
theorem qk_140 : ∀ pc, pc < 1700 → qok 140 pc = true := fun pc h => by
  have h1 := List.all_eq_true.mp qk_140_0 pc (List.mem_range.mpr h)
  rwa [Nat.zero_add] at h1
set_option maxRecDepth 100000 in
theorem qk_141_0 : (List.range 1700).all (fun i => qok 141 (0 + i)) = true := by decide +kernel
theorem qk_141 : ∀ pc, pc < 1700 → qok 141 pc = true := fun pc h => by
  have h1 := List.all_eq_true.mp qk_141_0 pc (List.mem_range.mpr h)
  rwa [Nat.zero_add] at h1
set_option maxRecDepth 100000 in
theorem qk_142_0 : (List.range 1700).all (fun i => qok 142 (0 + i)) = true := by decide +kernel
theorem qk_142 : ∀ pc, pc < 1700 → qok 142 pc = true := fun pc h => by
  have h1 := List.all_eq_true.mp qk_142_0 pc (List.mem_range.mpr h)
  rwa [Nat.zero_add] at h1
set_option maxRecDepth 100000 in
theorem qk_143_0 : (List.range 1700).all (fun i => qok 143 (0 + i)) = true := by decide +kernel
theorem qk_143 : ∀ pc, pc < 1700 → qok 143 pc = true := fun pc h => by
  have h1 := List.all_eq_true.mp qk_143_0 pc (List.mem_range.mpr h)
  rwa [Nat.zero_add] at h1
set_option maxRecDepth 100000 in
theorem qk_144_0 : (List.range 1700).all (fun i => qok 144 (0 + i)) = true := by decide +kernel
theorem qk_144 : ∀ pc, pc < 1700 → qok 144 pc = true := fun pc h => by
  have h1 := List.all_eq_true.mp qk_144_0 pc (List.mem_range.mpr h)
  rwa [Nat.zero_add] at h1
set_option maxRecDepth 100000 in
theorem qk_145_0 : (List.range 1700).all (fun i => qok 145 (0 + i)) = true := by decide +kernel
theorem qk_145 : ∀ pc, pc < 1700 → qok 145 pc = true := fun pc h => by
  have h1 := List.all_eq_true.mp qk_145_0 pc (List.mem_range.mpr h)
  rwa [Nat.zero_add] at h1
set_option maxRecDepth 100000 in
theorem qk_146_0 : (List.range 1700).all (fun i => qok 146 (0 + i)) = true := by decide +kernel
theorem qk_146 : ∀ pc, pc < 1700 → qok 146 pc = true := fun pc h => by
  have h1 := List.all_eq_true.mp qk_146_0 pc (List.mem_range.mpr h)
  rwa [Nat.zero_add] at h1
set_option maxRecDepth 100000 in
theorem qk_147_0 : (List.range 1700).all (fun i => qok 147 (0 + i)) = true := by decide +kernel
theorem qk_147 : ∀ pc, pc < 1700 → qok 147 pc = true := fun pc h => by
  have h1 := List.all_eq_true.mp qk_147_0 pc (List.mem_range.mpr h)
  rwa [Nat.zero_add] at h1
set_option maxRecDepth 100000 in
theorem qk_148_0 : (List.range 1700).all (fun i => qok 148 (0 + i)) = true := by decide +kernel
theorem qk_148 : ∀ pc, pc < 1700 → qok 148 pc = true := fun pc h => by
  have h1 := List.all_eq_true.mp qk_148_0 pc (List.mem_range.mpr h)
  rwa [Nat.zero_add] at h1
set_option maxRecDepth 100000 in
theorem qk_149_0 : (List.range 1700).all (fun i => qok 149 (0 + i)) = true := by decide +kernel
theorem qk_149 : ∀ pc, pc < 1700 → qok 149 pc = true := fun pc h => by
  have h1 := List.all_eq_true.mp qk_149_0 pc (List.mem_range.mpr h)
  rwa [Nat.zero_add] at h1
set_option maxRecDepth 100000 in
theorem qk_150_0 : (List.range 1700).all (fun i => qok 150 (0 + i)) = true := by decide +kernel
theorem qk_150 : ∀ pc, pc < 1700 → qok 150 pc = true := fun pc h => by
  have h1 := List.all_eq_true.mp qk_150_0 pc (List.mem_range.mpr h)
  rwa [Nat.zero_add] at h1
set_option maxRecDepth 100000 in
theorem qk_151_0 : (List.range 1700).all (fun i => qok 151 (0 + i)) = true := by decide +kernel
theorem qk_151 : ∀ pc, pc < 1700 → qok 151 pc = true := fun pc h => by
  have h1 := List.all_eq_true.mp qk_151_0 pc (List.mem_range.mpr h)
  rwa [Nat.zero_add] at h1
set_option maxRecDepth 100000 in
theorem qk_152_0 : (List.range 1700).all (fun i => qok 152 (0 + i)) = true := by decide +kernel
theorem qk_152 : ∀ pc, pc < 1700 → qok 152 pc = true := fun pc h => by
  have h1 := List.all_eq_true.mp qk_152_0 pc (List.mem_range.mpr h)
  rwa [Nat.zero_add] at h1
set_option maxRecDepth 100000 in
theorem qk_153_0 : (List.range 425).all (fun i => qok 153 (0 + i)) = true := by decide +kernel
set_option maxRecDepth 100000 in
theorem qk_153_1 : (List.range 425).all (fun i => qok 153 (425 + i)) = true := by decide +kernel
set_option maxRecDepth 100000 in
theorem qk_153_2 : (List.range 425).all (fun i => qok 153 (850 + i)) = true := by decide +kernel
set_option maxRecDepth 100000 in
theorem qk_153_3 : (List.range 425).all (fun i => qok 153 (1275 + i)) = true := by decide +kernel
theorem qk_153 : ∀ pc, pc < 1700 → qok 153 pc = true := fun pc h => by
  rcases Nat.lt_or_ge pc 425 with h0 | h0
  · have h1 := List.all_eq_true.mp qk_153_0 (pc - 0) (List.mem_range.mpr (by omega))
    rwa [show 0 + (pc - 0) = pc by omega] at h1
  rcases Nat.lt_or_ge pc 850 with h1 | h1
  · have h1 := List.all_eq_true.mp qk_153_1 (pc - 425) (List.mem_range.mpr (by omega))
    rwa [show 425 + (pc - 425) = pc by omega] at h1
  rcases Nat.lt_or_ge pc 1275 with h2 | h2
  · have h1 := List.all_eq_true.mp qk_153_2 (pc - 850) (List.mem_range.mpr (by omega))
    rwa [show 850 + (pc - 850) = pc by omega] at h1
  rcases Nat.lt_or_ge pc 1700 with h3 | h3
  · have h1 := List.all_eq_true.mp qk_153_3 (pc - 1275) (List.mem_range.mpr (by omega))
    rwa [show 1275 + (pc - 1275) = pc by omega] at h1
  omega
set_option maxRecDepth 100000 in
theorem qk_154_0 : (List.range 1700).all (fun i => qok 154 (0 + i)) = true := by decide +kernel
theorem qk_154 : ∀ pc, pc < 1700 → qok 154 pc = true := fun pc h => by
  have h1 := List.all_eq_true.mp qk_154_0 pc (List.mem_range.mpr h)
  rwa [Nat.zero_add] at h1
set_option maxRecDepth 100000 in
theorem qk_155_0 : (List.range 1700).all (fun i => qok 155 (0 + i)) = true := by decide +kernel
theorem qk_155 : ∀ pc, pc < 1700 → qok 155 pc = true := fun pc h => by
  have h1 := List.all_eq_true.mp qk_155_0 pc (List.mem_range.mpr h)
  rwa [Nat.zero_add] at h1
set_option maxRecDepth 100000 in
theorem qk_156_0 : (List.range 1700).all (fun i => qok 156 (0 + i)) = true := by decide +kernel
theorem qk_156 : ∀ pc, pc < 1700 → qok 156 pc = true := fun pc h => by
  have h1 := List.all_eq_true.mp qk_156_0 pc (List.mem_range.mpr h)
  rwa [Nat.zero_add] at h1
set_option maxRecDepth 100000 in
theorem qk_157_0 : (List.range 1700).all (fun i => qok 157 (0 + i)) = true := by decide +kernel
theorem qk_157 : ∀ pc, pc < 1700 → qok 157 pc = true := fun pc h => by
  have h1 := List.all_eq_true.mp qk_157_0 pc (List.mem_range.mpr h)
  rwa [Nat.zero_add] at h1
set_option maxRecDepth 100000 in
theorem qk_158_0 : (List.range 1700).all (fun i => qok 158 (0 + i)) = true := by decide +kernel
theorem qk_158 : ∀ pc, pc < 1700 → qok 158 pc = true := fun pc h => by
  have h1 := List.all_eq_true.mp qk_158_0 pc (List.mem_range.mpr h)
  rwa [Nat.zero_add] at h1
set_option maxRecDepth 100000 in
theorem qk_159_0 : (List.range 1700).all (fun i => qok 159 (0 + i)) = true := by decide +kernel
theorem qk_159 : ∀ pc, pc < 1700 → qok 159 pc = true := fun pc h => by
  have h1 := List.all_eq_true.mp qk_159_0 pc (List.mem_range.mpr h)
  rwa [Nat.zero_add] at h1
set_option maxRecDepth 100000 in
theorem qk_160_0 : (List.range 1700).all (fun i => qok 160 (0 + i)) = true := by decide +kernel
theorem qk_160 : ∀ pc, pc < 1700 → qok 160 pc = true := fun pc h => by
  have h1 := List.all_eq_true.mp qk_160_0 pc (List.mem_range.mpr h)
  rwa [Nat.zero_add] at h1
set_option maxRecDepth 100000 in
theorem qk_161_0 : (List.range 1700).all (fun i => qok 161 (0 + i)) = true := by decide +kernel
theorem qk_161 : ∀ pc, pc < 1700 → qok 161 pc = true := fun pc h => by
  have h1 := List.all_eq_true.mp qk_161_0 pc (List.mem_range.mpr h)
  rwa [Nat.zero_add] at h1
set_option maxRecDepth 100000 in
theorem qk_162_0 : (List.range 1700).all (fun i => qok 162 (0 + i)) = true := by decide +kernel
theorem qk_162 : ∀ pc, pc < 1700 → qok 162 pc = true := fun pc h => by
  have h1 := List.all_eq_true.mp qk_162_0 pc (List.mem_range.mpr h)
  rwa [Nat.zero_add] at h1
