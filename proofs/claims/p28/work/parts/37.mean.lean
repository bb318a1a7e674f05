/-! ===== quotients of whole numbers; mean ===== -/
theorem cw_93_108 : wcV 93 0 108 6 0 0 = true := by decide +kernel
theorem cw_93_54 : wcV 93 0 54 3 1 1 = true := by decide +kernel
theorem cw_93_65 : wcV 93 0 65 3 1 1 = true := by decide +kernel
theorem cw_93_66 : wcV 93 0 66 3 1 1 = true := by decide +kernel
theorem fp_core {c d S N M a a2 b b2 k K : Nat} (w1 : c * 2 ^ a = S * 2 ^ a2) (w2 : d * 2 ^ b = N * 2 ^ b2) (hk : k + (a2 + b) = a + (b2 + K)) : (S ≤ M * N → c * 2 ^ k ≤ M * 2 ^ K * d) ∧ (M * N ≤ S → M * 2 ^ K * d ≤ c * 2 ^ k) := by
  have e1 : c * 2 ^ k * 2 ^ (a2 + b) = S * 2 ^ (a2 + (b2 + K)) := by
    rw [Nat.mul_assoc, ← Nat.pow_add, hk, Nat.pow_add, ← Nat.mul_assoc, w1, Nat.mul_assoc, ← Nat.pow_add]
  have e2 : M * 2 ^ K * d * 2 ^ (a2 + b) = M * N * 2 ^ (a2 + (b2 + K)) := by
    have e3 : M * 2 ^ K * d * 2 ^ (a2 + b) = M * 2 ^ K * 2 ^ a2 * (d * 2 ^ b) := by
      rw [Nat.pow_add]
      ac_rfl
    rw [e3, w2, Nat.pow_add, Nat.pow_add]
    ac_rfl
  have hp : 0 < 2 ^ (a2 + b) := Nat.two_pow_pos _
  refine ⟨fun h => ?_, fun h => ?_⟩
  · refine Nat.le_of_mul_le_mul_right ?_ hp
    rw [e1, e2]
    exact Nat.mul_le_mul_right _ h
  · refine Nat.le_of_mul_le_mul_right ?_ hp
    rw [e1, e2]
    exact Nat.mul_le_mul_right _ h
theorem fp_zmag {i : Int} {v : UInt64} (h : FP.Core.DInt i v) : FP.Core.zmag FP.Core.b64 (FP.Core.val64 v) = i.natAbs * FP.Core.one64 := by
  have h1 := FP.Core.DInt_zval h
  unfold FP.Core.zval at h1
  have h2 := congrArg Int.natAbs h1
  rw [FP.Core.natAbs_signed, Int.natAbs_mul, Int.natAbs_natCast] at h2
  exact h2
theorem fp_quot {S N : Int} {x y : UInt64} (hx : FP.Core.DInt S x) (hy : FP.Core.DInt N y) (hN : 0 < N) : ∃ (s : Bool) (z : Nat), FP.Core.val64 (FP.Core.ddiv x y) ≠ .nan ∧ FP.Core.zval FP.Core.b64 (FP.Core.val64 (FP.Core.ddiv x y)) = FP.Core.signed s z ∧ (S ≠ 0 → s = decide (S < 0)) ∧ (S = 0 → z = 0) ∧ ∀ (i : Int) (v : UInt64), FP.Core.DInt i v → (S.natAbs ≤ i.natAbs * N.natAbs → z ≤ i.natAbs * FP.Core.one64) ∧ (i.natAbs * N.natAbs ≤ S.natAbs → i.natAbs * FP.Core.one64 ≤ z) := by
  unfold FP.Core.DInt at hx hy
  rw [FP.Core.val64_ddiv]
  generalize FP.Core.val64 x = u at hx
  generalize FP.Core.val64 y = w at hy
  cases u with
  | nan => exact (show False from hx).elim
  | inf s => exact (show False from hx).elim
  | fin s c q =>
    cases w with
    | nan => exact (show False from hy).elim
    | inf s => exact (show False from hy).elim
    | fin t d r =>
      have w1 := FP.Core.whole_natAbs hx
      have w2 := FP.Core.whole_natAbs hy
      have hd : d ≠ 0 := fun e => by
        have := (FP.Core.whole_zero hy).mp e
        omega
      have ht : t = false := by
        rw [FP.Core.whole_sign hy (by omega)]
        exact decide_eq_false (by omega)
      subst ht
      have hq : FP.Core.quotient FP.Core.b64 (.fin s c q) (.fin false d r) = FP.Core.roundRatio FP.Core.b64 (s != false) c d (q - r) := by
        unfold FP.Core.quotient
        exact if_neg hd
      have hs : (s != false) = s := by cases s <;> rfl
      rw [hq, hs]
      refine ⟨s, FP.Core.zmag FP.Core.b64 (FP.Core.roundRatio FP.Core.b64 s c d (q - r)), FP.Core.roundRatio_ne_nan _ _ _ _ _, ?_, fun h => FP.Core.whole_sign hx h, fun h => ?_, fun i v hv => ?_⟩
      · unfold FP.Core.zval
        rw [FP.Core.sgn_roundRatio]
      · have hc := (FP.Core.whole_zero hx).mpr h
        subst hc
        unfold FP.Core.roundRatio
        rw [if_pos rfl]
        unfold FP.Core.zmag FP.Core.inUnits
        exact Nat.zero_mul _
      · have hm := fp_zmag hv
        have hn := FP.Core.DInt_ne_nan hv
        have hd0 : 0 < d := Nat.pos_of_ne_zero hd
        obtain ⟨K, hK⟩ : ∃ K : Nat, K = 1074 + (r.toNat + (-q).toNat) := ⟨_, rfl⟩
        have hqm := FP.Core.qmin_b64
        have hk : (q - r - -(K : Int)).toNat + ((-q).toNat + r.toNat) = q.toNat + ((-r).toNat + K) := by omega
        have hkk : (FP.Core.b64.qmin - -(K : Int)).toNat = K - 1074 := by
          rw [hqm]
          omega
        have e1 : i.natAbs * FP.Core.one64 * 2 ^ (K - 1074) = i.natAbs * 2 ^ K := by
          unfold FP.Core.one64
          rw [Nat.mul_assoc, ← Nat.pow_add, show 1074 + (K - 1074) = K by omega]
        have hc := fp_core (M := i.natAbs) w1 w2 hk
        refine ⟨fun h => ?_, fun h => ?_⟩
        · rw [← hm]
          refine FP.Core.zmag_roundRatio_le FP.Core.good_b64 (e0 := -(K : Int)) hd0 (FP.Core.val64_fits v) hn (by rw [hqm]; omega) (by omega) ?_
          rw [hkk, hm, e1]
          exact hc.1 h
        · rw [← hm]
          refine FP.Core.zmag_roundRatio_ge FP.Core.good_b64 (e0 := -(K : Int)) hd0 (FP.Core.val64_fits v) (by rw [hqm]; omega) (by omega) ?_
          rw [hkk, hm, e1]
          exact hc.2 h
theorem fp_sg {s : Bool} {z : Nat} : FP.Core.signed s z = if s = true then -(z : Int) else (z : Int) := by
  cases s <;> rfl
theorem fp_mul {a b : Int} (hb : 0 < b) : (a * b).natAbs = a.natAbs * b.natAbs := Int.natAbs_mul a b
/-- m N at most S: the quotient is at least m -/
theorem fp_ge {S N m : Int} {x y v : UInt64} (hx : FP.Core.DInt S x) (hy : FP.Core.DInt N y) (hN : 0 < N) (hv : FP.Core.DInt m v) (h : m * N ≤ S) : FP.Core.zval FP.Core.b64 (FP.Core.val64 v) ≤ FP.Core.zval FP.Core.b64 (FP.Core.val64 (FP.Core.ddiv x y)) := by
  obtain ⟨s, z, -, h2, h3, h4, h5⟩ := fp_quot hx hy hN
  obtain ⟨h6, h7⟩ := h5 m v hv
  rw [h2, FP.Core.DInt_zval hv, fp_sg]
  have hm := Int.natAbs_mul m N
  have ho := FP.Core.one64_pos
  have hz : (m.natAbs * FP.Core.one64 : Nat) = (m * (FP.Core.one64 : Int)).natAbs := by
    rw [Int.natAbs_mul, Int.natAbs_natCast]
  have m0 : m ≤ 0 → m * (FP.Core.one64 : Int) ≤ 0 := fun g => by
    have := Int.mul_nonneg (show 0 ≤ -m by omega) (show 0 ≤ (FP.Core.one64 : Int) by omega)
    rw [Int.neg_mul] at this
    omega
  have m1 : 0 ≤ m → 0 ≤ m * (FP.Core.one64 : Int) := fun g => Int.mul_nonneg g (by omega)
  have n0 : 0 ≤ m → 0 ≤ m * N := fun g => Int.mul_nonneg g (by omega)
  have n1 : m ≤ 0 → m * N ≤ 0 := fun g => by
    have := Int.mul_nonneg (show 0 ≤ -m by omega) (show 0 ≤ N by omega)
    rw [Int.neg_mul] at this
    omega
  have n2 : 0 < m → 0 < m * N := fun g => Int.mul_pos g hN
  rw [← hm] at h6 h7
  rw [hz] at h6 h7
  generalize m * (FP.Core.one64 : Int) = w at *
  generalize m * N = P at *
  rcases Int.lt_or_le S 0 with g | g
  · rw [h3 (by omega), if_pos (decide_eq_true g)]
    have g1 : m ≤ 0 := by
      rcases Int.lt_or_le 0 m with f | f
      · have := n2 f; omega
      · exact f
    have := h6 (by omega)
    have := m0 g1
    omega
  · by_cases g0 : S = 0
    · rw [h4 g0]
      have g1 : m ≤ 0 := by
        rcases Int.lt_or_le 0 m with f | f
        · have := n2 f; omega
        · exact f
      have := m0 g1
      split <;> omega
    · rw [h3 g0, if_neg (by simp; omega)]
      rcases Int.lt_or_le 0 m with f | f
      · have := h7 (by have := n2 f; omega)
        omega
      · have := m0 f
        omega
theorem fp_le {S N m : Int} {x y v : UInt64} (hx : FP.Core.DInt S x) (hy : FP.Core.DInt N y) (hN : 0 < N) (hv : FP.Core.DInt m v) (h : S ≤ m * N) : FP.Core.zval FP.Core.b64 (FP.Core.val64 (FP.Core.ddiv x y)) ≤ FP.Core.zval FP.Core.b64 (FP.Core.val64 v) := by
  obtain ⟨s, z, -, h2, h3, h4, h5⟩ := fp_quot hx hy hN
  obtain ⟨h6, h7⟩ := h5 m v hv
  rw [h2, FP.Core.DInt_zval hv, fp_sg]
  have hm := Int.natAbs_mul m N
  have hz : (m.natAbs * FP.Core.one64 : Nat) = (m * (FP.Core.one64 : Int)).natAbs := by
    rw [Int.natAbs_mul, Int.natAbs_natCast]
  have m0 : m ≤ 0 → m * (FP.Core.one64 : Int) ≤ 0 := fun g => by
    have := Int.mul_nonneg (show 0 ≤ -m by omega) (show 0 ≤ (FP.Core.one64 : Int) by omega)
    rw [Int.neg_mul] at this
    omega
  have m1 : 0 ≤ m → 0 ≤ m * (FP.Core.one64 : Int) := fun g => Int.mul_nonneg g (by omega)
  have n0 : 0 ≤ m → 0 ≤ m * N := fun g => Int.mul_nonneg g (by omega)
  have n2 : m < 0 → m * N < 0 := fun g => Int.mul_neg_of_neg_of_pos g hN
  rw [← hm] at h6 h7
  rw [hz] at h6 h7
  generalize m * (FP.Core.one64 : Int) = w at *
  generalize m * N = P at *
  rcases Int.lt_or_le S 0 with g | g
  · rw [h3 (by omega), if_pos (decide_eq_true g)]
    rcases Int.lt_or_le m 0 with f | f
    · have := h7 (by have := n2 f; omega)
      have := m0 (by omega)
      omega
    · have := m1 f
      omega
  · have g1 : 0 ≤ m := by
      rcases Int.lt_or_le m 0 with f | f
      · have := n2 f; omega
      · exact f
    have g2 := m1 g1
    by_cases g0 : S = 0
    · rw [h4 g0]
      split <;> omega
    · rw [h3 g0, if_neg (by simp; omega)]
      have := h6 (by have := n0 g1; omega)
      omega
theorem fp_cmp_ge {x v : UInt64} {op} (hx : FP.Core.val64 x ≠ .nan) (hv : FP.Core.val64 v ≠ .nan) (h : FP.Core.zval FP.Core.b64 (FP.Core.val64 v) ≤ FP.Core.zval FP.Core.b64 (FP.Core.val64 x)) : 0 ≤ (Op.cmpValue (FP.dcmp x v) op).toInt := by
  have h1 := FP.Core.dcmp_le.mpr ⟨hv, hx, h⟩
  have h2 : FP.dcmp x v = some .gt ∨ FP.dcmp x v = some .eq := by
    show FP.Core.dcmp x v = some .gt ∨ FP.Core.dcmp x v = some .eq
    rw [FP.Core.dcmp_swap v x]
    rcases h1 with h1 | h1
    · rw [h1]; exact Or.inl rfl
    · rw [h1]; exact Or.inr rfl
  rcases h2 with h2 | h2
  · rw [h2]
    show 0 ≤ (1 : Int32).toInt
    decide
  · rw [h2]
    show 0 ≤ (0 : Int32).toInt
    decide
theorem fp_cmp_le {x v : UInt64} {op} (hx : FP.Core.val64 x ≠ .nan) (hv : FP.Core.val64 v ≠ .nan) (h : FP.Core.zval FP.Core.b64 (FP.Core.val64 x) ≤ FP.Core.zval FP.Core.b64 (FP.Core.val64 v)) : (Op.cmpValue (FP.dcmp x v) op).toInt ≤ 0 := by
  have h1 := FP.Core.dcmp_le.mpr ⟨hx, hv, h⟩
  have h2 : FP.dcmp x v = some .lt ∨ FP.dcmp x v = some .eq := h1
  rcases h2 with h2 | h2
  · rw [h2]
    show (-1 : Int32).toInt ≤ 0
    decide
  · rw [h2]
    show (0 : Int32).toInt ≤ 0
    decide
theorem fp_nan {x : UInt64} (h : FP.Core.val64 x ≠ .nan) : x &&& 0x7fffffffffffffff ≤ 0x7ff0000000000000 := by
  have h1 := (FP.Core.ne_nan x).mp h
  rw [UInt64.le_iff_toNat_le, FP.Core.mask_toNat]
  exact h1
theorem fp_i2d {z : Int} (h : wI z) : FP.Core.DInt z (FP.i2d (Int32.ofInt z)) := by
  have h1 := FP.Core.i2d_int (Int32.ofInt z)
  rw [fb_ofI h.1 h.2] at h1
  exact h1
theorem fp_l2d {z : Int} (h1 : -128849018880 ≤ z) (h2 : z ≤ 128849018880) : FP.Core.DInt z (FP.l2d (Int64.ofInt z)) := by
  have e : (Int64.ofInt z).toInt = z := by rw [Int64.toInt_ofInt, fb_bmod64 (by omega) (by omega)]
  have h3 := FP.Core.l2d_int (a := Int64.ofInt z) (by rw [e]; omega)
  rw [e] at h3
  exact h3
theorem fp_zero : FP.Core.DInt 0 FP.dconst0 := by
  unfold FP.Core.DInt
  show FP.Core.Whole 0 (FP.Core.val64 FP.Core.dconst0)
  rw [FP.Core.val64_dconst0]
  show FP.Core.signed false (0 * 2 ^ _) = 0 * _
  rw [Nat.zero_mul, Int.zero_mul]
  rfl
/-- the sum of the kept values lies between the filled ones' bounds -/
theorem vi_empty {σ : wSt} {T : Nat} {q c : Int} (hS : SIt T σ) (h : ¬ fil σ T q c) (hq : ca σ T (rd σ (T + 23) 60 q) c ≠ -1) : vi σ T q c = 0 := by
  have h0 : rd σ (T + 25) 501 (ca σ T (rd σ (T + 23) 60 q) c) = 0 := by
    unfold fil at h
    omega
  have hv := (ca_c hS.hI (r := rd σ (T + 23) 60 q) (c := c)).resolve_left (fun g => hq g.1)
  obtain ⟨-, -, -, -, h1, -, h2⟩ := hS.2.2.1 _ hv.2.2.1 hv.2.2.2
  unfold vi
  by_cases e : rd σ (T + 31) 20 c = 5
  · rw [if_pos e]
    exact h1.mp h0
  · rw [if_neg e, if_neg (by omega)]
    exact h2 h0
theorem kp_ca {σ : wSt} {T : Nat} {q c : Int} (hS : SIt T σ) (hc1 : 0 ≤ c) (hc2 : c < min (gv σ (T + 1) 12) 20) (h1 : 0 ≤ q) (h2 : q < gv σ T 11) : ca σ T (rd σ (T + 23) 60 q) c ≠ -1 := by
  obtain ⟨-, ⟨g1, g2, g3⟩, -⟩ := hS.2.2.2.2.2.2.2.2.1 q h1 h2
  have hd := hS.2.1.2.2
  rcases ca_c hS.hI (r := rd σ (T + 23) 60 q) (c := c) with g | g
  · exact absurd ⟨by omega, g2, hc1, by rw [g3]; exact hc2⟩ g.2
  · omega
theorem sv_lo {σ : wSt} {T : Nat} {c lo : Int} (hS : SIt T σ) (hc1 : 0 ≤ c) (hc2 : c < min (gv σ (T + 1) 12) 20) : ∀ n : Nat, (n : Int) ≤ gv σ T 11 → LoB σ T c n lo → lo * cfl σ T c n ≤ sv σ T c n := by
  intro n
  induction n with
  | zero =>
    intro _ _
    show lo * 0 ≤ 0
    omega
  | succ n ih =>
    intro hn hl
    have h1 := ih (by omega) (fun q q1 q2 => hl q q1 (by omega))
    show lo * (cfl σ T c n + (if rd σ (T + 25) 501 (ca σ T (rd σ (T + 23) 60 (n : Int)) c) ≠ 0 then 1 else 0)) ≤ sv σ T c n + vi σ T (n : Int) c
    by_cases e : fil σ T (n : Int) c
    · have := hl (n : Int) (by omega) (by omega) e
      rw [if_pos (show rd σ (T + 25) 501 (ca σ T (rd σ (T + 23) 60 (n : Int)) c) ≠ 0 from e), Int.mul_add, Int.mul_one]
      omega
    · rw [if_neg (show ¬ (rd σ (T + 25) 501 (ca σ T (rd σ (T + 23) 60 (n : Int)) c) ≠ 0) from e), vi_empty hS e (kp_ca hS hc1 hc2 (by omega) (by omega)), Int.add_zero, Int.add_zero]
      exact h1
theorem sv_hi {σ : wSt} {T : Nat} {c hi : Int} (hS : SIt T σ) (hc1 : 0 ≤ c) (hc2 : c < min (gv σ (T + 1) 12) 20) : ∀ n : Nat, (n : Int) ≤ gv σ T 11 → HiB σ T c n hi → sv σ T c n ≤ hi * cfl σ T c n := by
  intro n
  induction n with
  | zero =>
    intro _ _
    show 0 ≤ hi * 0
    omega
  | succ n ih =>
    intro hn hl
    have h1 := ih (by omega) (fun q q1 q2 => hl q q1 (by omega))
    show sv σ T c n + vi σ T (n : Int) c ≤ hi * (cfl σ T c n + (if rd σ (T + 25) 501 (ca σ T (rd σ (T + 23) 60 (n : Int)) c) ≠ 0 then 1 else 0))
    by_cases e : fil σ T (n : Int) c
    · have := hl (n : Int) (by omega) (by omega) e
      rw [if_pos (show rd σ (T + 25) 501 (ca σ T (rd σ (T + 23) 60 (n : Int)) c) ≠ 0 from e), Int.mul_add, Int.mul_one]
      omega
    · rw [if_neg (show ¬ (rd σ (T + 25) 501 (ca σ T (rd σ (T + 23) 60 (n : Int)) c) ≠ 0) from e), vi_empty hS e (kp_ca hS hc1 hc2 (by omega) (by omega)), Int.add_zero, Int.add_zero]
      exact h1
theorem cfl_none {σ : wSt} {T : Nat} {c : Int} : ∀ n : Nat, cfl σ T c n = 0 → NFl σ T c n := by
  intro n
  induction n with
  | zero => exact fun _ q q1 q2 => by omega
  | succ n ih =>
    intro h q q1 q2 e
    have h0 := cfl_rng (σ := σ) (T := T) (c := c) n
    have h1 : cfl σ T c n + (if rd σ (T + 25) 501 (ca σ T (rd σ (T + 23) 60 (n : Int)) c) ≠ 0 then 1 else 0) = 0 := h
    by_cases g : q = (n : Int)
    · subst g
      rw [if_pos (show rd σ (T + 25) 501 (ca σ T (rd σ (T + 23) 60 (n : Int)) c) ≠ 0 from e)] at h1
      omega
    · refine ih ?_ q q1 (by omega) e
      split at h1
      · omega
      · omega
/-- what the mean is -/
def MnB (σ : wSt) (T : Nat) (c : Int) (x : UInt64) : Prop := (∀ lo op, wI lo → LoB σ T c (gv σ T 11) lo → (NFl σ T c (gv σ T 11) → lo = 0) → 0 ≤ (Op.cmpValue (FP.dcmp x (FP.i2d (Int32.ofInt lo))) op).toInt) ∧ ∀ hi op, wI hi → HiB σ T c (gv σ T 11) hi → (NFl σ T c (gv σ T 11) → hi = 0) → (Op.cmpValue (FP.dcmp x (FP.i2d (Int32.ofInt hi))) op).toInt ≤ 0
theorem mn_zero {σ : wSt} {T : Nat} {c : Int} (h0 : 0 ≤ gv σ T 11) (h : cfl σ T c (gv σ T 11).toNat = 0) : MnB σ T c FP.dconst0 := by
  have hn := cfl_none _ h
  rw [Int.toNat_of_nonneg h0] at hn
  have hz := FP.Core.DInt_ne_nan fp_zero
  refine ⟨fun lo op h1 h2 h3 => ?_, fun hi op h1 h2 h3 => ?_⟩
  · rw [h3 hn]
    have h4 := fp_i2d (z := 0) ⟨by omega, by omega⟩
    refine fp_cmp_ge hz (FP.Core.DInt_ne_nan h4) ?_
    rw [FP.Core.DInt_zval h4, FP.Core.DInt_zval fp_zero]
    exact Int.le_refl _
  · rw [h3 hn]
    have h4 := fp_i2d (z := 0) ⟨by omega, by omega⟩
    refine fp_cmp_le hz (FP.Core.DInt_ne_nan h4) ?_
    rw [FP.Core.DInt_zval h4, FP.Core.DInt_zval fp_zero]
    exact Int.le_refl _
theorem mn_ne {σ : wSt} {T : Nat} {c : Int} (hs : -128849018880 ≤ sv σ T c (gv σ T 11).toNat ∧ sv σ T c (gv σ T 11).toNat ≤ 128849018880) (hr : wI (cfl σ T c (gv σ T 11).toNat)) (h : 0 < cfl σ T c (gv σ T 11).toNat) : FP.Core.val64 (FP.ddiv (FP.l2d (Int64.ofInt (sv σ T c (gv σ T 11).toNat))) (FP.i2d (Int32.ofInt (cfl σ T c (gv σ T 11).toNat)))) ≠ .nan := by
  obtain ⟨_, _, h1, -⟩ := fp_quot (fp_l2d hs.1 hs.2) (fp_i2d hr) h
  exact h1
theorem mn_div {σ : wSt} {T : Nat} {c : Int} (hS : SIt T σ) (hc1 : 0 ≤ c) (hc2 : c < min (gv σ (T + 1) 12) 20) (h0 : 0 ≤ gv σ T 11) (hs : -128849018880 ≤ sv σ T c (gv σ T 11).toNat ∧ sv σ T c (gv σ T 11).toNat ≤ 128849018880) (hr : wI (cfl σ T c (gv σ T 11).toNat)) (h : 0 < cfl σ T c (gv σ T 11).toNat) : MnB σ T c (FP.ddiv (FP.l2d (Int64.ofInt (sv σ T c (gv σ T 11).toNat))) (FP.i2d (Int32.ofInt (cfl σ T c (gv σ T 11).toNat)))) := by
  have hk : (((gv σ T 11).toNat : Nat) : Int) = gv σ T 11 := Int.toNat_of_nonneg h0
  have hn := mn_ne hs hr h
  refine ⟨fun lo op h1 h2 h3 => ?_, fun hi op h1 h2 h3 => ?_⟩
  · have h4 := fp_i2d h1
    refine fp_cmp_ge hn (FP.Core.DInt_ne_nan h4) ?_
    exact fp_ge (fp_l2d hs.1 hs.2) (fp_i2d hr) h h4 (sv_lo hS hc1 hc2 _ (by omega) (by rw [hk]; exact h2))
  · have h4 := fp_i2d h1
    refine fp_cmp_le hn (FP.Core.DInt_ne_nan h4) ?_
    exact fp_le (fp_l2d hs.1 hs.2) (fp_i2d hr) h h4 (sv_hi hS hc1 hc2 _ (by omega) (by rw [hk]; exact h2))
theorem k_mean {E : mE} {σ : wSt} {T : Nat} (hE : wE E) (hW : NWd σ T) {c : Int} (hc1 : 0 ≤ c) (hc2 : c < min (gv σ (T + 1) 12) 20) : Fn E 93 [wr 2, wi c] σ (fun vo t => ∃ x, vo = some (wd x) ∧ MnB σ T c x ∧ σ = t) := by
  have hT : Tb T := hW.tb
  have hS := hW.2.2.2.2.1
  have hI := hS.hI
  have hb9 := cfl_rng (σ := σ) (T := T) (c := c) (gv σ T 11).toNat
  have hk0 := hS.2.2.2.2.2.2.1
  refine Fn.of (nL := 4) ?_
  show Bt E 93 0 [wr 2, wi c, wx, wx] [] σ _
  refine B_rng 1 rfl (fun ha1 => ?_)
  refine B_aloadn rfl my_93 rfl ?_
  refine B_cV hE.1 rfl rfl cw_93_108 (as := []) (rest := []) rfl (Nat.le_of_ble_eq_true rfl) (g_tableNow1 hE hW) (fun vo s9 hq => ?_)
  obtain ⟨rfl, rfl⟩ := hq
  show Bt E 93 4 [wr 2, wi c, wx, wx] [wr T] σ _
  refine B_astoren rfl my_93 (by decide) rfl (show _ = [wr 2, wi c, wr T, wx] from rfl) ?_
  refine B_aloadn rfl my_93 rfl ?_
  refine B_iloadn rfl my_93 rfl ?_
  refine B_cV hE.1 rfl (wc_0 hT) cw_93_54 (as := [wi c]) (rest := []) rfl (Nat.le_of_ble_eq_true rfl) (g_hasColumn hE hT hS) (fun vo s9 hq => ?_)
  obtain ⟨x1, rfl, hz2, rfl⟩ := hq
  show Bt E 93 10 [wr 2, wi c, wr T, wx] [wi x1] σ _
  refine B_top (fun r3 => ?_)
  refine B_if_ne rfl my_93 rfl (tgt := 23) (nx := 13) rfl rfl (fun c4 => ?_) (fun c4 => ?_)
  · refine B_aloadn rfl my_93 rfl ?_
    refine B_iloadn rfl my_93 rfl ?_
    refine B_cV hE.1 rfl (wc_0 hT) cw_93_66 (as := [wi c]) (rest := []) rfl (Nat.le_of_ble_eq_true rfl) (g_filledInKept hE hT hS) (fun vo s9 hq => ?_)
    obtain ⟨rfl, rfl⟩ := hq
    show Bt E 93 28 [wr 2, wi c, wr T, wx] [wi (cfl σ T c (gv σ T 11).toNat)] σ _
    refine B_top (fun r5 => ?_)
    refine B_istoren rfl my_93 (by decide) rfl (show _ = [wr 2, wi c, wr T, wi (cfl σ T c (gv σ T 11).toNat)] from rfl) ?_
    refine B_iloadn rfl my_93 rfl ?_
    refine B_if_ne rfl my_93 rfl (tgt := 37) (nx := 33) rfl rfl (fun c6 => ?_) (fun c6 => ?_)
    · refine B_aloadn rfl my_93 rfl ?_
      refine B_iloadn rfl my_93 rfl ?_
      refine B_cV hE.1 rfl (wc_0 hT) cw_93_65 (as := [wi c]) (rest := []) rfl (Nat.le_of_ble_eq_true rfl) (g_total hE hT hS hc1 hc2) (fun vo s9 hq => ?_)
      obtain ⟨rfl, hb, rfl⟩ := hq
      show Bt E 93 42 [wr 2, wi c, wr T, wi (cfl σ T c (gv σ T 11).toNat)] [wl (sv σ T c (gv σ T 11).toNat)] σ _
      refine B_l2d rfl my_93 ?_
      refine B_iloadn rfl my_93 rfl ?_
      refine B_i2d rfl my_93 ?_
      refine B_ddiv rfl my_93 (fp_nan (mn_ne hb (by omega) (by omega))) ?_
      refine B_dret rfl my_93 rfl ?_
      exact ⟨_, rfl, mn_div hS hc1 hc2 hk0 hb (by omega) (by omega), rfl⟩
    · refine B_dconst rfl my_93 rfl ?_
      refine B_goto rfl my_93 rfl (tgt := 46) rfl ?_
      refine B_dret rfl my_93 rfl ?_
      exact ⟨_, rfl, mn_zero hk0 (by omega), rfl⟩
  · exfalso
    omega
