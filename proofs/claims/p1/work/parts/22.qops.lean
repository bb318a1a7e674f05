/-! ===== each step of the abstract machine is a step of the small one: what stays in the method ===== -/
theorem q_ad (a b : Nat) : Nat.add a b = a + b := rfl
theorem q_sb (a b : Nat) : Nat.sub a b = a - b := rfl
theorem q_dv (a b : Nat) : Nat.div a b = a / b := rfl
theorem q_md (a b : Nat) : Nat.mod a b = a % b := rfl
theorem q_ifc {P Q : Prop} [Decidable P] [Decidable Q] {x y : Nat} (h : P ↔ Q) : (if P then x else y) = (if Q then x else y) := by
  by_cases hp : P
  · rw [if_pos hp, if_pos (h.mp hp)]
  · rw [if_neg hp, if_neg (fun q => hp (h.mpr q))]
theorem qload_ok {E : mE} {x y z : Nat} {lv : qL} {st : List qV} {w : qW} {T : qT} {lvc : mLv} (hs : qload x y z lv st w = some T) (hl : qLr E lv lvc) (hz : z = 0 ∨ z = 1 ∨ z = 5 ∨ z = 6) : T = (y, lv, lv x :: st, w) ∧ ∃ v, mlv lvc x = some v ∧ qR E (lv x) v ∧ (z = 0 → ∃ i, v = .int i) ∧ (z = 1 → ∃ q, v = .ref q) ∧ (z = 5 → ∃ i, v = .long i) ∧ (z = 6 → ∃ i, v = .double i) := by
  unfold qload at hs
  obtain ⟨hk, hs⟩ := qg_some hs
  cases hs
  unfold qkind at hk
  simp only [qif_beq] at hk
  have ht : (z = 1 ∧ ((lv x).1 = 1 ∨ (lv x).1 = 3)) ∨ (z ≠ 1 ∧ (lv x).1 = z) := by
    by_cases h1 : z = 1
    · rw [if_pos h1] at hk
      refine Or.inl ⟨h1, ?_⟩
      by_cases h2 : (lv x).1 = 1
      · exact Or.inl h2
      · rw [if_neg h2] at hk
        exact Or.inr (Nat.eq_of_beq_eq_true hk)
    · rw [if_neg h1] at hk
      exact Or.inr ⟨h1, Nat.eq_of_beq_eq_true hk⟩
  obtain ⟨v, hv, hr⟩ := hl x (by omega)
  refine ⟨rfl, v, hv, hr, fun e => ?_, fun e => ?_, fun e => ?_, fun e => ?_⟩
  · obtain ⟨i, hi, -⟩ := qR_int hr (by omega)
    exact ⟨i, hi⟩
  · rcases ht with ⟨-, h2 | h2⟩ | ⟨h2, -⟩
    · exact ⟨_, qR_ref hr h2⟩
    · obtain ⟨q, f, h3, -⟩ := qR_box hr h2
      exact ⟨q, h3⟩
    · exact absurd e h2
  · exact ⟨_, qR_long hr (by omega)⟩
  · exact qR_dbl hr (by omega)
theorem qstore_ok {E : mE} {nL x y z : Nat} {lv : qL} {st : List qV} {w : qW} {T : qT} {lvc : mLv} {stc : List Value} (hs : qstore nL x y z lv st w = some T) (hl : qLr E lv lvc) (hst : qS E st stc) (hz : z = 0 ∨ z = 1 ∨ z = 5 ∨ z = 6) : ∃ (v : Value) (rc : List Value) (lv' : qL) (r : List qV), stc = v :: rc ∧ T = (y, lv', r, w) ∧ qS E r rc ∧ (z = 0 → (∃ i, v = .int i) ∧ x < nL ∧ qLr E lv' (mset1 lvc x v)) ∧ (z = 1 → (∃ q, v = .ref q) ∧ x < nL ∧ qLr E lv' (mset1 lvc x v)) ∧ (z = 5 → (∃ i, v = .long i) ∧ x + 1 < nL ∧ qLr E lv' (mset2 lvc x v)) ∧ (z = 6 → (∃ i, v = .double i) ∧ x + 1 < nL ∧ qLr E lv' (mset2 lvc x v)) := by
  unfold qstore at hs
  split at hs
  · cases hs
  · rename_i a r
    obtain ⟨v, rc, rfl, hr, hst2⟩ := qS_c hst
    obtain ⟨hk, hs⟩ := qg_some hs
    unfold qkind at hk
    simp only [qif_beq] at hk
    have ht : (z = 1 ∧ (a.1 = 1 ∨ a.1 = 3)) ∨ (z ≠ 1 ∧ a.1 = z) := by
      by_cases h1 : z = 1
      · rw [if_pos h1] at hk
        refine Or.inl ⟨h1, ?_⟩
        by_cases h2 : a.1 = 1
        · exact Or.inl h2
        · rw [if_neg h2] at hk
          exact Or.inr (Nat.eq_of_beq_eq_true hk)
      · rw [if_neg h1] at hk
        exact Or.inr ⟨h1, Nat.eq_of_beq_eq_true hk⟩
    rw [qif_ble] at hs
    by_cases h5 : 5 ≤ z
    · rw [if_pos h5] at hs
      obtain ⟨hn, hs⟩ := qg_ble hs
      cases hs
      have hn2 : x + 1 < nL := hn
      refine ⟨v, rc, _, r, rfl, rfl, hst2, fun e => by omega, fun e => by omega, fun e => ⟨⟨_, qR_long hr (by omega)⟩, hn2, qLr_set2 hl hr⟩, fun e => ⟨qR_dbl hr (by omega), hn2, qLr_set2 hl hr⟩⟩
    · rw [if_neg h5] at hs
      obtain ⟨hn, hs⟩ := qg_ble hs
      cases hs
      have hn2 : x < nL := hn
      refine ⟨v, rc, _, r, rfl, rfl, hst2, fun e => ?_, fun e => ⟨?_, hn2, qLr_set1 hl hr⟩, fun e => by omega, fun e => by omega⟩
      · obtain ⟨i, hi, -⟩ := qR_int hr (by omega)
        exact ⟨⟨i, hi⟩, hn2, qLr_set1 hl hr⟩
      · rcases ht with ⟨-, h2 | h2⟩ | ⟨h2, -⟩
        · exact ⟨_, qR_ref hr h2⟩
        · obtain ⟨q, f, h3, -⟩ := qR_box hr h2
          exact ⟨q, h3⟩
        · exact absurd e h2
theorem qiinc_ok {E : mE} {nL x y : Nat} {n : Int32} {lv : qL} {st : List qV} {w : qW} {T : qT} {lvc : mLv} (hs : qiinc nL x y (qbias n) lv st w = some T) (hl : qLr E lv lvc) : ∃ (i : Int32) (lv' : qL), mlv lvc x = some (.int i) ∧ x < nL ∧ T = (y, lv', st, w) ∧ qLr E lv' (mset1 lvc x (.int (i + n))) := by
  unfold qiinc at hs
  obtain ⟨h1, hs⟩ := qg_beq hs
  obtain ⟨h2, hs⟩ := qg_ble hs
  obtain ⟨h3, hs⟩ := qg_ble hs
  obtain ⟨h4, hs⟩ := qg_ble hs
  cases hs
  obtain ⟨v, hv, hr⟩ := hl x (by omega)
  obtain ⟨i, rfl, i1, i2⟩ := qR_int hr h1
  have hb := fb_rng n
  have hq : (qbias n : Int) = n.toInt + 2147483648 := by
    unfold qbias
    omega
  simp only [q_ad, q_sb] at h3 h4 ⊢
  have e := fb_addI (x := i) (y := n) (by omega) (by omega)
  exact ⟨i, _, hv, h2, rfl, qLr_set1 hl (qR_mkI (by rw [e]; omega) (by rw [e]; omega))⟩
theorem qadd_ok {E : mE} {y : Nat} {lv : qL} {st : List qV} {w : qW} {T : qT} {stc : List Value} (hs : qadd y lv st w = some T) (hst : qS E st stc) : ∃ (b a : Int32) (r : List Value) (r' : List qV), stc = .int b :: .int a :: r ∧ T = (y, lv, r', w) ∧ qS E r' (.int (a + b) :: r) := by
  unfold qadd at hs
  split at hs
  · rename_i a b r
    obtain ⟨va, sa, rfl, ha, hs1⟩ := qS_c hst
    obtain ⟨vb, sb, rfl, hb, hs2⟩ := qS_c hs1
    obtain ⟨ta, hs⟩ := qg_beq hs
    obtain ⟨tb, hs⟩ := qg_beq hs
    obtain ⟨h1, hs⟩ := qg_ble hs
    obtain ⟨h2, hs⟩ := qg_ble hs
    obtain ⟨x, rfl, x1, x2⟩ := qR_int ha ta
    obtain ⟨z, rfl, z1, z2⟩ := qR_int hb tb
    cases hs
    simp only [q_ad] at h1 h2
    have e := fb_addI (x := z) (y := x) (by omega) (by omega)
    exact ⟨x, z, sb, _, rfl, rfl, qR_mkI (by rw [e]; simp only [q_ad, q_sb]; omega) (by rw [e]; simp only [q_ad, q_sb]; omega), hs2⟩
  · cases hs
theorem qsub_ok {E : mE} {y : Nat} {lv : qL} {st : List qV} {w : qW} {T : qT} {stc : List Value} (hs : qsub y lv st w = some T) (hst : qS E st stc) : ∃ (b a : Int32) (r : List Value) (r' : List qV), stc = .int b :: .int a :: r ∧ T = (y, lv, r', w) ∧ qS E r' (.int (a - b) :: r) := by
  unfold qsub at hs
  split at hs
  · rename_i a b r
    obtain ⟨va, sa, rfl, ha, hs1⟩ := qS_c hst
    obtain ⟨vb, sb, rfl, hb, hs2⟩ := qS_c hs1
    obtain ⟨ta, hs⟩ := qg_beq hs
    obtain ⟨tb, hs⟩ := qg_beq hs
    obtain ⟨h1, hs⟩ := qg_ble hs
    obtain ⟨h2, hs⟩ := qg_ble hs
    obtain ⟨x, rfl, x1, x2⟩ := qR_int ha ta
    obtain ⟨z, rfl, z1, z2⟩ := qR_int hb tb
    cases hs
    simp only [q_ad] at h1 h2
    have e := fb_subI (x := z) (y := x) (by omega) (by omega)
    exact ⟨x, z, sb, _, rfl, rfl, qR_mkI (by rw [e]; simp only [q_ad, q_sb]; omega) (by rw [e]; simp only [q_ad, q_sb]; omega), hs2⟩
  · cases hs
theorem q31 {x : Int32} (h1 : (2147483679 : Int) ≤ x.toInt + 2147483648) (h2 : x.toInt + 2147483648 ≤ 2147483679) : x = 31 := by
  rw [fa_eq]
  show x.toInt = 31
  omega
theorem qsmall {k : Nat} (h : k < 2147483648) : (Int32.ofNat k).toInt = (k : Int) := nI_toInt h
theorem qand_ok {E : mE} {y : Nat} {lv : qL} {st : List qV} {w : qW} {T : qT} {stc : List Value} (hs : qand y lv st w = some T) (hst : qS E st stc) : ∃ (b a : Int32) (r : List Value) (r' : List qV), stc = .int b :: .int a :: r ∧ T = (y, lv, r', w) ∧ qS E r' (.int (a &&& b) :: r) := by
  unfold qand at hs
  split at hs
  · rename_i a b r
    obtain ⟨va, sa, rfl, ha, hs1⟩ := qS_c hst
    obtain ⟨vb, sb, rfl, hb, hs2⟩ := qS_c hs1
    obtain ⟨ta, hs⟩ := qg_beq hs
    obtain ⟨t1, hs⟩ := qg_beq hs
    obtain ⟨t2, hs⟩ := qg_beq hs
    obtain ⟨tb, hs⟩ := qg_beq hs
    obtain ⟨h1, hs⟩ := qg_ble hs
    obtain ⟨x, rfl, x1, x2⟩ := qR_int ha ta
    obtain ⟨z, rfl, hz⟩ := qR_head hb tb
    cases hs
    have hx : x = 31 := q31 (by omega) (by omega)
    subst hx
    have e := qsmall (k := b.2.1) (by omega)
    exact ⟨31, z, sb, _, rfl, rfl, qR_mkI (by rw [hz, e]; simp only [q_ad]; omega) (by rw [hz, e]; simp only [q_ad]; omega), hs2⟩
  · cases hs
theorem qnn {x : Int32} {lo : Nat} (h1 : (lo : Int) ≤ x.toInt + 2147483648) (h2 : 2147483648 ≤ lo) : ∃ a : Nat, a < 2147483648 ∧ x = nI a ∧ (a : Int) = x.toInt := by
  have hb := fb_rng x
  refine ⟨x.toInt.toNat, by omega, ?_, by omega⟩
  rw [fa_eq, nI_toInt (by omega)]
  omega
theorem qdiv_ok {E : mE} {y : Nat} {lv : qL} {st : List qV} {w : qW} {T : qT} {stc : List Value} (hs : qdiv y lv st w = some T) (hst : qS E st stc) : ∃ (b a : Int32) (r : List Value) (r' : List qV), stc = .int b :: .int a :: r ∧ b ≠ 0 ∧ T = (y, lv, r', w) ∧ qS E r' (.int (a / b) :: r) := by
  unfold qdiv at hs
  split at hs
  · rename_i a b r
    obtain ⟨va, sa, rfl, ha, hs1⟩ := qS_c hst
    obtain ⟨vb, sb, rfl, hb, hs2⟩ := qS_c hs1
    obtain ⟨ta, hs⟩ := qg_beq hs
    obtain ⟨tb, hs⟩ := qg_beq hs
    obtain ⟨h0, hs⟩ := qg_beq hs
    obtain ⟨h1, hs⟩ := qg_ble hs
    obtain ⟨h2, hs⟩ := qg_ble hs
    obtain ⟨x, rfl, x1, x2⟩ := qR_int ha ta
    obtain ⟨z, rfl, z1, z2⟩ := qR_int hb tb
    cases hs
    obtain ⟨d, d1, rfl, d3⟩ := qnn x1 (by omega)
    obtain ⟨n, n1, rfl, n3⟩ := qnn z1 h2
    have hd : a.2.1 - 2147483648 = d := by omega
    have hd0 : 0 < d := by omega
    have e : (nI n / nI d).toInt = ((n / d : Nat) : Int) := by
      rw [pk_div n1 hd0 d1, nI_toInt (Nat.lt_of_le_of_lt (Nat.div_le_self _ _) n1)]
    have l1 : (b.2.1 - 2147483648) / d ≤ n / d := Nat.div_le_div_right (by omega)
    have l2 : n / d ≤ (b.2.2 - 2147483648) / d := Nat.div_le_div_right (by omega)
    refine ⟨nI d, nI n, sb, _, rfl, fun h9 => ?_, rfl, qR_mkI ?_ ?_, hs2⟩
    · have h8 := congrArg Int32.toInt h9
      rw [nI_toInt d1] at h8
      have h7 : (0 : Int32).toInt = 0 := rfl
      omega
    · rw [e]; clear e; simp only [q_ad, q_sb, q_dv, hd]; omega
    · rw [e]; clear e; simp only [q_ad, q_sb, q_dv, hd]; omega
  · cases hs
theorem q_hn {lo hi n : Nat} {t : Int} (z1 : (lo : Int) ≤ t + 2147483648) (z2 : t + 2147483648 ≤ (hi : Int)) (n3 : (n : Int) = t) (h2 : 2147483648 ≤ lo) (h : lo = hi) : lo - 2147483648 = n := by omega
theorem qrem_ok {E : mE} {y : Nat} {lv : qL} {st : List qV} {w : qW} {T : qT} {stc : List Value} (hs : qrem y lv st w = some T) (hst : qS E st stc) : ∃ (b a : Int32) (r : List Value) (r' : List qV), stc = .int b :: .int a :: r ∧ b ≠ 0 ∧ T = (y, lv, r', w) ∧ qS E r' (.int (a - a / b * b) :: r) := by
  unfold qrem at hs
  split at hs
  · rename_i a b r
    obtain ⟨va, sa, rfl, ha, hs1⟩ := qS_c hst
    obtain ⟨vb, sb, rfl, hb, hs2⟩ := qS_c hs1
    obtain ⟨ta, hs⟩ := qg_beq hs
    obtain ⟨tb, hs⟩ := qg_beq hs
    obtain ⟨h0, hs⟩ := qg_beq hs
    obtain ⟨h1, hs⟩ := qg_ble hs
    obtain ⟨h2, hs⟩ := qg_ble hs
    obtain ⟨x, rfl, x1, x2⟩ := qR_int ha ta
    obtain ⟨z, rfl, z1, z2⟩ := qR_int hb tb
    cases hs
    obtain ⟨d, d1, rfl, d3⟩ := qnn x1 (by omega)
    obtain ⟨n, n1, rfl, n3⟩ := qnn z1 h2
    have hd : a.2.1 - 2147483648 = d := by omega
    have hd0 : 0 < d := by omega
    have hnx : b.2.1 = b.2.2 → b.2.1 - 2147483648 = n := fun h => q_hn z1 z2 n3 h2 h
    have hda : a.2.1 = d + 2147483648 := by omega
    have hup : 2147483648 + (n % d : Nat) ≤ a.2.1 - 1 := by
      have hlt : n % d < d := Nat.mod_lt _ hd0
      rw [hda]
      generalize n % d = k at hlt ⊢
      clear x1 x2 z1 z2 hd h0 h1 h2
      omega
    have hlt : n % d < d := Nat.mod_lt _ hd0
    have e : (nI n - nI n / nI d * nI d).toInt = ((n % d : Nat) : Int) := by
      rw [pk_rem n1 hd0 d1, nI_toInt (by omega)]
    refine ⟨nI d, nI n, sb, _, rfl, fun h9 => ?_, rfl, ?_, hs2⟩
    · have h8 := congrArg Int32.toInt h9
      rw [nI_toInt d1] at h8
      have h7 : (0 : Int32).toInt = 0 := rfl
      omega
    · rw [qif_beq]
      by_cases hx : b.2.1 = b.2.2
      · rw [if_pos hx]
        have hn : b.2.1 - 2147483648 = n := hnx hx
        exact qR_mkI (by rw [e]; clear e hup; simp only [q_ad, q_sb, q_md, hd, hn]; omega) (by rw [e]; clear e hup; simp only [q_ad, q_sb, q_md, hd, hn]; omega)
      · rw [if_neg hx]
        exact qR_mkI (by rw [e]; clear e; omega) (by rw [e]; clear e; simp only [q_sb]; omega)
  · cases hs
theorem qshr_ok {E : mE} {y : Nat} {lv : qL} {st : List qV} {w : qW} {T : qT} {stc : List Value} (hs : qshr y lv st w = some T) (hst : qS E st stc) : ∃ (b a : Int32) (r : List Value) (r' : List qV), stc = .int b :: .int a :: r ∧ T = (y, lv, r', w) ∧ qS E r' (.int (a >>> (b &&& 31)) :: r) := by
  unfold qshr at hs
  split at hs
  · rename_i a b r
    obtain ⟨va, sa, rfl, ha, hs1⟩ := qS_c hst
    obtain ⟨vb, sb, rfl, hb, hs2⟩ := qS_c hs1
    obtain ⟨ta, hs⟩ := qg_beq hs
    obtain ⟨tb, hs⟩ := qg_beq hs
    obtain ⟨h0, hs⟩ := qg_beq hs
    obtain ⟨h1, hs⟩ := qg_beq hs
    obtain ⟨h2, hs⟩ := qg_ble hs
    obtain ⟨x, rfl, x1, x2⟩ := qR_int ha ta
    obtain ⟨z, rfl, z1, z2⟩ := qR_int hb tb
    cases hs
    have hx : x = 1 := by
      rw [fa_eq]
      show x.toInt = 1
      omega
    subst hx
    obtain ⟨n, n1, rfl, n3⟩ := qnn z1 h2
    have e : (nI n >>> ((1 : Int32) &&& 31)).toInt = ((n / 2 : Nat) : Int) := by
      rw [pk_shrN n1 _ 1 (by decide), nI_toInt (by omega)]
    have l1 : (b.2.1 - 2147483648) / 2 ≤ n / 2 := Nat.div_le_div_right (by omega)
    have l2 : n / 2 ≤ (b.2.2 - 2147483648) / 2 := Nat.div_le_div_right (by omega)
    exact ⟨1, nI n, sb, _, rfl, rfl, qR_mkI (by rw [e]; clear e; simp only [q_ad, q_sb, q_dv]; omega) (by rw [e]; clear e; simp only [q_ad, q_sb, q_dv]; omega), hs2⟩
  · cases hs
theorem qlong_mod (n : Nat) : Int64.ofNat (n % 18446744073709551616) = Int64.ofNat n := by
  apply Int64.toBitVec.inj
  show BitVec.ofNat 64 (n % 18446744073709551616) = BitVec.ofNat 64 n
  apply BitVec.eq_of_toNat_eq
  simp [BitVec.toNat_ofNat]
theorem qladd_ok {E : mE} {y : Nat} {lv : qL} {st : List qV} {w : qW} {T : qT} {stc : List Value} (hs : qladd y lv st w = some T) (hst : qS E st stc) : ∃ (b a : Int64) (r : List Value) (r' : List qV), stc = .long b :: .long a :: r ∧ T = (y, lv, r', w) ∧ qS E r' (.long (a + b) :: r) := by
  unfold qladd at hs
  split at hs
  · rename_i a b r
    obtain ⟨va, sa, rfl, ha, hs1⟩ := qS_c hst
    obtain ⟨vb, sb, rfl, hb, hs2⟩ := qS_c hs1
    obtain ⟨ta, hs⟩ := qg_beq hs
    obtain ⟨tb, hs⟩ := qg_beq hs
    rw [qR_long ha ta, qR_long hb tb]
    cases hs
    refine ⟨_, _, sb, _, rfl, rfl, ?_, hs2⟩
    have e : Int64.ofNat b.2.1 + Int64.ofNat a.2.1 = Int64.ofNat (Nat.mod (Nat.add b.2.1 a.2.1) 18446744073709551616) := (lN_add _ _).trans (qlong_mod _).symm
    rw [e]
    exact qR_mkL
  · cases hs
theorem qlmul_ok {E : mE} {y : Nat} {lv : qL} {st : List qV} {w : qW} {T : qT} {stc : List Value} (hs : qlmul y lv st w = some T) (hst : qS E st stc) : ∃ (b a : Int64) (r : List Value) (r' : List qV), stc = .long b :: .long a :: r ∧ T = (y, lv, r', w) ∧ qS E r' (.long (a * b) :: r) := by
  unfold qlmul at hs
  split at hs
  · rename_i a b r
    obtain ⟨va, sa, rfl, ha, hs1⟩ := qS_c hst
    obtain ⟨vb, sb, rfl, hb, hs2⟩ := qS_c hs1
    obtain ⟨ta, hs⟩ := qg_beq hs
    obtain ⟨tb, hs⟩ := qg_beq hs
    rw [qR_long ha ta, qR_long hb tb]
    cases hs
    refine ⟨_, _, sb, _, rfl, rfl, ?_, hs2⟩
    have e : Int64.ofNat b.2.1 * Int64.ofNat a.2.1 = Int64.ofNat (Nat.mod (Nat.mul b.2.1 a.2.1) 18446744073709551616) := (lN_mul _ _).trans (qlong_mod _).symm
    rw [e]
    exact qR_mkL
  · cases hs
theorem qi2l_ok {E : mE} {y : Nat} {lv : qL} {st : List qV} {w : qW} {T : qT} {stc : List Value} (hs : qi2l y lv st w = some T) (hst : qS E st stc) : ∃ (a : Int32) (r : List Value) (r' : List qV), stc = .int a :: r ∧ T = (y, lv, r', w) ∧ qS E r' (.long a.toInt64 :: r) := by
  unfold qi2l at hs
  split at hs
  · rename_i a r
    obtain ⟨va, sa, rfl, ha, hs1⟩ := qS_c hst
    obtain ⟨ta, hs⟩ := qg_beq hs
    obtain ⟨h0, hs⟩ := qg_beq hs
    obtain ⟨x, rfl, x1, x2⟩ := qR_int ha ta
    cases hs
    refine ⟨x, sa, _, rfl, rfl, ?_, hs1⟩
    have e : x.toInt64 = Int64.ofNat (qif (Nat.ble 2147483648 a.2.1) (Nat.sub a.2.1 2147483648) (Nat.sub (Nat.add a.2.1 18446744073709551616) 2147483648)) := by
      have hb := fb_rng x
      rw [qif_ble]
      apply Int64.toInt_inj.mp
      rw [Int32.toInt_toInt64, Int64.toInt_ofNat']
      have h9 : ((2 ^ 64 : Nat) : Int) = 18446744073709551616 := rfl
      by_cases h : 2147483648 ≤ a.2.1
      · rw [if_pos h]
        simp only [q_sb]
        have h3 : ((a.2.1 - 2147483648 : Nat) : Int) = x.toInt := by omega
        rw [h3]
        simp only [Int.bmod, h9]
        split <;> omega
      · rw [if_neg h]
        simp only [q_sb, q_ad]
        have h3 : ((a.2.1 + 18446744073709551616 - 2147483648 : Nat) : Int) = x.toInt + 18446744073709551616 := by omega
        rw [h3]
        simp only [Int.bmod, h9]
        split <;> omega
    rw [e]
    exact qR_mkL
  · cases hs
theorem qlcmp_ok {E : mE} {y : Nat} {lv : qL} {st : List qV} {w : qW} {T : qT} {stc : List Value} (hs : qlcmp y lv st w = some T) (hst : qS E st stc) : ∃ (b a : Int64) (r : List Value) (r' : List qV), stc = .long b :: .long a :: r ∧ T = (y, lv, r', w) ∧ qS E r' (.int (lg_cmp a b) :: r) := by
  unfold qlcmp at hs
  split at hs
  · rename_i a b r
    obtain ⟨va, sa, rfl, ha, hs1⟩ := qS_c hst
    obtain ⟨vb, sb, rfl, hb, hs2⟩ := qS_c hs1
    obtain ⟨ta, hs⟩ := qg_beq hs
    obtain ⟨tb, hs⟩ := qg_beq hs
    obtain ⟨tc, hs⟩ := qg_beq hs
    rw [qR_long ha ta, qR_long hb tb, tc]
    cases hs
    refine ⟨_, _, sb, _, rfl, rfl, ?_, hs2⟩
    have e : lg_cmp (Int64.ofNat b.2.1) (Int64.ofNat b.2.1) = 0 := by
      unfold lg_cmp
      rw [if_neg (by simp), if_pos rfl]
    rw [e]
    exact qR_mkI (by decide) (by decide)
  · cases hs
theorem qcmp_ok {z l1 h1 l2 h2 x y t : Nat} {a b : Int} (hq : qcmp z l1 h1 l2 h2 x y = some t) (a1 : (l1 : Int) ≤ a) (a2 : a ≤ h1) (b1 : (l2 : Int) ≤ b) (b2 : b ≤ h2) : (z = 0 → t = if a < b then x else y) ∧ (z = 1 → t = if b < a then x else y) ∧ (z = 2 → t = if a = b then x else y) := by
  unfold qcmp at hq
  simp only [qif_beq, qif_ble] at hq
  by_cases hz0 : z = 0
  · rw [if_pos hz0] at hq
    refine ⟨fun _ => ?_, fun e => by omega, fun e => by omega⟩
    by_cases hc : Nat.succ h1 ≤ l2
    · rw [if_pos hc] at hq
      cases hq
      rw [if_pos (by omega)]
    · rw [if_neg hc] at hq
      obtain ⟨hd, hq⟩ := qg_ble hq
      cases hq
      rw [if_neg (by omega)]
  · rw [if_neg hz0] at hq
    by_cases hz1 : z = 1
    · rw [if_pos hz1] at hq
      refine ⟨fun e => by omega, fun _ => ?_, fun e => by omega⟩
      by_cases hc : Nat.succ h2 ≤ l1
      · rw [if_pos hc] at hq
        cases hq
        rw [if_pos (by omega)]
      · rw [if_neg hc] at hq
        obtain ⟨hd, hq⟩ := qg_ble hq
        cases hq
        rw [if_neg (by omega)]
    · rw [if_neg hz1] at hq
      refine ⟨fun e => by omega, fun e => by omega, fun _ => ?_⟩
      by_cases hc : Nat.succ h1 ≤ l2
      · rw [if_pos hc] at hq
        cases hq
        rw [if_neg (by omega)]
      · rw [if_neg hc] at hq
        by_cases hd : Nat.succ h2 ≤ l1
        · rw [if_pos hd] at hq
          cases hq
          rw [if_neg (by omega)]
        · rw [if_neg hd] at hq
          obtain ⟨he, hq⟩ := qg_beq hq
          obtain ⟨hf, hq⟩ := qg_beq hq
          obtain ⟨hg, hq⟩ := qg_beq hq
          cases hq
          rw [if_pos (by omega)]
theorem qifc_ok {E : mE} {x y z : Nat} {lv : qL} {st : List qV} {w : qW} {T : qT} {stc : List Value} (hs : qifc x y z lv st w = some T) (hst : qS E st stc) : ∃ (a : Int32) (r : List Value) (r' : List qV) (t : Nat), stc = .int a :: r ∧ T = (t, lv, r', w) ∧ qS E r' r ∧ (z = 0 → t = if a.toInt < 0 then x else y) ∧ (z = 1 → t = if 0 < a.toInt then x else y) ∧ (z = 2 → t = if a.toInt = 0 then x else y) := by
  unfold qifc at hs
  split at hs
  · rename_i a r
    obtain ⟨va, sa, rfl, ha, hs1⟩ := qS_c hst
    obtain ⟨ta, hs⟩ := qg_beq hs
    obtain ⟨i, rfl, x1, x2⟩ := qR_int ha ta
    split at hs
    · rename_i t ht
      cases hs
      obtain ⟨g0, g1, g2⟩ := qcmp_ok (a := i.toInt + 2147483648) (b := 2147483648) ht x1 x2 (by decide) (by decide)
      refine ⟨i, sa, _, t, rfl, rfl, hs1, fun e => ?_, fun e => ?_, fun e => ?_⟩
      · rw [g0 e]; exact q_ifc (by omega)
      · rw [g1 e]; exact q_ifc (by omega)
      · rw [g2 e]; exact q_ifc (by omega)
    · cases hs
  · cases hs
theorem qicmp_ok {E : mE} {x y z : Nat} {lv : qL} {st : List qV} {w : qW} {T : qT} {stc : List Value} (hs : qicmp x y z lv st w = some T) (hst : qS E st stc) : ∃ (b a : Int32) (r : List Value) (r' : List qV) (t : Nat), stc = .int b :: .int a :: r ∧ T = (t, lv, r', w) ∧ qS E r' r ∧ (z = 0 → t = if a.toInt < b.toInt then x else y) ∧ (z = 1 → t = if b.toInt < a.toInt then x else y) ∧ (z = 2 → t = if a.toInt = b.toInt then x else y) := by
  unfold qicmp at hs
  split at hs
  · rename_i a b r
    obtain ⟨va, sa, rfl, ha, hs1⟩ := qS_c hst
    obtain ⟨vb, sb, rfl, hb, hs2⟩ := qS_c hs1
    obtain ⟨ta, hs⟩ := qg_beq hs
    obtain ⟨tb, hs⟩ := qg_beq hs
    obtain ⟨i, rfl, x1, x2⟩ := qR_int ha ta
    obtain ⟨j, rfl, y1, y2⟩ := qR_int hb tb
    split at hs
    · rename_i t ht
      cases hs
      obtain ⟨g0, g1, g2⟩ := qcmp_ok (a := j.toInt + 2147483648) (b := i.toInt + 2147483648) ht y1 y2 x1 x2
      refine ⟨i, j, sb, _, t, rfl, rfl, hs2, fun e => ?_, fun e => ?_, fun e => ?_⟩
      · rw [g0 e]; exact q_ifc (by omega)
      · rw [g1 e]; exact q_ifc (by omega)
      · rw [g2 e]; exact q_ifc (by omega)
    · cases hs
  · cases hs
theorem qacmp_ok {E : mE} {x : Nat} {lv : qL} {st : List qV} {w : qW} {T : qT} {stc : List Value} (hs : qacmp x lv st w = some T) (hst : qS E st stc) : ∃ (q : Nat) (r : List Value) (r' : List qV), stc = .ref q :: .ref q :: r ∧ T = (x, lv, r', w) ∧ qS E r' r := by
  unfold qacmp at hs
  split at hs
  · rename_i a b r
    obtain ⟨va, sa, rfl, ha, hs1⟩ := qS_c hst
    obtain ⟨vb, sb, rfl, hb, hs2⟩ := qS_c hs1
    obtain ⟨ta, hs⟩ := qg_beq hs
    obtain ⟨tb, hs⟩ := qg_beq hs
    obtain ⟨tc, hs⟩ := qg_beq hs
    rw [qR_ref ha ta, qR_ref hb tb, tc]
    cases hs
    exact ⟨_, sb, _, rfl, rfl, hs2⟩
  · cases hs
theorem qswitch_ok {E : mE} {e : mIns} {lv : qL} {st : List qV} {w : qW} {T : qT} {stc : List Value} (hs : qswitch e lv st w = some T) (hst : qS E st stc) : ∃ (a : Int32) (r : List Value) (r' : List qV) (t : Nat × mLv × List Value), stc = .int a :: r ∧ T = (t.1, lv, r', w) ∧ qS E r' r ∧ mpure 0 e [] [.int a] = some t := by
  unfold qswitch at hs
  split at hs
  · rename_i a r
    obtain ⟨va, sa, rfl, ha, hs1⟩ := qS_c hst
    obtain ⟨ta, hs⟩ := qg_beq hs
    obtain ⟨tb, hs⟩ := qg_beq hs
    obtain ⟨i, rfl, x1, x2⟩ := qR_int ha ta
    have e9 : Int32.ofInt (Int.subNatNat a.2.1 2147483648) = i := by
      rw [Int.subNatNat_eq_coe, show ((a.2.1 : Nat) : Int) - ((2147483648 : Nat) : Int) = i.toInt by omega]
      exact fb_asI i
    rw [e9] at hs
    split at hs
    · rename_i t ht
      cases hs
      exact ⟨i, sa, _, t, rfl, rfl, hs1, ht⟩
    · cases hs
  · cases hs
theorem qdup_ok {E : mE} {y : Nat} {lv : qL} {st : List qV} {w : qW} {T : qT} {stc : List Value} (hs : qdup y lv st w = some T) (hst : qS E st stc) : ∃ (v : Value) (r : List Value) (r' : List qV), stc = v :: r ∧ v.category = 1 ∧ T = (y, lv, r', w) ∧ qS E r' (v :: v :: r) := by
  unfold qdup at hs
  split at hs
  · rename_i a r
    obtain ⟨va, sa, rfl, ha, hs1⟩ := qS_c hst
    obtain ⟨ta, hs⟩ := qg_ble hs
    cases hs
    exact ⟨va, sa, _, rfl, (qR_cat ha).2.1 (by omega), rfl, ha, ha, hs1⟩
  · cases hs
theorem qpop_ok {E : mE} {y : Nat} {lv : qL} {st : List qV} {w : qW} {T : qT} {stc : List Value} (hs : qpop y lv st w = some T) (hst : qS E st stc) : ∃ (v : Value) (r : List Value) (r' : List qV), stc = v :: r ∧ v.category = 1 ∧ T = (y, lv, r', w) ∧ qS E r' r := by
  unfold qpop at hs
  split at hs
  · rename_i a r
    obtain ⟨va, sa, rfl, ha, hs1⟩ := qS_c hst
    obtain ⟨ta, hs⟩ := qg_ble hs
    cases hs
    exact ⟨va, sa, _, rfl, (qR_cat ha).2.1 (by omega), rfl, hs1⟩
  · cases hs
theorem qdupx_ok {E : mE} {y : Nat} {lv : qL} {st : List qV} {w : qW} {T : qT} {stc : List Value} (hs : qdupx y lv st w = some T) (hst : qS E st stc) : ∃ (v u : Value) (r : List Value) (r' : List qV), stc = v :: u :: r ∧ (v.category = 1 ∧ u.category = 1) ∧ T = (y, lv, r', w) ∧ qS E r' (v :: u :: v :: r) := by
  unfold qdupx at hs
  split at hs
  · rename_i a b r
    obtain ⟨va, sa, rfl, ha, hs1⟩ := qS_c hst
    obtain ⟨vb, sb, rfl, hb, hs2⟩ := qS_c hs1
    obtain ⟨ta, hs⟩ := qg_ble hs
    obtain ⟨tb, hs⟩ := qg_ble hs
    cases hs
    exact ⟨va, vb, sb, _, rfl, ⟨(qR_cat ha).2.1 (by omega), (qR_cat hb).2.1 (by omega)⟩, rfl, ha, hb, ha, hs2⟩
  · cases hs
theorem qbias_ok {E : mE} (x : Int32) : qR E (0, qbias x, qbias x) (.int x) := by
  have hb := fb_rng x
  refine qR_mkI ?_ ?_ <;> (unfold qbias; omega)
