/-! ===== every script lies in a box ===== -/
section QC
variable {E : mE}
theorem qR_any (x : Int32) : qR E qany (.int x) := by
  have h := fb_rng x
  exact qR_mkI (by omega) (by omega)
theorem qR_iv {q : Nat × Nat} {x : Int32} (h1 : (q.1 : Int) ≤ x.toInt + 2147483648) (h2 : x.toInt + 2147483648 ≤ (q.2 : Int)) : qR E (qiv q) (.int x) := qR_mkI h1 h2
theorem qcut3 (x : Int32) (lo hi : Nat) (h : hi < 2147483647) : (∃ q ∈ qout lo hi, qR E (qiv q) (.int x)) ∨ ((lo : Int) ≤ x.toInt ∧ x.toInt ≤ (hi : Int)) := by
  have hb := fb_rng x
  by_cases h1 : x.toInt < lo
  · exact Or.inl ⟨(0, 2147483647 + lo), by simp [qout], qR_iv (by dsimp only; omega) (by dsimp only; omega)⟩
  · by_cases h2 : (hi : Int) < x.toInt
    · exact Or.inl ⟨(2147483649 + hi, 4294967295), by simp [qout], qR_iv (by dsimp only; omega) (by dsimp only; omega)⟩
    · exact Or.inr ⟨by omega, by omega⟩
theorem qcutin {x : Int32} {lo hi : Nat} (h : (lo : Int) ≤ x.toInt ∧ x.toInt ≤ (hi : Int)) : qR E (qiv (qin lo hi)) (.int x) := qR_iv (by show ((2147483648 + lo : Nat) : Int) ≤ _; omega) (by show _ ≤ ((2147483648 + hi : Nat) : Int); omega)
theorem qcut1 {x : Int32} {n : Nat} (h : (0 : Int) ≤ x.toInt ∧ x.toInt < (n : Int)) : ∃ q ∈ qone n, qR E (qiv q) (.int x) := by
  refine ⟨(2147483648 + x.toInt.toNat, 2147483648 + x.toInt.toNat), ?_, qR_iv (by dsimp only; omega) (by dsimp only; omega)⟩
  exact List.mem_map.mpr ⟨x.toInt.toNat, List.mem_range.mpr (by omega), rfl⟩
theorem qcutS (x : Int32) : qR E (qiv qneg) (.int x) ∨ (qR E (qiv qpos) (.int x) ∧ 0 ≤ x.toInt) := by
  have hb := fb_rng x
  by_cases h : x.toInt < 0
  · exact Or.inl (qR_iv (by show ((0 : Nat) : Int) ≤ _; omega) (by show _ ≤ ((2147483647 : Nat) : Int); omega))
  · exact Or.inr ⟨qR_iv (by show ((2147483648 : Nat) : Int) ≤ _; omega) (by show _ ≤ ((4294967295 : Nat) : Int); omega), by omega⟩
theorem qcutD {x : Int32} (h : 0 ≤ x.toInt) : ∃ q ∈ qdigs, qR E (qiv q) (.int x) := by
  have hb := fb_rng x
  by_cases h1 : x.toInt < 10
  · exact ⟨(2147483648, 2147483657), by simp [qdigs], qR_iv (by dsimp only; omega) (by dsimp only; omega)⟩
  by_cases h2 : x.toInt < 100
  · exact ⟨(2147483658, 2147483747), by simp [qdigs], qR_iv (by dsimp only; omega) (by dsimp only; omega)⟩
  by_cases h3 : x.toInt < 1000
  · exact ⟨(2147483748, 2147484647), by simp [qdigs], qR_iv (by dsimp only; omega) (by dsimp only; omega)⟩
  by_cases h4 : x.toInt < 10000
  · exact ⟨(2147484648, 2147493647), by simp [qdigs], qR_iv (by dsimp only; omega) (by dsimp only; omega)⟩
  by_cases h5 : x.toInt < 100000
  · exact ⟨(2147493648, 2147583647), by simp [qdigs], qR_iv (by dsimp only; omega) (by dsimp only; omega)⟩
  by_cases h6 : x.toInt < 1000000
  · exact ⟨(2147583648, 2148483647), by simp [qdigs], qR_iv (by dsimp only; omega) (by dsimp only; omega)⟩
  by_cases h7 : x.toInt < 10000000
  · exact ⟨(2148483648, 2157483647), by simp [qdigs], qR_iv (by dsimp only; omega) (by dsimp only; omega)⟩
  by_cases h8 : x.toInt < 100000000
  · exact ⟨(2157483648, 2247483647), by simp [qdigs], qR_iv (by dsimp only; omega) (by dsimp only; omega)⟩
  by_cases h9 : x.toInt < 1000000000
  · exact ⟨(2247483648, 3147483647), by simp [qdigs], qR_iv (by dsimp only; omega) (by dsimp only; omega)⟩
  · exact ⟨(3147483648, 4294967295), by simp [qdigs], qR_iv (by dsimp only; omega) (by dsimp only; omega)⟩
/-- a box that holds the four, and is checked -/
def qBx (E : mE) (k : Nat) (x1 x2 x3 x4 : Int32) : Prop := ∃ a b c d : qV, qchk k a b c d = true ∧ qR E a (.int x1) ∧ qR E b (.int x2) ∧ qR E c (.int x3) ∧ qR E d (.int x4)
theorem qal {α : Type} {l : List α} {f : α → Bool} (h : l.all f = true) {q : α} (hq : q ∈ l) : f q = true := List.all_eq_true.mp h q hq
variable (x1 x2 x3 x4 : Int32)
theorem qB1 {k : Nat} {l : List (Nat × Nat)} (h : l.all (fun q => qchk k (qiv q) qany qany qany) = true) {q : Nat × Nat} (hq : q ∈ l) (hr : qR E (qiv q) (.int x1)) : qBx E k x1 x2 x3 x4 := ⟨_, _, _, _, qal h hq, hr, qR_any _, qR_any _, qR_any _⟩
theorem qB_0 : qBx E 0 x1 x2 x3 x4 := by
  rcases qcut3 (E := E) x1 0 45 (by decide) with ⟨q, hq, hr⟩ | h
  · exact qB1 x1 x2 x3 x4 qb_0 (List.mem_append_left _ hq) hr
  · exact qB1 x1 x2 x3 x4 qb_0 (List.mem_append_right _ List.mem_cons_self) (qcutin h)
theorem qB_1 : qBx E 1 x1 x2 x3 x4 := by
  rcases qcutS (E := E) x1 with h | ⟨-, h⟩
  · exact qB1 x1 x2 x3 x4 qb_1 List.mem_cons_self h
  · obtain ⟨q, hq, hr⟩ := qcutD (E := E) h
    exact qB1 x1 x2 x3 x4 qb_1 (List.mem_cons_of_mem _ hq) hr
theorem qB_2 : qBx E 2 x1 x2 x3 x4 := by
  rcases qcut3 (E := E) x1 0 25 (by decide) with ⟨q, hq, hr⟩ | h
  · exact qB1 x1 x2 x3 x4 qb_2a hq hr
  · rcases qcut3 (E := E) x2 1 12 (by decide) with ⟨q, hq, hr⟩ | h2
    · exact ⟨_, _, _, _, qal qb_2b (List.mem_append_left _ hq), qcutin h, hr, qR_any _, qR_any _⟩
    · obtain ⟨q, hq, hr⟩ := qcut1 (E := E) (x := x2) (n := 13) ⟨by omega, by omega⟩
      have hq2 : q ∈ (qone 13).drop 1 := by
        have h3 : qone 13 = (2147483648, 2147483648) :: (qone 13).drop 1 := by decide
        rw [h3] at hq
        rcases List.mem_cons.mp hq with e | e
        · subst e
          obtain ⟨y, hy, -, y2⟩ := qR_int hr rfl
          cases hy
          have y3 : x2.toInt + 2147483648 ≤ ((2147483648 : Nat) : Int) := y2
          omega
        · exact e
      exact ⟨_, _, _, _, qal qb_2b (List.mem_append_right _ hq2), qcutin h, hr, qR_any _, qR_any _⟩
theorem qB_4 : qBx E 4 x1 x2 x3 x4 := ⟨_, _, _, _, qb_4, qR_any _, qR_any _, qR_any _, qR_any _⟩
theorem qcutM {x : Int32} (lo hi : Nat) : (∃ q ∈ ([(0, lo), (lo + 1, hi), (hi + 1, 4294967295)] : List (Nat × Nat)), qR E (qiv q) (.int x)) := by
  have hb := fb_rng x
  by_cases h1 : x.toInt + 2147483648 ≤ (lo : Int)
  · exact ⟨(0, lo), by simp, qR_iv (by dsimp only; omega) (by dsimp only; omega)⟩
  by_cases h2 : x.toInt + 2147483648 ≤ (hi : Int)
  · exact ⟨(lo + 1, hi), by simp, qR_iv (by dsimp only; omega) (by dsimp only; omega)⟩
  · exact ⟨(hi + 1, 4294967295), by simp, qR_iv (by dsimp only; omega) (by dsimp only; omega)⟩
theorem qB_5 : qBx E 5 x1 x2 x3 x4 := by
  rcases qcut3 (E := E) x1 0 2 (by decide) with ⟨q, hq, hr⟩ | h
  · exact qB1 x1 x2 x3 x4 qb_5a hq hr
  · by_cases h0 : x1.toInt = 0
    · obtain ⟨q, hq, hr⟩ := qcutM (E := E) (x := x2) 2147483646 2147483651
      exact ⟨_, _, _, _, qal qb_5b hq, qcutin ⟨by omega, by omega⟩, hr, qR_any _, qR_any _⟩
    · obtain ⟨q, hq, hr⟩ := qcutM (E := E) (x := x2) 2147483646 2147483649
      have h9 := qal qb_5c hq
      simp only [Bool.and_eq_true] at h9
      by_cases h1 : x1.toInt = 1
      · exact ⟨_, _, _, _, h9.1, qcutin ⟨by omega, by omega⟩, hr, qR_any _, qR_any _⟩
      · exact ⟨_, _, _, _, h9.2, qcutin ⟨by omega, by omega⟩, hr, qR_any _, qR_any _⟩
theorem qB_6 : qBx E 6 x1 x2 x3 x4 := by
  rcases qcut3 (E := E) x1 1 100 (by decide) with ⟨q, hq, hr⟩ | h
  · exact qB1 x1 x2 x3 x4 qb_6 (List.mem_append_left _ hq) hr
  · exact qB1 x1 x2 x3 x4 qb_6 (List.mem_append_right _ List.mem_cons_self) (qcutin h)
theorem qB_7 : qBx E 7 x1 x2 x3 x4 := by
  rcases qcut3 (E := E) x1 0 19 (by decide) with ⟨q, hq, hr⟩ | h
  · exact qB1 x1 x2 x3 x4 qb_7a hq hr
  · obtain ⟨c, hc, hcr⟩ := qcut1 (E := E) (x := x1) (n := 20) ⟨by omega, by omega⟩
    have h9 := qal qb_7b hc
    rcases qcut3 (E := E) x2 0 3 (by decide) with ⟨q, hq, hr⟩ | h2
    · exact ⟨_, _, _, _, qal h9 (List.mem_append_left _ hq), hcr, hr, qR_any _, qR_any _⟩
    · exact ⟨_, _, _, _, qal h9 (List.mem_append_right _ List.mem_cons_self), hcr, qcutin h2, qR_any _, qR_any _⟩
theorem qBn {k n : Nat} (h : (qout 0 n ++ qone (n + 1)).all (fun q => qchk k (qiv q) qany qany qany) = true) (hn : n < 2147483647) : qBx E k x1 x2 x3 x4 := by
  rcases qcut3 (E := E) x1 0 n hn with ⟨q, hq, hr⟩ | h2
  · exact qB1 x1 x2 x3 x4 h (List.mem_append_left _ hq) hr
  · obtain ⟨q, hq, hr⟩ := qcut1 (E := E) (x := x1) (n := n + 1) ⟨by omega, by omega⟩
    exact qB1 x1 x2 x3 x4 h (List.mem_append_right _ hq) hr
theorem qBr {k : Nat} (hk : k ∈ ([11, 12, 13, 14, 15, 16, 17, 18, 19, 21, 23] : List Nat)) : qBx E k x1 x2 x3 x4 := by
  have h9 := qal qb_rows hk
  simp only [Bool.and_eq_true] at h9
  rcases qcutS (E := E) x1 with h | ⟨h, -⟩
  · exact ⟨_, _, _, _, h9.1, h, qR_any _, qR_any _, qR_any _⟩
  · exact ⟨_, _, _, _, h9.2, h, qR_any _, qR_any _, qR_any _⟩
theorem qB_20 : qBx E 20 x1 x2 x3 x4 := by
  have h9 : ∀ a ∈ ([qneg, qpos] : List (Nat × Nat)), ∀ b ∈ ([qneg, qpos] : List (Nat × Nat)), qchk 20 (qiv a) (qiv b) qany qany = true := fun a ha b hb => qal (qal qb_20 ha) hb
  rcases qcutS (E := E) x1 with h | ⟨h, -⟩ <;> rcases qcutS (E := E) x2 with h2 | ⟨h2, -⟩
  · exact ⟨_, _, _, _, h9 _ (by simp) _ (by simp), h, h2, qR_any _, qR_any _⟩
  · exact ⟨_, _, _, _, h9 _ (by simp) _ (by simp), h, h2, qR_any _, qR_any _⟩
  · exact ⟨_, _, _, _, h9 _ (by simp) _ (by simp), h, h2, qR_any _, qR_any _⟩
  · exact ⟨_, _, _, _, h9 _ (by simp) _ (by simp), h, h2, qR_any _, qR_any _⟩
theorem qBe {k : Nat} (hk : k ∈ ([24, 25, 26, 27, 28, 29, 30, 31] : List Nat)) : qBx E k x1 x2 x3 x4 := ⟨_, _, _, _, qal qb_rest hk, qR_any _, qR_any _, qR_any _, qR_any _⟩
theorem qB_3 : qBx E 3 x1 x2 x3 x4 := by
  rcases qcutS (E := E) x1 with h | ⟨h, p1⟩
  · exact ⟨_, _, _, _, qb_3a, h, qR_any _, qR_any _, qR_any _⟩
  rcases qcutS (E := E) x2 with g | ⟨g, p2⟩
  · exact ⟨_, _, _, _, qb_3b, h, g, qR_any _, qR_any _⟩
  rcases qcutS (E := E) x3 with f | ⟨f, p3⟩
  · exact ⟨_, _, _, _, qb_3c, h, g, f, qR_any _⟩
  rcases qcut3 (E := E) x4 0 45 (by decide) with ⟨q, hq, hr⟩ | h4
  · exact ⟨_, _, _, _, qal qb_3d hq, h, g, f, hr⟩
  · obtain ⟨a, ha, ra⟩ := qcutD (E := E) p1
    obtain ⟨b, hb, rb⟩ := qcutD (E := E) p2
    obtain ⟨c, hc, rc⟩ := qcutD (E := E) p3
    exact ⟨_, _, _, _, qb_3all a ha b hb c hc, ra, rb, rc, qcutin h4⟩
theorem qB_all {k : Nat} (hk : k < 32) : qBx E k x1 x2 x3 x4 := by
  match k, hk with
  | 0, _ => exact qB_0 x1 x2 x3 x4
  | 1, _ => exact qB_1 x1 x2 x3 x4
  | 2, _ => exact qB_2 x1 x2 x3 x4
  | 3, _ => exact qB_3 x1 x2 x3 x4
  | 4, _ => exact qB_4 x1 x2 x3 x4
  | 5, _ => exact qB_5 x1 x2 x3 x4
  | 6, _ => exact qB_6 x1 x2 x3 x4
  | 7, _ => exact qB_7 x1 x2 x3 x4
  | 8, _ => exact qBn x1 x2 x3 x4 (n := 2) qb_8 (by decide)
  | 9, _ => exact qBn x1 x2 x3 x4 (n := 3) qb_9 (by decide)
  | 10, _ => exact qBn x1 x2 x3 x4 (n := 6) qb_10 (by decide)
  | 11, _ => exact qBr x1 x2 x3 x4 (by simp)
  | 12, _ => exact qBr x1 x2 x3 x4 (by simp)
  | 13, _ => exact qBr x1 x2 x3 x4 (by simp)
  | 14, _ => exact qBr x1 x2 x3 x4 (by simp)
  | 15, _ => exact qBr x1 x2 x3 x4 (by simp)
  | 16, _ => exact qBr x1 x2 x3 x4 (by simp)
  | 17, _ => exact qBr x1 x2 x3 x4 (by simp)
  | 18, _ => exact qBr x1 x2 x3 x4 (by simp)
  | 19, _ => exact qBr x1 x2 x3 x4 (by simp)
  | 20, _ => exact qB_20 x1 x2 x3 x4
  | 21, _ => exact qBr x1 x2 x3 x4 (by simp)
  | 22, _ => exact qBn x1 x2 x3 x4 (n := 3) qb_22 (by decide)
  | 23, _ => exact qBr x1 x2 x3 x4 (by simp)
  | 24, _ => exact qBe x1 x2 x3 x4 (by simp)
  | 25, _ => exact qBe x1 x2 x3 x4 (by simp)
  | 26, _ => exact qBe x1 x2 x3 x4 (by simp)
  | 27, _ => exact qBe x1 x2 x3 x4 (by simp)
  | 28, _ => exact qBe x1 x2 x3 x4 (by simp)
  | 29, _ => exact qBe x1 x2 x3 x4 (by simp)
  | 30, _ => exact qBe x1 x2 x3 x4 (by simp)
  | 31, _ => exact qBe x1 x2 x3 x4 (by simp)
  | k + 32, h => exact absurd h (by omega)
end QC
/-- five bits of an int -/
theorem q5bits (x : Int32) : ∃ k : Nat, k < 32 ∧ x &&& 31 = Int32.ofNat k := by
  refine ⟨(x &&& 31).toBitVec.toNat, ?_, ?_⟩
  · have h1 : (x &&& 31).toBitVec = x.toBitVec &&& (31 : Int32).toBitVec := Int32.toBitVec_and x 31
    rw [h1, BitVec.toNat_and]
    exact Nat.lt_of_le_of_lt Nat.and_le_right (by decide)
  · apply Int32.toBitVec.inj
    show _ = BitVec.ofNat 32 _
    rw [BitVec.ofNat_toNat, BitVec.setWidth_eq]
def qGood (E : mE) : Prop := ∃ S1 : mS, mrunL E (mexecJ E 24) 4000 (ment qLaw [.ref 0] []) = some S1 ∧ mretv S1 = some (some (.int 1)) ∧ S1.2.2.1 ≤ 600002 ∧ S1.2.2.2 ≤ 7302232
theorem ql0_no {j : Nat} (h : 9 ≤ j) : ¬ (ql0 j).1 ≤ 6 := by
  unfold ql0
  rw [qif_ble, if_pos (by omega), qif_ble, if_pos (by omega), qif_beq, if_neg (by omega)]
  decide
theorem qhead {L : Nat} {xs : Nat → Int32} (hL : L < 6) : ∃ (lvc' : mLv) (h' : mH), mrunL (qE L xs) (mexecJ (qE L xs) 24) 4000 (ment qLaw [.ref 0] []) = mrunL (qE L xs) (mexecJ (qE L xs) 24) 3984 ((qLaw, 28, lvc', []), h') ∧ qLr (qE L xs) ql0 lvc' ∧ qWr (qE L xs) qw0 h' := by
  have hE : qEok (qE L xs) 261 (qbxL L) := qE_ok rfl (fun i hi => qR_any _)
  have h1 := List.all_eq_true.mp qpre_run L (List.mem_range.mpr hL)
  unfold qpreOk at h1
  split at h1
  · rename_i n l st w hq
    simp only [Bool.and_eq_true, decide_eq_true_eq] at h1
    obtain ⟨e1, e2, e3, e4⟩ := h1
    subst e1
    subst e2
    have hst : qS (qE L xs) [(1, 0, 0)] [.ref 0] := ⟨rfl, trivial⟩
    obtain ⟨lvc', stc', h', g1, g2, g3, g4⟩ := qwalkL_ok hE (qexec_ok hE 24) 4000 qLaw 0 (qargs 0 [(1, 0, 0)]) [] (fun _ => qh0no, 261, 0, 0) 3984 l [] w hq (lv_args 0 [.ref 0]) [] ([], 0, 0) (qargs_ok _ _ 0 hst) trivial ⟨by simp [qE_len], rfl, rfl, fun i o hi => by cases hi⟩
    rw [qS_n g3] at g1
    refine ⟨lvc', h', g1, ?_, qsameW_ok (qE_len L xs) e4 g4⟩
    intro j hj
    rcases Nat.lt_or_ge j 9 with hj9 | hj9
    · have h3 := of_decide_eq_true (List.all_eq_true.mp e3 j (List.mem_range.mpr hj9))
      rw [← h3] at hj ⊢
      exact g2 j hj
    · exact absurd hj (ql0_no hj9)
  · cases h1
theorem qgood_of {L : Nat} {xs : Nat → Int32} {bx : qX} (hL : L < 6) (hE : qEok (qE L xs) 261 bx) (hq : qans (qgo bx) 600002 7302232 = true) : qGood (qE L xs) := by
  obtain ⟨lvc', h', g1, g2, g3⟩ := qhead (xs := xs) hL
  unfold qans at hq
  split at hq
  · rename_i t v w hr
    simp only [Bool.and_eq_true, decide_eq_true_eq] at hq
    obtain ⟨⟨e1, e2, e3, e4⟩, e5, e6⟩ := hq
    obtain ⟨S1, s1, s2⟩ := qrunL_ok hE (qexec_ok hE 24) 3984 qLaw 28 ql0 [] qw0 t v w ((qgo_eq bx).symm.trans hr) lvc' [] h' g2 trivial g3
    obtain ⟨vv, b1, b2⟩ := s2.2.2.1 e1
    obtain ⟨x, rfl, x1, x2⟩ := qR_int b2 e2
    have hx : x = 1 := by
      rw [fa_eq]
      show x.toInt = 1
      omega
    subst hx
    refine ⟨S1, g1.trans s1, b1, ?_, ?_⟩
    · rw [← s2.1.2.1]; exact Nat.le_of_ble_eq_true e5
    · rw [← s2.1.2.2.1]; exact Nat.le_of_ble_eq_true e6
  · cases hq
theorem law_good {L : Nat} (xs : Nat → Int32) (hL : L ≤ 5) : qGood (qE L xs) := by
  rcases Nat.lt_or_ge L 5 with h5 | h5
  · exact qgood_of (by omega) (qE_ok rfl (fun i hi => qR_any _)) (List.all_eq_true.mp qb_short L (List.mem_range.mpr h5))
  · have e5 : L = 5 := by omega
    subst e5
    obtain ⟨k, hk, hx⟩ := q5bits (xs 0)
    obtain ⟨a, b, c, d, hq, ra, rb, rc, rd⟩ := qB_all (E := qE 5 xs) (xs 1) (xs 2) (xs 3) (xs 4) hk
    refine qgood_of (bx := qbox k a b c d) (by omega) (qE_ok rfl (fun i hi => ?_)) hq
    match i, hi with
    | 0, _ => exact ⟨xs 0, rfl, hx⟩
    | 1, _ => exact ra
    | 2, _ => exact rb
    | 3, _ => exact rc
    | 4, _ => exact rd
