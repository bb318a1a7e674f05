/-! ===== Reading, as it stands ===== -/
theorem cw_34_33 : wcV 34 0 33 2 0 0 = true := by decide +kernel
theorem cw_35_20 : wcV 35 0 20 1 1 1 = true := by decide +kernel
theorem cw_36_20 : wcV 36 0 20 1 1 1 = true := by decide +kernel
theorem cw_36_35 : wcV 36 0 35 2 1 1 = true := by decide +kernel
theorem cw_37_20 : wcV 37 0 20 1 1 1 = true := by decide +kernel
theorem cw_38_20 : wcV 38 0 20 1 1 1 = true := by decide +kernel
/-- a reading that is known; what holds of it -/
def KRd (T : Nat) (σ : wSt) : Prop := ∀ a, T + 1 ≤ a → a ≤ T + 15 → ∀ b, kn σ a b
def RI (T : Nat) (σ : wSt) : Prop := (0 ≤ gv σ (T + 1) 9 ∧ gv σ (T + 1) 9 ≤ 60 ∧ 0 ≤ gv σ (T + 1) 8 ∧ gv σ (T + 1) 8 ≤ 501) ∧
  (∀ r, 0 ≤ r → r < gv σ (T + 1) 9 → 1 ≤ rd σ (T + 14) 60 r ∧ rd σ (T + 14) 60 r ≤ 501 ∧ 0 ≤ rd σ (T + 12) 60 r ∧ rd σ (T + 12) 60 r + min (rd σ (T + 14) 60 r) 20 ≤ gv σ (T + 1) 8) ∧
  (∀ c, 0 ≤ c → c < gv σ (T + 1) 8 → 0 ≤ rd σ (T + 6) 501 c ∧ rd σ (T + 6) 501 c ≤ 500 ∧ 0 ≤ rd σ (T + 4) 501 c ∧ rd σ (T + 4) 501 c ≤ 500 ∧ 0 ≤ rd σ (T + 10) 501 c ∧ rd σ (T + 10) 501 c ≤ 2 ∧ (rd σ (T + 8) 501 c = 0 ∨ rd σ (T + 8) 501 c = 1)) ∧
  ((∀ i, 0 ≤ rd σ (T + 2) 500 i) ∧ ∀ r z, 0 ≤ z → z < r → r < gv σ (T + 1) 9 → rd σ (T + 12) 60 z + min (rd σ (T + 14) 60 z) 20 ≤ rd σ (T + 12) 60 r) ∧
  ((gv σ (T + 1) 9 = 0 → gv σ (T + 1) 12 = 0 ∧ gv σ (T + 1) 13 = 0) ∧ (0 < gv σ (T + 1) 9 → ∃ r, 0 ≤ r ∧ r < gv σ (T + 1) 9 ∧ gv σ (T + 1) 12 = rd σ (T + 14) 60 r) ∧ 0 ≤ gv σ (T + 1) 13 ∧ gv σ (T + 1) 13 ≤ gv σ (T + 1) 9)
theorem RI.uw {T : Nat} {σ : wSt} (h : RI T σ) : 0 ≤ gv σ (T + 1) 12 ∧ gv σ (T + 1) 12 ≤ 501 ∧ (gv σ (T + 1) 9 = 0 → gv σ (T + 1) 12 = 0) ∧ (0 < gv σ (T + 1) 9 → 1 ≤ gv σ (T + 1) 12) := by
  obtain ⟨⟨h1, h2, h3, h4⟩, h5, -, -, h6, h7, h8, h9⟩ := h
  rcases Int.lt_or_le 0 (gv σ (T + 1) 9) with g | g
  · obtain ⟨r, g1, g2, g3⟩ := h7 g
    obtain ⟨g4, g5, -⟩ := h5 r g1 g2
    rw [g3]
    exact ⟨by omega, by omega, fun g6 => by omega, fun _ => by omega⟩
  · have := (h6 (by omega)).1
    exact ⟨by omega, by omega, fun _ => this, fun g6 => by omega⟩
/-- the cell at a place of a row; -1: none -/
def ca (σ : wSt) (T : Nat) (r c : Int) : Int := if 0 ≤ r ∧ r < gv σ (T + 1) 9 ∧ 0 ≤ c ∧ c < min (rd σ (T + 14) 60 r) 20 then rd σ (T + 12) 60 r + c else -1
theorem ca_c {T : Nat} {σ : wSt} {r c : Int} (h : RI T σ) : (ca σ T r c = -1 ∧ ¬ (0 ≤ r ∧ r < gv σ (T + 1) 9 ∧ 0 ≤ c ∧ c < min (rd σ (T + 14) 60 r) 20)) ∨ ((0 ≤ r ∧ r < gv σ (T + 1) 9 ∧ 0 ≤ c ∧ c < min (rd σ (T + 14) 60 r) 20) ∧ ca σ T r c = rd σ (T + 12) 60 r + c ∧ 0 ≤ ca σ T r c ∧ ca σ T r c < gv σ (T + 1) 8) := by
  unfold ca
  by_cases g : 0 ≤ r ∧ r < gv σ (T + 1) 9 ∧ 0 ≤ c ∧ c < min (rd σ (T + 14) 60 r) 20
  · rw [if_pos g]
    obtain ⟨g1, g2, g3, g4⟩ := g
    have := h.2.1 r g1 g2
    exact Or.inr ⟨⟨g1, g2, g3, g4⟩, rfl, by omega, by omega⟩
  · rw [if_neg g]
    exact Or.inl ⟨rfl, g⟩
theorem ca_rng {T : Nat} {σ : wSt} {r c : Int} (h : RI T σ) : -1 ≤ ca σ T r c ∧ ca σ T r c ≤ 500 := by
  have h1 := h.1
  rcases ca_c h (r := r) (c := c) with g | g
  · omega
  · omega
/-- the score -/
def pts (σ : wSt) (T : Nat) : Int := if min (gv σ (T + 1) 12) 20 < 2 ∨ gv σ (T + 1) 9 < 1 then 0 else 100 * gv σ (T + 1) 13 / gv σ (T + 1) 9 + min (gv σ (T + 1) 12) 20
theorem g_columnCount {E : mE} {σ : wSt} {T : Nat} (hE : wE E) (hT : Tb T) (hR : KRd T σ) : Gv E 33 [wr (T + 1)] σ (wi (min (gv σ (T + 1) 12) 20)) := by
  refine Fn.of (nL := 1) ?_
  show Bt E 33 0 [wr (T + 1)] [] σ _
  refine B_aloadn rfl my_33 rfl ?_
  refine B_int hE.1 rfl my_33 rfl (wn_1_12 hT) (hR _ (by omega) (by omega) _) (fun r1 => ?_)
  refine B_bipush rfl my_33 (n := 20) rfl ?_
  refine B_min rfl (show wsp 33 0 = true from by decide +kernel) ?_
  refine B_iret rfl my_33 rfl ?_
  exact ⟨rfl, rfl⟩
theorem g_cellsIn {E : mE} {σ : wSt} {T : Nat} (hE : wE E) (hT : Tb T) (hR : KRd T σ) {r : Int} : Gv E 35 [wr (T + 1), wi r] σ (wi (min (rd σ (T + 14) 60 r) 20)) := by
  refine Fn.of (nL := 2) ?_
  show Bt E 35 0 [wr (T + 1), wi r] [] σ _
  refine B_rng 1 rfl (fun ha1 => ?_)
  refine B_aloadn rfl my_35 rfl ?_
  refine B_ref hE.1 rfl my_35 rfl (r := (T + 14)) (wf_1_6 hT) ?_
  refine B_iloadn rfl my_35 rfl ?_
  refine B_cV hE.1 rfl (nm_14 hT).1 cw_35_20 (as := [wi r]) (rest := []) rfl (Nat.le_of_ble_eq_true rfl) (g_at hE (nm_14 hT) (by decide) (kr_of fun _ => hR _ (by omega) (by omega) _)) (fun vo s9 hq => ?_)
  obtain ⟨rfl, rfl⟩ := hq
  show Bt E 35 8 [wr (T + 1), wi r] [wi (rd σ (T + 14) 60 r)] σ _
  refine B_top (fun r1 => ?_)
  refine B_bipush rfl my_35 (n := 20) rfl ?_
  refine B_min rfl (show wsp 35 0 = true from by decide +kernel) ?_
  refine B_iret rfl my_35 rfl ?_
  exact ⟨rfl, rfl⟩
theorem g_cellAt {E : mE} {σ : wSt} {T : Nat} (hE : wE E) (hT : Tb T) (hR : KRd T σ) (hI : RI T σ) {r c : Int} : Gv E 36 [wr (T + 1), wi r, wi c] σ (wi (ca σ T r c)) := by
  refine Fn.of (nL := 3) ?_
  show Bt E 36 0 [wr (T + 1), wi r, wi c] [] σ _
  refine B_rng 1 rfl (fun ha1 => ?_)
  refine B_rng 2 rfl (fun ha2 => ?_)
  refine B_iloadn rfl my_36 rfl ?_
  refine B_if_lt rfl my_36 rfl (tgt := 25) (nx := 4) rfl rfl (fun c1 => ?_) (fun c1 => ?_)
  · refine B_iconst rfl my_36 (by decide) ?_
    refine B_iret rfl my_36 rfl ?_
    refine ⟨?_, rfl⟩
    unfold ca
    rw [if_neg (by omega)]
  · refine B_iloadn rfl my_36 rfl ?_
    refine B_aloadn rfl my_36 rfl ?_
    refine B_int hE.1 rfl my_36 rfl (wn_1_9 hT) (hR _ (by omega) (by omega) _) (fun r2 => ?_)
    refine B_ic_ge rfl my_36 rfl (tgt := 25) (nx := 12) rfl rfl (fun c3 => ?_) (fun c3 => ?_)
    · refine B_iconst rfl my_36 (by decide) ?_
      refine B_iret rfl my_36 rfl ?_
      refine ⟨?_, rfl⟩
      unfold ca
      rw [if_neg (by omega)]
    · refine B_iloadn rfl my_36 rfl ?_
      refine B_if_lt rfl my_36 rfl (tgt := 25) (nx := 16) rfl rfl (fun c4 => ?_) (fun c4 => ?_)
      · refine B_iconst rfl my_36 (by decide) ?_
        refine B_iret rfl my_36 rfl ?_
        refine ⟨?_, rfl⟩
        unfold ca
        rw [if_neg (by omega)]
      · refine B_iloadn rfl my_36 rfl ?_
        refine B_aloadn rfl my_36 rfl ?_
        refine B_iloadn rfl my_36 rfl ?_
        refine B_cV hE.1 rfl (wc_1 hT) cw_36_35 (as := [wi r]) (rest := [wi c]) rfl (Nat.le_of_ble_eq_true rfl) (g_cellsIn hE hT hR) (fun vo s9 hq => ?_)
        obtain ⟨rfl, rfl⟩ := hq
        show Bt E 36 22 [wr (T + 1), wi r, wi c] [wi (min (rd σ (T + 14) 60 r) 20), wi c] σ _
        refine B_top (fun r5 => ?_)
        refine B_ic_lt rfl my_36 rfl (tgt := 27) (nx := 25) rfl rfl (fun c6 => ?_) (fun c6 => ?_)
        · have hr := hI.2.1 r (by omega) (by omega)
          have hr0 := hI.1
          refine B_aloadn rfl my_36 rfl ?_
          refine B_ref hE.1 rfl my_36 rfl (r := (T + 12)) (wf_1_5 hT) ?_
          refine B_iloadn rfl my_36 rfl ?_
          refine B_cV hE.1 rfl (nm_12 hT).1 cw_36_20 (as := [wi r]) (rest := []) rfl (Nat.le_of_ble_eq_true rfl) (g_at hE (nm_12 hT) (by decide) (kr_of fun _ => hR _ (by omega) (by omega) _)) (fun vo s9 hq => ?_)
          obtain ⟨rfl, rfl⟩ := hq
          show Bt E 36 35 [wr (T + 1), wi r, wi c] [wi (rd σ (T + 12) 60 r)] σ _
          refine B_top (fun r7 => ?_)
          refine B_iloadn rfl my_36 rfl ?_
          refine B_iadd rfl my_36 (by omega) (by omega) ?_
          refine B_iret rfl my_36 rfl ?_
          refine ⟨?_, rfl⟩
          unfold ca
          rw [if_pos (by omega)]
        · refine B_iconst rfl my_36 (by decide) ?_
          refine B_iret rfl my_36 rfl ?_
          refine ⟨?_, rfl⟩
          unfold ca
          rw [if_neg (by omega)]
theorem g_points {E : mE} {σ : wSt} {T : Nat} (hE : wE E) (hT : Tb T) (hR : KRd T σ) (hI : RI T σ) : Gv E 34 [wr (T + 1)] σ (wi (pts σ T)) := by
  have hq0 := hI.1
  have hq1 := hI.2.2.2.2.2.2
  have hq2 := hI.uw
  refine Fn.of (nL := 1) ?_
  show Bt E 34 0 [wr (T + 1)] [] σ _
  refine B_aloadn rfl my_34 rfl ?_
  refine B_cV hE.1 rfl (wc_1 hT) cw_34_33 (as := []) (rest := []) rfl (Nat.le_of_ble_eq_true rfl) (g_columnCount hE hT hR) (fun vo s9 hq => ?_)
  obtain ⟨rfl, rfl⟩ := hq
  show Bt E 34 4 [wr (T + 1)] [wi (min (gv σ (T + 1) 12) 20)] σ _
  refine B_top (fun r1 => ?_)
  refine B_iconst rfl my_34 (by decide) ?_
  refine B_ic_lt rfl my_34 rfl (tgt := 16) (nx := 8) rfl rfl (fun c2 => ?_) (fun c2 => ?_)
  · refine B_iconst rfl my_34 (by decide) ?_
    refine B_iret rfl my_34 rfl ?_
    refine ⟨?_, rfl⟩
    unfold pts
    rw [if_pos (by omega)]
  · refine B_aloadn rfl my_34 rfl ?_
    refine B_int hE.1 rfl my_34 rfl (wn_1_9 hT) (hR _ (by omega) (by omega) _) (fun r3 => ?_)
    refine B_iconst rfl my_34 (by decide) ?_
    refine B_ic_ge rfl my_34 rfl (tgt := 18) (nx := 16) rfl rfl (fun c4 => ?_) (fun c4 => ?_)
    · refine B_bipush rfl my_34 (n := 100) rfl ?_
      refine B_aloadn rfl my_34 rfl ?_
      refine B_int hE.1 rfl my_34 rfl (wn_1_13 hT) (hR _ (by omega) (by omega) _) (fun r5 => ?_)
      refine B_imul rfl my_34 (by omega) (by omega) ?_
      refine B_aloadn rfl my_34 rfl ?_
      refine B_int hE.1 rfl my_34 rfl (wn_1_9 hT) (hR _ (by omega) (by omega) _) (fun r6 => ?_)
      refine B_idiv rfl my_34 (by omega) (by omega) ?_
      refine B_aloadn rfl my_34 rfl ?_
      refine B_cV hE.1 rfl (wc_1 hT) cw_34_33 (as := []) (rest := [wi ((100 * (gv σ (T + 1) 13)) / (gv σ (T + 1) 9))]) rfl (Nat.le_of_ble_eq_true rfl) (g_columnCount hE hT hR) (fun vo s9 hq => ?_)
      obtain ⟨rfl, rfl⟩ := hq
      show Bt E 34 34 [wr (T + 1)] [wi (min (gv σ (T + 1) 12) 20), wi ((100 * (gv σ (T + 1) 13)) / (gv σ (T + 1) 9))] σ _
      refine B_top (fun r7 => ?_)
      refine B_iadd rfl my_34 (by have := Int.ediv_nonneg (show 0 ≤ 100 * (gv σ (T + 1) 13) by omega) (show 0 ≤ gv σ (T + 1) 9 by omega); omega) (by have := Int.ediv_le_self (b := gv σ (T + 1) 9) (show 0 ≤ 100 * (gv σ (T + 1) 13) by omega); omega) ?_
      refine B_iret rfl my_34 rfl ?_
      refine ⟨?_, rfl⟩
      unfold pts
      rw [if_neg (by omega)]
    · refine B_iconst rfl my_34 (by decide) ?_
      refine B_iret rfl my_34 rfl ?_
      refine ⟨?_, rfl⟩
      unfold pts
      rw [if_pos (by omega)]
theorem l_haveSameSigns {E : mE} {σ : wSt} {T : Nat} (hE : wE E) (hT : Tb T) (hR : KRd T σ) {o q n a b : Int} : ∀ (k : Nat) (i : Int), wI i → (n - i).toNat ≤ k → Bt E 37 46 [wr (T + 1), wi o, wi q, wi n, wi a, wi b, wi i] [] σ (fun vo t => ∃ x, vo = some (wi x) ∧ (x = 0 ∨ x = 1) ∧ σ = t) := by
  intro k
  induction k with
  | zero =>
    intro i h1 hm
    refine B_rng 1 rfl (fun ha1 => ?_)
    refine B_rng 2 rfl (fun ha2 => ?_)
    refine B_rng 3 rfl (fun ha3 => ?_)
    refine B_rng 4 rfl (fun ha4 => ?_)
    refine B_rng 5 rfl (fun ha5 => ?_)
    refine B_rng 6 rfl (fun ha6 => ?_)
    refine B_iload rfl my_37 rfl ?_
    refine B_iloadn rfl my_37 rfl ?_
    refine B_ic_ge rfl my_37 rfl (tgt := 87) (nx := 52) rfl rfl (fun c1 => ?_) (fun c1 => ?_)
    · refine B_iconst rfl my_37 (by decide) ?_
      refine B_bret rfl my_37 rfl (by omega) ?_
      exact ⟨_, rfl, by omega, rfl⟩
    · exact absurd hm (by omega)
  | succ k ih =>
    intro i h1 hm
    refine B_rng 1 rfl (fun ha1 => ?_)
    refine B_rng 2 rfl (fun ha2 => ?_)
    refine B_rng 3 rfl (fun ha3 => ?_)
    refine B_rng 4 rfl (fun ha4 => ?_)
    refine B_rng 5 rfl (fun ha5 => ?_)
    refine B_rng 6 rfl (fun ha6 => ?_)
    refine B_iload rfl my_37 rfl ?_
    refine B_iloadn rfl my_37 rfl ?_
    refine B_ic_ge rfl my_37 rfl (tgt := 87) (nx := 52) rfl rfl (fun c1 => ?_) (fun c1 => ?_)
    · refine B_iconst rfl my_37 (by decide) ?_
      refine B_bret rfl my_37 rfl (by omega) ?_
      exact ⟨_, rfl, by omega, rfl⟩
    · refine B_aloadn rfl my_37 rfl ?_
      refine B_ref hE.1 rfl my_37 rfl (r := (T + 2)) (wf_1_0 hT) ?_
      refine B_iload rfl my_37 rfl ?_
      refine B_iload rfl my_37 rfl ?_
      refine B_iaddW rfl my_37 ?_
      refine B_top (fun r2 => ?_)
      refine B_cV hE.1 rfl (nm_2 hT).1 cw_37_20 (as := [wi (w32 (a + i))]) (rest := []) rfl (Nat.le_of_ble_eq_true rfl) (g_at hE (nm_2 hT) (by decide) (kr_of fun _ => hR _ (by omega) (by omega) _)) (fun vo s9 hq => ?_)
      obtain ⟨rfl, rfl⟩ := hq
      show Bt E 37 64 [wr (T + 1), wi o, wi q, wi n, wi a, wi b, wi i] [wi (rd σ (T + 2) 500 (w32 (a + i)))] σ _
      refine B_top (fun r3 => ?_)
      refine B_aloadn rfl my_37 rfl ?_
      refine B_ref hE.1 rfl my_37 rfl (r := (T + 2)) (wf_1_0 hT) ?_
      refine B_iload rfl my_37 rfl ?_
      refine B_iload rfl my_37 rfl ?_
      refine B_iaddW rfl my_37 ?_
      refine B_top (fun r4 => ?_)
      refine B_cV hE.1 rfl (nm_2 hT).1 cw_37_20 (as := [wi (w32 (b + i))]) (rest := [wi (rd σ (T + 2) 500 (w32 (a + i)))]) rfl (Nat.le_of_ble_eq_true rfl) (g_at hE (nm_2 hT) (by decide) (kr_of fun _ => hR _ (by omega) (by omega) _)) (fun vo s9 hq => ?_)
      obtain ⟨rfl, rfl⟩ := hq
      show Bt E 37 76 [wr (T + 1), wi o, wi q, wi n, wi a, wi b, wi i] [wi (rd σ (T + 2) 500 (w32 (b + i))), wi (rd σ (T + 2) 500 (w32 (a + i)))] σ _
      refine B_top (fun r5 => ?_)
      refine B_ic_eq rfl my_37 rfl (tgt := 81) (nx := 79) rfl rfl (fun c6 => ?_) (fun c6 => ?_)
      · refine B_iinc rfl my_37 (by decide) rfl rfl rfl (by omega) (by omega) (show _ = [wr (T + 1), wi o, wi q, wi n, wi a, wi b, wi (i + 1)] from rfl) ?_
        refine B_goto rfl my_37 rfl (tgt := 46) rfl ?_
        exact ih _ (by omega) (by omega)
      · refine B_iconst rfl my_37 (by decide) ?_
        refine B_bret rfl my_37 rfl (by omega) ?_
        exact ⟨_, rfl, by omega, rfl⟩
theorem g_haveSameSigns {E : mE} {σ : wSt} {T : Nat} (hE : wE E) (hT : Tb T) (hR : KRd T σ) {o q : Int} : Ev E 37 [wr (T + 1), wi o, wi q] σ (fun x => (x = 0 ∨ x = 1) ∧ (x = 1 → rd σ (T + 6) 501 o = rd σ (T + 6) 501 q)) := by
  refine Fn.of (nL := 7) ?_
  show Bt E 37 0 [wr (T + 1), wi o, wi q, wx, wx, wx, wx] [] σ _
  refine B_rng 1 rfl (fun ha1 => ?_)
  refine B_rng 2 rfl (fun ha2 => ?_)
  refine B_aloadn rfl my_37 rfl ?_
  refine B_ref hE.1 rfl my_37 rfl (r := (T + 6)) (wf_1_2 hT) ?_
  refine B_iloadn rfl my_37 rfl ?_
  refine B_cV hE.1 rfl (nm_6 hT).1 cw_37_20 (as := [wi o]) (rest := []) rfl (Nat.le_of_ble_eq_true rfl) (g_at hE (nm_6 hT) (by decide) (kr_of fun _ => hR _ (by omega) (by omega) _)) (fun vo s9 hq => ?_)
  obtain ⟨rfl, rfl⟩ := hq
  show Bt E 37 8 [wr (T + 1), wi o, wi q, wx, wx, wx, wx] [wi (rd σ (T + 6) 501 o)] σ _
  refine B_top (fun r1 => ?_)
  refine B_istoren rfl my_37 (by decide) rfl (show _ = [wr (T + 1), wi o, wi q, wi (rd σ (T + 6) 501 o), wx, wx, wx] from rfl) ?_
  refine B_iloadn rfl my_37 rfl ?_
  refine B_aloadn rfl my_37 rfl ?_
  refine B_ref hE.1 rfl my_37 rfl (r := (T + 6)) (wf_1_2 hT) ?_
  refine B_iloadn rfl my_37 rfl ?_
  refine B_cV hE.1 rfl (nm_6 hT).1 cw_37_20 (as := [wi q]) (rest := [wi (rd σ (T + 6) 501 o)]) rfl (Nat.le_of_ble_eq_true rfl) (g_at hE (nm_6 hT) (by decide) (kr_of fun _ => hR _ (by omega) (by omega) _)) (fun vo s9 hq => ?_)
  obtain ⟨rfl, rfl⟩ := hq
  show Bt E 37 18 [wr (T + 1), wi o, wi q, wi (rd σ (T + 6) 501 o), wx, wx, wx] [wi (rd σ (T + 6) 501 q), wi (rd σ (T + 6) 501 o)] σ _
  refine B_top (fun r2 => ?_)
  refine B_ic_eq rfl my_37 rfl (tgt := 23) (nx := 21) rfl rfl (fun c3 => ?_) (fun c3 => ?_)
  · refine B_aloadn rfl my_37 rfl ?_
    refine B_ref hE.1 rfl my_37 rfl (r := (T + 4)) (wf_1_1 hT) ?_
    refine B_iloadn rfl my_37 rfl ?_
    refine B_cV hE.1 rfl (nm_4 hT).1 cw_37_20 (as := [wi o]) (rest := []) rfl (Nat.le_of_ble_eq_true rfl) (g_at hE (nm_4 hT) (by decide) (kr_of fun _ => hR _ (by omega) (by omega) _)) (fun vo s9 hq => ?_)
    obtain ⟨rfl, rfl⟩ := hq
    show Bt E 37 31 [wr (T + 1), wi o, wi q, wi (rd σ (T + 6) 501 o), wx, wx, wx] [wi (rd σ (T + 4) 501 o)] σ _
    refine B_top (fun r4 => ?_)
    refine B_istore rfl my_37 (by decide) rfl (show _ = [wr (T + 1), wi o, wi q, wi (rd σ (T + 6) 501 o), wi (rd σ (T + 4) 501 o), wx, wx] from rfl) ?_
    refine B_aloadn rfl my_37 rfl ?_
    refine B_ref hE.1 rfl my_37 rfl (r := (T + 4)) (wf_1_1 hT) ?_
    refine B_iloadn rfl my_37 rfl ?_
    refine B_cV hE.1 rfl (nm_4 hT).1 cw_37_20 (as := [wi q]) (rest := []) rfl (Nat.le_of_ble_eq_true rfl) (g_at hE (nm_4 hT) (by decide) (kr_of fun _ => hR _ (by omega) (by omega) _)) (fun vo s9 hq => ?_)
    obtain ⟨rfl, rfl⟩ := hq
    show Bt E 37 41 [wr (T + 1), wi o, wi q, wi (rd σ (T + 6) 501 o), wi (rd σ (T + 4) 501 o), wx, wx] [wi (rd σ (T + 4) 501 q)] σ _
    refine B_top (fun r5 => ?_)
    refine B_istore rfl my_37 (by decide) rfl (show _ = [wr (T + 1), wi o, wi q, wi (rd σ (T + 6) 501 o), wi (rd σ (T + 4) 501 o), wi (rd σ (T + 4) 501 q), wx] from rfl) ?_
    refine B_iconst rfl my_37 (by decide) ?_
    refine B_istore rfl my_37 (by decide) rfl (show _ = [wr (T + 1), wi o, wi q, wi (rd σ (T + 6) 501 o), wi (rd σ (T + 4) 501 o), wi (rd σ (T + 4) 501 q), wi 0] from rfl) ?_
    refine (l_haveSameSigns hE hT hR _ 0 (by omega) (Nat.le_refl _)).mono (fun vo s hq => ?_)
    obtain ⟨x, rfl, g1, rfl⟩ := hq
    exact ⟨x, rfl, ⟨g1, fun _ => by omega⟩, rfl⟩
  · refine B_iconst rfl my_37 (by decide) ?_
    refine B_bret rfl my_37 rfl (by omega) ?_
    exact ⟨_, rfl, ⟨by omega, by omega⟩, rfl⟩
theorem l_quotedCells {E : mE} {σ : wSt} {T : Nat} (hE : wE E) (hT : Tb T) (hR : KRd T σ) : ∀ (k : Nat) (a i : Int), wI i → (gv σ (T + 1) 8 - i).toNat ≤ k → Bt E 38 4 [wr (T + 1), wi a, wi i] [] σ (fun vo t => ∃ x, vo = some (wi x) ∧ True ∧ σ = t) := by
  intro k
  induction k with
  | zero =>
    intro a i h1 hm
    refine B_rng 1 rfl (fun ha1 => ?_)
    refine B_rng 2 rfl (fun ha2 => ?_)
    refine B_iloadn rfl my_38 rfl ?_
    refine B_aloadn rfl my_38 rfl ?_
    refine B_int hE.1 rfl my_38 rfl (wn_1_8 hT) (hR _ (by omega) (by omega) _) (fun r1 => ?_)
    refine B_ic_ge rfl my_38 rfl (tgt := 29) (nx := 12) rfl rfl (fun c2 => ?_) (fun c2 => ?_)
    · refine B_iloadn rfl my_38 rfl ?_
      refine B_iret rfl my_38 rfl ?_
      exact ⟨_, rfl, trivial, rfl⟩
    · exact absurd hm (by omega)
  | succ k ih =>
    intro a i h1 hm
    refine B_rng 1 rfl (fun ha1 => ?_)
    refine B_rng 2 rfl (fun ha2 => ?_)
    refine B_iloadn rfl my_38 rfl ?_
    refine B_aloadn rfl my_38 rfl ?_
    refine B_int hE.1 rfl my_38 rfl (wn_1_8 hT) (hR _ (by omega) (by omega) _) (fun r1 => ?_)
    refine B_ic_ge rfl my_38 rfl (tgt := 29) (nx := 12) rfl rfl (fun c2 => ?_) (fun c2 => ?_)
    · refine B_iloadn rfl my_38 rfl ?_
      refine B_iret rfl my_38 rfl ?_
      exact ⟨_, rfl, trivial, rfl⟩
    · refine B_iloadn rfl my_38 rfl ?_
      refine B_aloadn rfl my_38 rfl ?_
      refine B_ref hE.1 rfl my_38 rfl (r := (T + 8)) (wf_1_3 hT) ?_
      refine B_iloadn rfl my_38 rfl ?_
      refine B_cV hE.1 rfl (nm_8 hT).1 cw_38_20 (as := [wi i]) (rest := [wi a]) rfl (Nat.le_of_ble_eq_true rfl) (g_at hE (nm_8 hT) (by decide) (kr_of fun _ => hR _ (by omega) (by omega) _)) (fun vo s9 hq => ?_)
      obtain ⟨rfl, rfl⟩ := hq
      show Bt E 38 21 [wr (T + 1), wi a, wi i] [wi (rd σ (T + 8) 501 i), wi a] σ _
      refine B_top (fun r3 => ?_)
      refine B_iaddW rfl my_38 ?_
      refine B_top (fun r4 => ?_)
      refine B_istoren rfl my_38 (by decide) rfl (show _ = [wr (T + 1), wi (w32 (a + (rd σ (T + 8) 501 i))), wi i] from rfl) ?_
      refine B_iinc rfl my_38 (by decide) rfl rfl rfl (by omega) (by omega) (show _ = [wr (T + 1), wi (w32 (a + (rd σ (T + 8) 501 i))), wi (i + 1)] from rfl) ?_
      refine B_goto rfl my_38 rfl (tgt := 4) rfl ?_
      exact ih _ _ (by omega) (by omega)
theorem g_quotedCells {E : mE} {σ : wSt} {T : Nat} (hE : wE E) (hT : Tb T) (hR : KRd T σ) : Ev E 38 [wr (T + 1)] σ (fun x => True) := by
  refine Fn.of (nL := 3) ?_
  show Bt E 38 0 [wr (T + 1), wx, wx] [] σ _
  refine B_iconst rfl my_38 (by decide) ?_
  refine B_istoren rfl my_38 (by decide) rfl (show _ = [wr (T + 1), wi 0, wx] from rfl) ?_
  refine B_iconst rfl my_38 (by decide) ?_
  refine B_istoren rfl my_38 (by decide) rfl (show _ = [wr (T + 1), wi 0, wi 0] from rfl) ?_
  exact l_quotedCells hE hT hR _ _ 0 (by omega) (Nat.le_refl _)
