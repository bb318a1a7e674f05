/-! ===== Numbers, Kinds ===== -/
theorem cw_11_20 : wcV 11 0 20 1 1 1 = true := by decide +kernel
theorem cw_12_20 : wcV 12 0 20 1 1 1 = true := by decide +kernel
theorem cw_13_20 : wcV 13 0 20 1 1 1 = true := by decide +kernel
theorem cw_14_18_0 : wcS 14 0 18 1 1 = true := by decide +kernel
theorem cw_15_18_0 : wcS 15 0 18 1 1 = true := by decide +kernel
theorem cw_16_17_0 : wcS 16 0 17 1 1 = true := by decide +kernel
theorem cw_4_11_0 : wcS 4 0 11 3 3 = true := by decide +kernel
theorem cw_4_12_0 : wcS 4 0 12 3 3 = true := by decide +kernel
theorem cw_5_11_0 : wcS 5 0 11 3 3 = true := by decide +kernel
theorem cw_5_12_0 : wcS 5 0 12 3 3 = true := by decide +kernel
theorem cw_5_20 : wcV 5 0 20 1 1 1 = true := by decide +kernel
theorem cw_6_20 : wcV 6 0 20 1 1 1 = true := by decide +kernel
theorem cw_7_11_0 : wcS 7 0 11 3 3 = true := by decide +kernel
theorem cw_7_13_0 : wcS 7 0 13 3 3 = true := by decide +kernel
theorem cw_7_20 : wcV 7 0 20 1 1 1 = true := by decide +kernel
theorem cw_8_11_0 : wcS 8 0 11 3 3 = true := by decide +kernel
theorem cw_8_12_0 : wcS 8 0 12 3 3 = true := by decide +kernel
theorem cw_8_13_0 : wcS 8 0 13 3 3 = true := by decide +kernel
theorem cw_8_20 : wcV 8 0 20 1 1 1 = true := by decide +kernel
theorem cw_9_10_0 : wcS 9 0 10 1 1 = true := by decide +kernel
theorem cw_9_12_0 : wcS 9 0 12 3 3 = true := by decide +kernel
theorem cw_9_13_0 : wcS 9 0 13 3 3 = true := by decide +kernel
theorem cw_9_14_0 : wcS 9 0 14 2 2 = true := by decide +kernel
theorem cw_9_15_0 : wcS 9 0 15 2 2 = true := by decide +kernel
theorem cw_9_16_0 : wcS 9 0 16 1 1 = true := by decide +kernel
theorem cw_9_20 : wcV 9 0 20 1 1 1 = true := by decide +kernel
theorem g_at {E : mE} {σ : wSt} {n len : Nat} {i : Int} (hE : wE E) (hN : Nm n len) (hlen : len < 2147483648) (hk : kr σ n len i) : Gv E 20 [wr n, wi i] σ (wi (rd σ n len i)) := by
  refine Fn.of (nL := 2) ?_
  show Bt E 20 0 [wr n, wi i] [] σ _
  refine B_iloadn rfl my_20 rfl ?_
  refine B_if_lt rfl my_20 rfl (tgt := 22) (nx := 4) rfl rfl (fun c1 => ?_) (fun c1 => ?_)
  · refine B_iconst rfl my_20 (by decide) ?_
    refine B_iret rfl my_20 rfl ?_
    refine ⟨?_, rfl⟩
    rw [rd_out (by omega)]
  · refine B_iloadn rfl my_20 rfl ?_
    refine B_aloadn rfl my_20 rfl ?_
    refine B_ref hE.1 rfl my_20 rfl (r := (n + 1)) hN.2.1 ?_
    refine B_len hE.1 rfl my_20 hN.2.2 hlen ?_
    refine B_ic_ge rfl my_20 rfl (tgt := 22) (nx := 13) rfl rfl (fun c2 => ?_) (fun c2 => ?_)
    · refine B_iconst rfl my_20 (by decide) ?_
      refine B_iret rfl my_20 rfl ?_
      refine ⟨?_, rfl⟩
      rw [rd_out (by omega)]
    · refine B_aloadn rfl my_20 rfl ?_
      refine B_ref hE.1 rfl my_20 rfl (r := (n + 1)) hN.2.1 ?_
      refine B_iloadn rfl my_20 rfl ?_
      refine B_ild hE.1 rfl my_20 hN.2.2 (by omega) (by omega) (hk (by omega) (by omega)) (fun r3 => ?_)
      refine B_goto rfl my_20 rfl (tgt := 23) rfl ?_
      refine B_iret rfl my_20 rfl ?_
      refine ⟨?_, rfl⟩
      rw [rd_in (by omega) (by omega)]
theorem g_put {E : mE} {σ : wSt} {n len : Nat} {i x : Int} (hE : wE E) (hN : Nm n len) (hlen : len < 2147483648) : Mv E 21 [wr n, wi i, wi x] σ (pt σ n len i x) := by
  refine Fn.of (nL := 3) ?_
  show Bt E 21 0 [wr n, wi i, wi x] [] σ _
  refine B_iloadn rfl my_21 rfl ?_
  refine B_if_lt rfl my_21 rfl (tgt := 20) (nx := 4) rfl rfl (fun c1 => ?_) (fun c1 => ?_)
  · refine B_ret rfl my_21 rfl ?_
    refine ⟨rfl, ?_⟩
    unfold pt
    rw [if_neg (by omega)]
  · refine B_iloadn rfl my_21 rfl ?_
    refine B_aloadn rfl my_21 rfl ?_
    refine B_ref hE.1 rfl my_21 rfl (r := (n + 1)) hN.2.1 ?_
    refine B_len hE.1 rfl my_21 hN.2.2 hlen ?_
    refine B_ic_ge rfl my_21 rfl (tgt := 20) (nx := 13) rfl rfl (fun c2 => ?_) (fun c2 => ?_)
    · refine B_ret rfl my_21 rfl ?_
      refine ⟨rfl, ?_⟩
      unfold pt
      rw [if_neg (by omega)]
    · refine B_aloadn rfl my_21 rfl ?_
      refine B_ref hE.1 rfl my_21 rfl (r := (n + 1)) hN.2.1 ?_
      refine B_iloadn rfl my_21 rfl ?_
      refine B_iloadn rfl my_21 rfl ?_
      refine B_ist hE.1 rfl my_21 hN.2.2 (by omega) (by omega) ?_
      refine B_ret rfl my_21 rfl ?_
      refine ⟨rfl, ?_⟩
      unfold pt
      rw [if_pos ⟨by omega, by omega⟩]
theorem g_isOneOrTwo {E : mE} {σ : wSt} {n : Int} (hE : wE E) : Ev E 10 [wi n] σ (fun x => (x = 0 ∨ x = 1) ∧ (x = 1 ↔ n = 1 ∨ n = 2)) := by
  refine Fn.of (nL := 1) ?_
  show Bt E 10 0 [wi n] [] σ _
  refine B_rng 0 rfl (fun ha0 => ?_)
  refine B_iloadn rfl my_10 rfl ?_
  refine B_iconst rfl my_10 (by decide) ?_
  refine B_ic_eq rfl my_10 rfl (tgt := 10) (nx := 5) rfl rfl (fun c1 => ?_) (fun c1 => ?_)
  · refine B_iconst rfl my_10 (by decide) ?_
    refine B_goto rfl my_10 rfl (tgt := 15) rfl ?_
    refine B_bret rfl my_10 rfl (by omega) ?_
    exact ⟨_, rfl, ⟨by omega, by omega⟩, rfl⟩
  · refine B_iloadn rfl my_10 rfl ?_
    refine B_iconst rfl my_10 (by decide) ?_
    refine B_ic_ne rfl my_10 rfl (tgt := 14) (nx := 10) rfl rfl (fun c2 => ?_) (fun c2 => ?_)
    · refine B_iconst rfl my_10 (by decide) ?_
      refine B_bret rfl my_10 rfl (by omega) ?_
      exact ⟨_, rfl, ⟨by omega, by omega⟩, rfl⟩
    · refine B_iconst rfl my_10 (by decide) ?_
      refine B_goto rfl my_10 rfl (tgt := 15) rfl ?_
      refine B_bret rfl my_10 rfl (by omega) ?_
      exact ⟨_, rfl, ⟨by omega, by omega⟩, rfl⟩
theorem g_behindMinus {E : mE} {σ : wSt} {n len : Nat} {s e : Int} (hE : wE E) (hN : Nm n len) (hK : ∀ i, kr σ n len i) (hlen : len < 2147483648) : Ev E 11 [wr n, wi s, wi e] σ (fun x => x = s ∨ x = s + 1 ∧ s < e) := by
  refine Fn.of (nL := 3) ?_
  show Bt E 11 0 [wr n, wi s, wi e] [] σ _
  refine B_rng 1 rfl (fun ha1 => ?_)
  refine B_rng 2 rfl (fun ha2 => ?_)
  refine B_iloadn rfl my_11 rfl ?_
  refine B_iloadn rfl my_11 rfl ?_
  refine B_ic_ge rfl my_11 rfl (tgt := 21) (nx := 5) rfl rfl (fun c1 => ?_) (fun c1 => ?_)
  · refine B_iloadn rfl my_11 rfl ?_
    refine B_iret rfl my_11 rfl ?_
    exact ⟨_, rfl, by omega, rfl⟩
  · refine B_aloadn rfl my_11 rfl ?_
    refine B_iloadn rfl my_11 rfl ?_
    refine B_cV hE.1 rfl hN.1 cw_11_20 (as := [wi s]) (rest := []) rfl (Nat.le_of_ble_eq_true rfl) (g_at hE hN hlen (hK _)) (fun vo s9 hq => ?_)
    obtain ⟨rfl, rfl⟩ := hq
    show Bt E 11 10 [wr n, wi s, wi e] [wi (rd σ n len s)] σ _
    refine B_top (fun r2 => ?_)
    refine B_bipush rfl my_11 (n := 8) rfl ?_
    refine B_ic_ne rfl my_11 rfl (tgt := 21) (nx := 15) rfl rfl (fun c3 => ?_) (fun c3 => ?_)
    · refine B_iloadn rfl my_11 rfl ?_
      refine B_iret rfl my_11 rfl ?_
      exact ⟨_, rfl, by omega, rfl⟩
    · refine B_iloadn rfl my_11 rfl ?_
      refine B_iconst rfl my_11 (by decide) ?_
      refine B_iadd rfl my_11 (by omega) (by omega) ?_
      refine B_goto rfl my_11 rfl (tgt := 22) rfl ?_
      refine B_iret rfl my_11 rfl ?_
      exact ⟨_, rfl, by omega, rfl⟩
theorem l_digitsFrom {E : mE} {σ : wSt} {n len : Nat} {s e : Int} (hE : wE E) (hN : Nm n len) (hK : ∀ i, kr σ n len i) (hlen : len < 2147483648) : ∀ (k : Nat) (p : Int), wI p → (e - p).toNat ≤ k → Bt E 12 2 [wr n, wi s, wi e, wi p] [] σ (fun vo t => ∃ x, vo = some (wi x) ∧ True ∧ σ = t) := by
  intro k
  induction k with
  | zero =>
    intro p h1 hm
    refine B_rng 2 rfl (fun he => ?_)
    refine B_iloadn rfl my_12 rfl ?_
    refine B_iloadn rfl my_12 rfl ?_
    refine B_ic_ge rfl my_12 rfl (tgt := 33) (nx := 7) rfl rfl (fun c1 => ?_) (fun c1 => ?_)
    · refine B_iloadn rfl my_12 rfl ?_
      refine B_iloadn rfl my_12 rfl ?_
      refine B_isubW rfl my_12 ?_
      refine B_top (fun r2 => ?_)
      refine B_iret rfl my_12 rfl ?_
      exact ⟨_, rfl, trivial, rfl⟩
    · exact absurd c1 (by omega)
  | succ k ih =>
    intro p h1 hm
    refine B_rng 2 rfl (fun he => ?_)
    refine B_iloadn rfl my_12 rfl ?_
    refine B_iloadn rfl my_12 rfl ?_
    refine B_ic_ge rfl my_12 rfl (tgt := 33) (nx := 7) rfl rfl (fun c1 => ?_) (fun c1 => ?_)
    · refine B_iloadn rfl my_12 rfl ?_
      refine B_iloadn rfl my_12 rfl ?_
      refine B_isubW rfl my_12 ?_
      refine B_top (fun r2 => ?_)
      refine B_iret rfl my_12 rfl ?_
      exact ⟨_, rfl, trivial, rfl⟩
    · refine B_aloadn rfl my_12 rfl ?_
      refine B_iloadn rfl my_12 rfl ?_
      refine B_cV hE.1 rfl hN.1 cw_12_20 (as := [wi p]) (rest := []) rfl (Nat.le_of_ble_eq_true rfl) (g_at hE hN hlen (hK _)) (fun vo s9 hq => ?_)
      obtain ⟨rfl, rfl⟩ := hq
      show Bt E 12 12 [wr n, wi s, wi e, wi p] [wi (rd σ n len p)] σ _
      refine B_top (fun r3 => ?_)
      refine B_bipush rfl my_12 (n := 10) rfl ?_
      refine B_ic_lt rfl my_12 rfl (tgt := 33) (nx := 17) rfl rfl (fun c4 => ?_) (fun c4 => ?_)
      · refine B_iloadn rfl my_12 rfl ?_
        refine B_iloadn rfl my_12 rfl ?_
        refine B_isubW rfl my_12 ?_
        refine B_top (fun r5 => ?_)
        refine B_iret rfl my_12 rfl ?_
        exact ⟨_, rfl, trivial, rfl⟩
      · refine B_aloadn rfl my_12 rfl ?_
        refine B_iloadn rfl my_12 rfl ?_
        refine B_cV hE.1 rfl hN.1 cw_12_20 (as := [wi p]) (rest := []) rfl (Nat.le_of_ble_eq_true rfl) (g_at hE hN hlen (hK _)) (fun vo s9 hq => ?_)
        obtain ⟨rfl, rfl⟩ := hq
        show Bt E 12 22 [wr n, wi s, wi e, wi p] [wi (rd σ n len p)] σ _
        refine B_top (fun r6 => ?_)
        refine B_bipush rfl my_12 (n := 19) rfl ?_
        refine B_ic_gt rfl my_12 rfl (tgt := 33) (nx := 27) rfl rfl (fun c7 => ?_) (fun c7 => ?_)
        · refine B_iloadn rfl my_12 rfl ?_
          refine B_iloadn rfl my_12 rfl ?_
          refine B_isubW rfl my_12 ?_
          refine B_top (fun r8 => ?_)
          refine B_iret rfl my_12 rfl ?_
          exact ⟨_, rfl, trivial, rfl⟩
        · refine B_iinc rfl my_12 (by decide) rfl rfl rfl (by omega) (by omega) (show _ = [wr n, wi s, wi e, wi (p + 1)] from rfl) ?_
          refine B_goto rfl my_12 rfl (tgt := 2) rfl ?_
          refine ih _ ?_ ?_
          · omega
          · omega
theorem g_digitsFrom {E : mE} {σ : wSt} {n len : Nat} {s e : Int} (hE : wE E) (hN : Nm n len) (hK : ∀ i, kr σ n len i) (hlen : len < 2147483648) : Ev E 12 [wr n, wi s, wi e] σ (fun x => True) := by
  refine Fn.of (nL := 4) ?_
  show Bt E 12 0 [wr n, wi s, wi e, wx] [] σ _
  refine B_rng 1 rfl (fun ha1 => ?_)
  refine B_rng 2 rfl (fun ha2 => ?_)
  refine B_iloadn rfl my_12 rfl ?_
  refine B_istoren rfl my_12 (by decide) rfl (show _ = [wr n, wi s, wi e, wi s] from rfl) ?_
  exact l_digitsFrom hE hN hK hlen (e - s).toNat s ha1 (Nat.le_refl _)
theorem l_number {E : mE} {σ : wSt} {n len : Nat} {s e : Int} (hE : wE E) (hN : Nm n len) (hK : ∀ i, kr σ n len i) (hlen : len < 2147483648) : ∀ (k : Nat) (a p : Int), wI p → (e - p).toNat ≤ k → Bt E 13 5 [wr n, wi s, wi e, wi a, wi p] [] σ (fun vo t => ∃ x, vo = some (wi x) ∧ True ∧ σ = t) := by
  intro k
  induction k with
  | zero =>
    intro a p h1 hm
    refine B_rng 2 rfl (fun he => ?_)
    refine B_iload rfl my_13 rfl ?_
    refine B_iloadn rfl my_13 rfl ?_
    refine B_ic_ge rfl my_13 rfl (tgt := 32) (nx := 11) rfl rfl (fun c1 => ?_) (fun c1 => ?_)
    · refine B_iloadn rfl my_13 rfl ?_
      refine B_iret rfl my_13 rfl ?_
      exact ⟨_, rfl, trivial, rfl⟩
    · exact absurd c1 (by omega)
  | succ k ih =>
    intro a p h1 hm
    refine B_rng 2 rfl (fun he => ?_)
    refine B_iload rfl my_13 rfl ?_
    refine B_iloadn rfl my_13 rfl ?_
    refine B_ic_ge rfl my_13 rfl (tgt := 32) (nx := 11) rfl rfl (fun c1 => ?_) (fun c1 => ?_)
    · refine B_iloadn rfl my_13 rfl ?_
      refine B_iret rfl my_13 rfl ?_
      exact ⟨_, rfl, trivial, rfl⟩
    · refine B_iloadn rfl my_13 rfl ?_
      refine B_bipush rfl my_13 (n := 10) rfl ?_
      refine B_imulW rfl my_13 ?_
      refine B_top (fun r2 => ?_)
      refine B_aloadn rfl my_13 rfl ?_
      refine B_iload rfl my_13 rfl ?_
      refine B_cV hE.1 rfl hN.1 cw_13_20 (as := [wi p]) (rest := [wi (w32 (a * 10))]) rfl (Nat.le_of_ble_eq_true rfl) (g_at hE hN hlen (hK _)) (fun vo s9 hq => ?_)
      obtain ⟨rfl, rfl⟩ := hq
      show Bt E 13 21 [wr n, wi s, wi e, wi a, wi p] [wi (rd σ n len p), wi (w32 (a * 10))] σ _
      refine B_top (fun r3 => ?_)
      refine B_iaddW rfl my_13 ?_
      refine B_top (fun r4 => ?_)
      refine B_bipush rfl my_13 (n := 10) rfl ?_
      refine B_isubW rfl my_13 ?_
      refine B_top (fun r5 => ?_)
      refine B_istoren rfl my_13 (by decide) rfl (show _ = [wr n, wi s, wi e, wi (w32 ((w32 ((w32 (a * 10)) + (rd σ n len p))) - 10)), wi p] from rfl) ?_
      refine B_iinc rfl my_13 (by decide) rfl rfl rfl (by omega) (by omega) (show _ = [wr n, wi s, wi e, wi (w32 ((w32 ((w32 (a * 10)) + (rd σ n len p))) - 10)), wi (p + 1)] from rfl) ?_
      refine B_goto rfl my_13 rfl (tgt := 5) rfl ?_
      refine ih _ _ ?_ ?_
      · omega
      · omega
theorem g_number {E : mE} {σ : wSt} {n len : Nat} {s e : Int} (hE : wE E) (hN : Nm n len) (hK : ∀ i, kr σ n len i) (hlen : len < 2147483648) : Ev E 13 [wr n, wi s, wi e] σ (fun x => True) := by
  refine Fn.of (nL := 5) ?_
  show Bt E 13 0 [wr n, wi s, wi e, wx, wx] [] σ _
  refine B_rng 1 rfl (fun ha1 => ?_)
  refine B_rng 2 rfl (fun ha2 => ?_)
  refine B_iconst rfl my_13 (by decide) ?_
  refine B_istoren rfl my_13 (by decide) rfl (show _ = [wr n, wi s, wi e, wi 0, wx] from rfl) ?_
  refine B_iloadn rfl my_13 rfl ?_
  refine B_istore rfl my_13 (by decide) rfl (show _ = [wr n, wi s, wi e, wi 0, wi s] from rfl) ?_
  exact l_number hE hN hK hlen (e - s).toNat 0 s ha1 (Nat.le_refl _)
theorem g_isWhole {E : mE} {σ : wSt} {n len : Nat} {s e : Int} (hE : wE E) (hN : Nm n len) (hK : ∀ i, kr σ n len i) (hlen : len < 2147483648) : Ev E 4 [wr n, wi s, wi e] σ (fun x => x = 0 ∨ x = 1) := by
  refine Fn.of (nL := 5) ?_
  show Bt E 4 0 [wr n, wi s, wi e, wx, wx] [] σ _
  refine B_rng 1 rfl (fun ha1 => ?_)
  refine B_rng 2 rfl (fun ha2 => ?_)
  refine B_aloadn rfl my_4 rfl ?_
  refine B_iloadn rfl my_4 rfl ?_
  refine B_iloadn rfl my_4 rfl ?_
  refine B_cS rfl cw_4_11_0 (as := [wr n, wi s, wi e]) (rest := []) rfl (Nat.le_of_ble_eq_true rfl) (g_behindMinus hE hN hK hlen) (fun vo s9 hq => ?_)
  obtain ⟨x1, rfl, h2, rfl⟩ := hq
  show Bt E 4 6 [wr n, wi s, wi e, wx, wx] [wi x1] σ _
  refine B_top (fun r3 => ?_)
  refine B_istoren rfl my_4 (by decide) rfl (show _ = [wr n, wi s, wi e, wi x1, wx] from rfl) ?_
  refine B_aloadn rfl my_4 rfl ?_
  refine B_iloadn rfl my_4 rfl ?_
  refine B_iloadn rfl my_4 rfl ?_
  refine B_cS rfl cw_4_12_0 (as := [wr n, wi x1, wi e]) (rest := []) rfl (Nat.le_of_ble_eq_true rfl) (g_digitsFrom hE hN hK hlen) (fun vo s9 hq => ?_)
  obtain ⟨x4, rfl, h5, rfl⟩ := hq
  show Bt E 4 13 [wr n, wi s, wi e, wi x1, wx] [wi x4] σ _
  refine B_top (fun r6 => ?_)
  refine B_istore rfl my_4 (by decide) rfl (show _ = [wr n, wi s, wi e, wi x1, wi x4] from rfl) ?_
  refine B_iload rfl my_4 rfl ?_
  refine B_iconst rfl my_4 (by decide) ?_
  refine B_ic_lt rfl my_4 rfl (tgt := 40) (nx := 21) rfl rfl (fun c7 => ?_) (fun c7 => ?_)
  · refine B_iconst rfl my_4 (by decide) ?_
    refine B_bret rfl my_4 rfl (by omega) ?_
    exact ⟨_, rfl, by omega, rfl⟩
  · refine B_iload rfl my_4 rfl ?_
    refine B_bipush rfl my_4 (n := 6) rfl ?_
    refine B_ic_gt rfl my_4 rfl (tgt := 40) (nx := 28) rfl rfl (fun c8 => ?_) (fun c8 => ?_)
    · refine B_iconst rfl my_4 (by decide) ?_
      refine B_bret rfl my_4 rfl (by omega) ?_
      exact ⟨_, rfl, by omega, rfl⟩
    · refine B_iloadn rfl my_4 rfl ?_
      refine B_iload rfl my_4 rfl ?_
      refine B_iaddW rfl my_4 ?_
      refine B_top (fun r9 => ?_)
      refine B_iloadn rfl my_4 rfl ?_
      refine B_ic_ne rfl my_4 rfl (tgt := 40) (nx := 36) rfl rfl (fun c10 => ?_) (fun c10 => ?_)
      · refine B_iconst rfl my_4 (by decide) ?_
        refine B_bret rfl my_4 rfl (by omega) ?_
        exact ⟨_, rfl, by omega, rfl⟩
      · refine B_iconst rfl my_4 (by decide) ?_
        refine B_goto rfl my_4 rfl (tgt := 41) rfl ?_
        refine B_bret rfl my_4 rfl (by omega) ?_
        exact ⟨_, rfl, by omega, rfl⟩
theorem g_isDecimal {E : mE} {σ : wSt} {n len : Nat} {s e : Int} (hE : wE E) (hN : Nm n len) (hK : ∀ i, kr σ n len i) (hlen : len < 2147483648) {k : Int} : Ev E 5 [wr n, wi s, wi e, wi k] σ (fun x => x = 0 ∨ x = 1) := by
  refine Fn.of (nL := 8) ?_
  show Bt E 5 0 [wr n, wi s, wi e, wi k, wx, wx, wx, wx] [] σ _
  refine B_rng 1 rfl (fun ha1 => ?_)
  refine B_rng 2 rfl (fun ha2 => ?_)
  refine B_rng 3 rfl (fun ha3 => ?_)
  refine B_aloadn rfl my_5 rfl ?_
  refine B_iloadn rfl my_5 rfl ?_
  refine B_iloadn rfl my_5 rfl ?_
  refine B_cS rfl cw_5_11_0 (as := [wr n, wi s, wi e]) (rest := []) rfl (Nat.le_of_ble_eq_true rfl) (g_behindMinus hE hN hK hlen) (fun vo s9 hq => ?_)
  obtain ⟨x1, rfl, h2, rfl⟩ := hq
  show Bt E 5 6 [wr n, wi s, wi e, wi k, wx, wx, wx, wx] [wi x1] σ _
  refine B_top (fun r3 => ?_)
  refine B_istore rfl my_5 (by decide) rfl (show _ = [wr n, wi s, wi e, wi k, wi x1, wx, wx, wx] from rfl) ?_
  refine B_aloadn rfl my_5 rfl ?_
  refine B_iload rfl my_5 rfl ?_
  refine B_iloadn rfl my_5 rfl ?_
  refine B_cS rfl cw_5_12_0 (as := [wr n, wi x1, wi e]) (rest := []) rfl (Nat.le_of_ble_eq_true rfl) (g_digitsFrom hE hN hK hlen) (fun vo s9 hq => ?_)
  obtain ⟨x4, rfl, h5, rfl⟩ := hq
  show Bt E 5 15 [wr n, wi s, wi e, wi k, wi x1, wx, wx, wx] [wi x4] σ _
  refine B_top (fun r6 => ?_)
  refine B_istore rfl my_5 (by decide) rfl (show _ = [wr n, wi s, wi e, wi k, wi x1, wi x4, wx, wx] from rfl) ?_
  refine B_iload rfl my_5 rfl ?_
  refine B_iload rfl my_5 rfl ?_
  refine B_iaddW rfl my_5 ?_
  refine B_top (fun r7 => ?_)
  refine B_istore rfl my_5 (by decide) rfl (show _ = [wr n, wi s, wi e, wi k, wi x1, wi x4, wi (w32 (x1 + x4)), wx] from rfl) ?_
  refine B_iload rfl my_5 rfl ?_
  refine B_iconst rfl my_5 (by decide) ?_
  refine B_ic_lt rfl my_5 rfl (tgt := 53) (nx := 30) rfl rfl (fun c8 => ?_) (fun c8 => ?_)
  · refine B_iconst rfl my_5 (by decide) ?_
    refine B_bret rfl my_5 rfl (by omega) ?_
    exact ⟨_, rfl, by omega, rfl⟩
  · refine B_iload rfl my_5 rfl ?_
    refine B_bipush rfl my_5 (n := 6) rfl ?_
    refine B_ic_gt rfl my_5 rfl (tgt := 53) (nx := 37) rfl rfl (fun c9 => ?_) (fun c9 => ?_)
    · refine B_iconst rfl my_5 (by decide) ?_
      refine B_bret rfl my_5 rfl (by omega) ?_
      exact ⟨_, rfl, by omega, rfl⟩
    · refine B_iload rfl my_5 rfl ?_
      refine B_iloadn rfl my_5 rfl ?_
      refine B_ic_ge rfl my_5 rfl (tgt := 53) (nx := 43) rfl rfl (fun c10 => ?_) (fun c10 => ?_)
      · refine B_iconst rfl my_5 (by decide) ?_
        refine B_bret rfl my_5 rfl (by omega) ?_
        exact ⟨_, rfl, by omega, rfl⟩
      · refine B_aloadn rfl my_5 rfl ?_
        refine B_iload rfl my_5 rfl ?_
        refine B_cV hE.1 rfl hN.1 cw_5_20 (as := [wi (w32 (x1 + x4))]) (rest := []) rfl (Nat.le_of_ble_eq_true rfl) (g_at hE hN hlen (hK _)) (fun vo s9 hq => ?_)
        obtain ⟨rfl, rfl⟩ := hq
        show Bt E 5 49 [wr n, wi s, wi e, wi k, wi x1, wi x4, wi (w32 (x1 + x4)), wx] [wi (rd σ n len (w32 (x1 + x4)))] σ _
        refine B_top (fun r11 => ?_)
        refine B_iloadn rfl my_5 rfl ?_
        refine B_ic_eq rfl my_5 rfl (tgt := 55) (nx := 53) rfl rfl (fun c12 => ?_) (fun c12 => ?_)
        · refine B_aloadn rfl my_5 rfl ?_
          refine B_iload rfl my_5 rfl ?_
          refine B_iconst rfl my_5 (by decide) ?_
          refine B_iadd rfl my_5 (by omega) (by omega) ?_
          refine B_iloadn rfl my_5 rfl ?_
          refine B_cS rfl cw_5_12_0 (as := [wr n, wi ((w32 (x1 + x4)) + 1), wi e]) (rest := []) rfl (Nat.le_of_ble_eq_true rfl) (g_digitsFrom hE hN hK hlen) (fun vo s9 hq => ?_)
          obtain ⟨x13, rfl, h14, rfl⟩ := hq
          show Bt E 5 64 [wr n, wi s, wi e, wi k, wi x1, wi x4, wi (w32 (x1 + x4)), wx] [wi x13] σ _
          refine B_top (fun r15 => ?_)
          refine B_istore rfl my_5 (by decide) rfl (show _ = [wr n, wi s, wi e, wi k, wi x1, wi x4, wi (w32 (x1 + x4)), wi x13] from rfl) ?_
          refine B_iload rfl my_5 rfl ?_
          refine B_iconst rfl my_5 (by decide) ?_
          refine B_ic_lt rfl my_5 rfl (tgt := 93) (nx := 72) rfl rfl (fun c16 => ?_) (fun c16 => ?_)
          · refine B_iconst rfl my_5 (by decide) ?_
            refine B_bret rfl my_5 rfl (by omega) ?_
            exact ⟨_, rfl, by omega, rfl⟩
          · refine B_iload rfl my_5 rfl ?_
            refine B_iconst rfl my_5 (by decide) ?_
            refine B_ic_gt rfl my_5 rfl (tgt := 93) (nx := 78) rfl rfl (fun c17 => ?_) (fun c17 => ?_)
            · refine B_iconst rfl my_5 (by decide) ?_
              refine B_bret rfl my_5 rfl (by omega) ?_
              exact ⟨_, rfl, by omega, rfl⟩
            · refine B_iload rfl my_5 rfl ?_
              refine B_iconst rfl my_5 (by decide) ?_
              refine B_iadd rfl my_5 (by omega) (by omega) ?_
              refine B_iload rfl my_5 rfl ?_
              refine B_iaddW rfl my_5 ?_
              refine B_top (fun r18 => ?_)
              refine B_iloadn rfl my_5 rfl ?_
              refine B_ic_ne rfl my_5 rfl (tgt := 93) (nx := 89) rfl rfl (fun c19 => ?_) (fun c19 => ?_)
              · refine B_iconst rfl my_5 (by decide) ?_
                refine B_bret rfl my_5 rfl (by omega) ?_
                exact ⟨_, rfl, by omega, rfl⟩
              · refine B_iconst rfl my_5 (by decide) ?_
                refine B_goto rfl my_5 rfl (tgt := 94) rfl ?_
                refine B_bret rfl my_5 rfl (by omega) ?_
                exact ⟨_, rfl, by omega, rfl⟩
        · refine B_iconst rfl my_5 (by decide) ?_
          refine B_bret rfl my_5 rfl (by omega) ?_
          exact ⟨_, rfl, by omega, rfl⟩
theorem g_isFlag {E : mE} {σ : wSt} {n len : Nat} {s e : Int} (hE : wE E) (hN : Nm n len) (hK : ∀ i, kr σ n len i) (hlen : len < 2147483648) : Ev E 6 [wr n, wi s, wi e] σ (fun x => x = 0 ∨ x = 1) := by
  refine Fn.of (nL := 3) ?_
  show Bt E 6 0 [wr n, wi s, wi e] [] σ _
  refine B_rng 1 rfl (fun ha1 => ?_)
  refine B_rng 2 rfl (fun ha2 => ?_)
  refine B_iloadn rfl my_6 rfl ?_
  refine B_iloadn rfl my_6 rfl ?_
  refine B_isubW rfl my_6 ?_
  refine B_top (fun r1 => ?_)
  refine B_iconst rfl my_6 (by decide) ?_
  refine B_ic_ne rfl my_6 rfl (tgt := 31) (nx := 7) rfl rfl (fun c2 => ?_) (fun c2 => ?_)
  · refine B_iconst rfl my_6 (by decide) ?_
    refine B_bret rfl my_6 rfl (by omega) ?_
    exact ⟨_, rfl, by omega, rfl⟩
  · refine B_aloadn rfl my_6 rfl ?_
    refine B_iloadn rfl my_6 rfl ?_
    refine B_cV hE.1 rfl hN.1 cw_6_20 (as := [wi s]) (rest := []) rfl (Nat.le_of_ble_eq_true rfl) (g_at hE hN hlen (hK _)) (fun vo s9 hq => ?_)
    obtain ⟨rfl, rfl⟩ := hq
    show Bt E 6 12 [wr n, wi s, wi e] [wi (rd σ n len s)] σ _
    refine B_top (fun r3 => ?_)
    refine B_bipush rfl my_6 (n := 44) rfl ?_
    refine B_ic_eq rfl my_6 rfl (tgt := 27) (nx := 17) rfl rfl (fun c4 => ?_) (fun c4 => ?_)
    · refine B_iconst rfl my_6 (by decide) ?_
      refine B_goto rfl my_6 rfl (tgt := 32) rfl ?_
      refine B_bret rfl my_6 rfl (by omega) ?_
      exact ⟨_, rfl, by omega, rfl⟩
    · refine B_aloadn rfl my_6 rfl ?_
      refine B_iloadn rfl my_6 rfl ?_
      refine B_cV hE.1 rfl hN.1 cw_6_20 (as := [wi s]) (rest := []) rfl (Nat.le_of_ble_eq_true rfl) (g_at hE hN hlen (hK _)) (fun vo s9 hq => ?_)
      obtain ⟨rfl, rfl⟩ := hq
      show Bt E 6 22 [wr n, wi s, wi e] [wi (rd σ n len s)] σ _
      refine B_top (fun r5 => ?_)
      refine B_bipush rfl my_6 (n := 33) rfl ?_
      refine B_ic_ne rfl my_6 rfl (tgt := 31) (nx := 27) rfl rfl (fun c6 => ?_) (fun c6 => ?_)
      · refine B_iconst rfl my_6 (by decide) ?_
        refine B_bret rfl my_6 rfl (by omega) ?_
        exact ⟨_, rfl, by omega, rfl⟩
      · refine B_iconst rfl my_6 (by decide) ?_
        refine B_goto rfl my_6 rfl (tgt := 32) rfl ?_
        refine B_bret rfl my_6 rfl (by omega) ?_
        exact ⟨_, rfl, by omega, rfl⟩
theorem g_wholeNumber {E : mE} {σ : wSt} {n len : Nat} {s e : Int} (hE : wE E) (hN : Nm n len) (hK : ∀ i, kr σ n len i) (hlen : len < 2147483648) : Ev E 7 [wr n, wi s, wi e] σ (fun x => True) := by
  refine Fn.of (nL := 4) ?_
  show Bt E 7 0 [wr n, wi s, wi e, wx] [] σ _
  refine B_rng 1 rfl (fun ha1 => ?_)
  refine B_rng 2 rfl (fun ha2 => ?_)
  refine B_aloadn rfl my_7 rfl ?_
  refine B_aloadn rfl my_7 rfl ?_
  refine B_iloadn rfl my_7 rfl ?_
  refine B_iloadn rfl my_7 rfl ?_
  refine B_cS rfl cw_7_11_0 (as := [wr n, wi s, wi e]) (rest := [wr n]) rfl (Nat.le_of_ble_eq_true rfl) (g_behindMinus hE hN hK hlen) (fun vo s9 hq => ?_)
  obtain ⟨x1, rfl, h2, rfl⟩ := hq
  show Bt E 7 7 [wr n, wi s, wi e, wx] [wi x1, wr n] σ _
  refine B_top (fun r3 => ?_)
  refine B_iloadn rfl my_7 rfl ?_
  refine B_cS rfl cw_7_13_0 (as := [wr n, wi x1, wi e]) (rest := []) rfl (Nat.le_of_ble_eq_true rfl) (g_number hE hN hK hlen) (fun vo s9 hq => ?_)
  obtain ⟨x4, rfl, h5, rfl⟩ := hq
  show Bt E 7 11 [wr n, wi s, wi e, wx] [wi x4] σ _
  refine B_top (fun r6 => ?_)
  refine B_istoren rfl my_7 (by decide) rfl (show _ = [wr n, wi s, wi e, wi x4] from rfl) ?_
  refine B_aloadn rfl my_7 rfl ?_
  refine B_iloadn rfl my_7 rfl ?_
  refine B_cV hE.1 rfl hN.1 cw_7_20 (as := [wi s]) (rest := []) rfl (Nat.le_of_ble_eq_true rfl) (g_at hE hN hlen (hK _)) (fun vo s9 hq => ?_)
  obtain ⟨rfl, rfl⟩ := hq
  show Bt E 7 17 [wr n, wi s, wi e, wi x4] [wi (rd σ n len s)] σ _
  refine B_top (fun r7 => ?_)
  refine B_bipush rfl my_7 (n := 8) rfl ?_
  refine B_ic_ne rfl my_7 rfl (tgt := 27) (nx := 22) rfl rfl (fun c8 => ?_) (fun c8 => ?_)
  · refine B_iloadn rfl my_7 rfl ?_
    refine B_iret rfl my_7 rfl ?_
    exact ⟨_, rfl, trivial, rfl⟩
  · refine B_iloadn rfl my_7 rfl ?_
    refine B_inegW rfl my_7 ?_
    refine B_top (fun r9 => ?_)
    refine B_goto rfl my_7 rfl (tgt := 28) rfl ?_
    refine B_iret rfl my_7 rfl ?_
    exact ⟨_, rfl, trivial, rfl⟩
theorem l_thousandths {E : mE} {σ : wSt} {n len : Nat} {s e : Int} (hE : wE E) (hN : Nm n len) (hK : ∀ i, kr σ n len i) (hlen : len < 2147483648) {f q : Int} : ∀ (k : Nat) (a u p : Int), 0 ≤ u → wI p → (e - p).toNat ≤ k → Bt E 8 40 [wr n, wi s, wi e, wi f, wi q, wi a, wi u, wi p] [] σ (fun vo t => ∃ x, vo = some (wi x) ∧ True ∧ σ = t) := by
  intro k
  induction k with
  | zero =>
    intro a u p h1 h2 hm
    refine B_rng 2 rfl (fun he => ?_)
    refine B_rng 6 rfl (fun hu => ?_)
    refine B_iload rfl my_8 rfl ?_
    refine B_iloadn rfl my_8 rfl ?_
    refine B_ic_ge rfl my_8 rfl (tgt := 76) (nx := 46) rfl rfl (fun c1 => ?_) (fun c1 => ?_)
    · refine B_aloadn rfl my_8 rfl ?_
      refine B_iloadn rfl my_8 rfl ?_
      refine B_cV hE.1 rfl hN.1 cw_8_20 (as := [wi s]) (rest := []) rfl (Nat.le_of_ble_eq_true rfl) (g_at hE hN hlen (hK _)) (fun vo s9 hq => ?_)
      obtain ⟨rfl, rfl⟩ := hq
      show Bt E 8 81 [wr n, wi s, wi e, wi f, wi q, wi a, wi u, wi p] [wi (rd σ n len s)] σ _
      refine B_top (fun r2 => ?_)
      refine B_bipush rfl my_8 (n := 8) rfl ?_
      refine B_ic_ne rfl my_8 rfl (tgt := 92) (nx := 86) rfl rfl (fun c3 => ?_) (fun c3 => ?_)
      · refine B_iload rfl my_8 rfl ?_
        refine B_iret rfl my_8 rfl ?_
        exact ⟨_, rfl, trivial, rfl⟩
      · refine B_iload rfl my_8 rfl ?_
        refine B_inegW rfl my_8 ?_
        refine B_top (fun r4 => ?_)
        refine B_goto rfl my_8 rfl (tgt := 94) rfl ?_
        refine B_iret rfl my_8 rfl ?_
        exact ⟨_, rfl, trivial, rfl⟩
    · exact absurd c1 (by omega)
  | succ k ih =>
    intro a u p h1 h2 hm
    refine B_rng 2 rfl (fun he => ?_)
    refine B_rng 6 rfl (fun hu => ?_)
    refine B_iload rfl my_8 rfl ?_
    refine B_iloadn rfl my_8 rfl ?_
    refine B_ic_ge rfl my_8 rfl (tgt := 76) (nx := 46) rfl rfl (fun c1 => ?_) (fun c1 => ?_)
    · refine B_aloadn rfl my_8 rfl ?_
      refine B_iloadn rfl my_8 rfl ?_
      refine B_cV hE.1 rfl hN.1 cw_8_20 (as := [wi s]) (rest := []) rfl (Nat.le_of_ble_eq_true rfl) (g_at hE hN hlen (hK _)) (fun vo s9 hq => ?_)
      obtain ⟨rfl, rfl⟩ := hq
      show Bt E 8 81 [wr n, wi s, wi e, wi f, wi q, wi a, wi u, wi p] [wi (rd σ n len s)] σ _
      refine B_top (fun r2 => ?_)
      refine B_bipush rfl my_8 (n := 8) rfl ?_
      refine B_ic_ne rfl my_8 rfl (tgt := 92) (nx := 86) rfl rfl (fun c3 => ?_) (fun c3 => ?_)
      · refine B_iload rfl my_8 rfl ?_
        refine B_iret rfl my_8 rfl ?_
        exact ⟨_, rfl, trivial, rfl⟩
      · refine B_iload rfl my_8 rfl ?_
        refine B_inegW rfl my_8 ?_
        refine B_top (fun r4 => ?_)
        refine B_goto rfl my_8 rfl (tgt := 94) rfl ?_
        refine B_iret rfl my_8 rfl ?_
        exact ⟨_, rfl, trivial, rfl⟩
    · refine B_iload rfl my_8 rfl ?_
      refine B_aloadn rfl my_8 rfl ?_
      refine B_iload rfl my_8 rfl ?_
      refine B_cV hE.1 rfl hN.1 cw_8_20 (as := [wi p]) (rest := [wi a]) rfl (Nat.le_of_ble_eq_true rfl) (g_at hE hN hlen (hK _)) (fun vo s9 hq => ?_)
      obtain ⟨rfl, rfl⟩ := hq
      show Bt E 8 54 [wr n, wi s, wi e, wi f, wi q, wi a, wi u, wi p] [wi (rd σ n len p), wi a] σ _
      refine B_top (fun r5 => ?_)
      refine B_bipush rfl my_8 (n := 10) rfl ?_
      refine B_isubW rfl my_8 ?_
      refine B_top (fun r6 => ?_)
      refine B_iload rfl my_8 rfl ?_
      refine B_imulW rfl my_8 ?_
      refine B_top (fun r7 => ?_)
      refine B_iaddW rfl my_8 ?_
      refine B_top (fun r8 => ?_)
      refine B_istore rfl my_8 (by decide) rfl (show _ = [wr n, wi s, wi e, wi f, wi q, wi (w32 (a + (w32 ((w32 ((rd σ n len p) - 10)) * u)))), wi u, wi p] from rfl) ?_
      refine B_iload rfl my_8 rfl ?_
      refine B_bipush rfl my_8 (n := 10) rfl ?_
      refine B_idiv rfl my_8 h1 (by decide) ?_
      refine B_istore rfl my_8 (by decide) rfl (show _ = [wr n, wi s, wi e, wi f, wi q, wi (w32 (a + (w32 ((w32 ((rd σ n len p) - 10)) * u)))), wi (u / 10), wi p] from rfl) ?_
      refine B_iinc rfl my_8 (by decide) rfl rfl rfl (by omega) (by omega) (show _ = [wr n, wi s, wi e, wi f, wi q, wi (w32 (a + (w32 ((w32 ((rd σ n len p) - 10)) * u)))), wi (u / 10), wi (p + 1)] from rfl) ?_
      refine B_goto rfl my_8 rfl (tgt := 40) rfl ?_
      refine ih _ _ _ ?_ ?_ ?_
      · exact Int.ediv_nonneg h1 (by decide)
      · omega
      · omega
theorem g_thousandths {E : mE} {σ : wSt} {n len : Nat} {s e : Int} (hE : wE E) (hN : Nm n len) (hK : ∀ i, kr σ n len i) (hlen : len < 2147483648) : Ev E 8 [wr n, wi s, wi e] σ (fun x => True) := by
  refine Fn.of (nL := 8) ?_
  show Bt E 8 0 [wr n, wi s, wi e, wx, wx, wx, wx, wx] [] σ _
  refine B_rng 1 rfl (fun ha1 => ?_)
  refine B_rng 2 rfl (fun ha2 => ?_)
  refine B_aloadn rfl my_8 rfl ?_
  refine B_iloadn rfl my_8 rfl ?_
  refine B_iloadn rfl my_8 rfl ?_
  refine B_cS rfl cw_8_11_0 (as := [wr n, wi s, wi e]) (rest := []) rfl (Nat.le_of_ble_eq_true rfl) (g_behindMinus hE hN hK hlen) (fun vo s9 hq => ?_)
  obtain ⟨x1, rfl, h2, rfl⟩ := hq
  show Bt E 8 6 [wr n, wi s, wi e, wx, wx, wx, wx, wx] [wi x1] σ _
  refine B_top (fun r3 => ?_)
  refine B_istoren rfl my_8 (by decide) rfl (show _ = [wr n, wi s, wi e, wi x1, wx, wx, wx, wx] from rfl) ?_
  refine B_iloadn rfl my_8 rfl ?_
  refine B_aloadn rfl my_8 rfl ?_
  refine B_iloadn rfl my_8 rfl ?_
  refine B_iloadn rfl my_8 rfl ?_
  refine B_cS rfl cw_8_12_0 (as := [wr n, wi x1, wi e]) (rest := [wi x1]) rfl (Nat.le_of_ble_eq_true rfl) (g_digitsFrom hE hN hK hlen) (fun vo s9 hq => ?_)
  obtain ⟨x4, rfl, h5, rfl⟩ := hq
  show Bt E 8 14 [wr n, wi s, wi e, wi x1, wx, wx, wx, wx] [wi x4, wi x1] σ _
  refine B_top (fun r6 => ?_)
  refine B_iaddW rfl my_8 ?_
  refine B_top (fun r7 => ?_)
  refine B_istore rfl my_8 (by decide) rfl (show _ = [wr n, wi s, wi e, wi x1, wi (w32 (x1 + x4)), wx, wx, wx] from rfl) ?_
  refine B_aloadn rfl my_8 rfl ?_
  refine B_iloadn rfl my_8 rfl ?_
  refine B_iload rfl my_8 rfl ?_
  refine B_cS rfl cw_8_13_0 (as := [wr n, wi x1, wi (w32 (x1 + x4))]) (rest := []) rfl (Nat.le_of_ble_eq_true rfl) (g_number hE hN hK hlen) (fun vo s9 hq => ?_)
  obtain ⟨x8, rfl, h9, rfl⟩ := hq
  show Bt E 8 24 [wr n, wi s, wi e, wi x1, wi (w32 (x1 + x4)), wx, wx, wx] [wi x8] σ _
  refine B_top (fun r10 => ?_)
  refine B_sipush rfl my_8 (n := 1000) rfl ?_
  refine B_imulW rfl my_8 ?_
  refine B_top (fun r11 => ?_)
  refine B_istore rfl my_8 (by decide) rfl (show _ = [wr n, wi s, wi e, wi x1, wi (w32 (x1 + x4)), wi (w32 (x8 * 1000)), wx, wx] from rfl) ?_
  refine B_bipush rfl my_8 (n := 100) rfl ?_
  refine B_istore rfl my_8 (by decide) rfl (show _ = [wr n, wi s, wi e, wi x1, wi (w32 (x1 + x4)), wi (w32 (x8 * 1000)), wi 100, wx] from rfl) ?_
  refine B_iload rfl my_8 rfl ?_
  refine B_iconst rfl my_8 (by decide) ?_
  refine B_iaddW rfl my_8 ?_
  refine B_top (fun r12 => ?_)
  refine B_istore rfl my_8 (by decide) rfl (show _ = [wr n, wi s, wi e, wi x1, wi (w32 (x1 + x4)), wi (w32 (x8 * 1000)), wi 100, wi (w32 ((w32 (x1 + x4)) + 1))] from rfl) ?_
  refine B_rng 7 rfl (fun hp => ?_)
  exact l_thousandths hE hN hK hlen _ _ _ _ (by omega) hp (Nat.le_refl _)
theorem g_leapYearsTo {E : mE} {σ : wSt} {y : Int} (hE : wE E) (hy : 0 ≤ y) : Ev E 17 [wi y] σ (fun x => True) := by
  refine Fn.of (nL := 1) ?_
  show Bt E 17 0 [wi y] [] σ _
  refine B_rng 0 rfl (fun hr0 => ?_)
  refine B_iloadn rfl my_17 rfl ?_
  refine B_iconst rfl my_17 (by decide) ?_
  refine B_idiv rfl my_17 hy (by decide) ?_
  refine B_iloadn rfl my_17 rfl ?_
  refine B_bipush rfl my_17 (n := 100) rfl ?_
  refine B_idiv rfl my_17 hy (by decide) ?_
  refine B_isubW rfl my_17 ?_
  refine B_top (fun r1 => ?_)
  refine B_iloadn rfl my_17 rfl ?_
  refine B_sipush rfl my_17 (n := 400) rfl ?_
  refine B_idiv rfl my_17 hy (by decide) ?_
  refine B_iaddW rfl my_17 ?_
  refine B_top (fun r2 => ?_)
  refine B_iret rfl my_17 rfl ?_
  exact ⟨_, rfl, trivial, rfl⟩
theorem g_isLeap {E : mE} {σ : wSt} {y : Int} (hE : wE E) (hy : 0 ≤ y) : Ev E 18 [wi y] σ (fun x => x = 0 ∨ x = 1) := by
  refine Fn.of (nL := 1) ?_
  show Bt E 18 0 [wi y] [] σ _
  refine B_rng 0 rfl (fun hr0 => ?_)
  refine B_iloadn rfl my_18 rfl ?_
  refine B_iconst rfl my_18 (by decide) ?_
  refine B_irem rfl my_18 hy (by decide) ?_
  refine B_if_ne rfl my_18 rfl (tgt := 25) (nx := 6) rfl rfl (fun c1 => ?_) (fun c1 => ?_)
  · refine B_iconst rfl my_18 (by decide) ?_
    refine B_bret rfl my_18 rfl (by omega) ?_
    exact ⟨_, rfl, by omega, rfl⟩
  · refine B_iloadn rfl my_18 rfl ?_
    refine B_bipush rfl my_18 (n := 100) rfl ?_
    refine B_irem rfl my_18 hy (by decide) ?_
    refine B_if_ne rfl my_18 rfl (tgt := 21) (nx := 13) rfl rfl (fun c2 => ?_) (fun c2 => ?_)
    · refine B_iconst rfl my_18 (by decide) ?_
      refine B_goto rfl my_18 rfl (tgt := 26) rfl ?_
      refine B_bret rfl my_18 rfl (by omega) ?_
      exact ⟨_, rfl, by omega, rfl⟩
    · refine B_iloadn rfl my_18 rfl ?_
      refine B_sipush rfl my_18 (n := 400) rfl ?_
      refine B_irem rfl my_18 hy (by decide) ?_
      refine B_if_ne rfl my_18 rfl (tgt := 25) (nx := 21) rfl rfl (fun c3 => ?_) (fun c3 => ?_)
      · refine B_iconst rfl my_18 (by decide) ?_
        refine B_bret rfl my_18 rfl (by omega) ?_
        exact ⟨_, rfl, by omega, rfl⟩
      · refine B_iconst rfl my_18 (by decide) ?_
        refine B_goto rfl my_18 rfl (tgt := 26) rfl ?_
        refine B_bret rfl my_18 rfl (by omega) ?_
        exact ⟨_, rfl, by omega, rfl⟩
theorem g_daysIn {E : mE} {σ : wSt} {d y : Int} (hE : wE E) (hy : 0 ≤ y) : Ev E 14 [wi d, wi y] σ (fun x => True) := by
  refine Fn.of (nL := 3) ?_
  show Bt E 14 0 [wi d, wi y, wx] [] σ _
  refine B_rng 0 rfl (fun hr0 => ?_)
  refine B_rng 1 rfl (fun hr1 => ?_)
  refine B_iloadn rfl my_14 rfl ?_
  refine B_iconst rfl my_14 (by decide) ?_
  refine B_ic_lt rfl my_14 rfl (tgt := 13) (nx := 5) rfl rfl (fun c1 => ?_) (fun c1 => ?_)
  · refine B_iconst rfl my_14 (by decide) ?_
    refine B_iret rfl my_14 rfl ?_
    exact ⟨_, rfl, trivial, rfl⟩
  · refine B_iloadn rfl my_14 rfl ?_
    refine B_static0 (n := 0) (r := 1) rfl my_14 rfl rfl ?_
    refine B_dlen hE rfl my_14 ?_
    refine B_ic_lt rfl my_14 rfl (tgt := 15) (nx := 13) rfl rfl (fun c2 => ?_) (fun c2 => ?_)
    · refine B_static0 (n := 0) (r := 1) rfl my_14 rfl rfl ?_
      refine B_iloadn rfl my_14 rfl ?_
      refine B_days hE rfl my_14 (by omega) (by omega) ?_
      refine B_top (fun r3 => ?_)
      refine B_static0 (n := 0) (r := 1) rfl my_14 rfl rfl ?_
      refine B_iloadn rfl my_14 rfl ?_
      refine B_iconst rfl my_14 (by decide) ?_
      refine B_isub rfl my_14 (by omega) (by omega) ?_
      refine B_days hE rfl my_14 (by omega) (by omega) ?_
      refine B_top (fun r4 => ?_)
      refine B_isubW rfl my_14 ?_
      refine B_top (fun r5 => ?_)
      refine B_istoren rfl my_14 (by decide) rfl (show _ = [wi d, wi y, wi (w32 ((wD E (d).toNat) - (wD E (d - 1).toNat)))] from rfl) ?_
      refine B_iloadn rfl my_14 rfl ?_
      refine B_iconst rfl my_14 (by decide) ?_
      refine B_ic_ne rfl my_14 rfl (tgt := 47) (nx := 34) rfl rfl (fun c6 => ?_) (fun c6 => ?_)
      · refine B_iloadn rfl my_14 rfl ?_
        refine B_iret rfl my_14 rfl ?_
        exact ⟨_, rfl, trivial, rfl⟩
      · refine B_iloadn rfl my_14 rfl ?_
        refine B_cS rfl cw_14_18_0 (as := [wi y]) (rest := []) rfl (Nat.le_of_ble_eq_true rfl) (g_isLeap hE (by omega)) (fun vo s9 hq => ?_)
        obtain ⟨x7, rfl, h8, rfl⟩ := hq
        show Bt E 14 38 [wi d, wi y, wi (w32 ((wD E (d).toNat) - (wD E (d - 1).toNat)))] [wi x7] σ _
        refine B_top (fun r9 => ?_)
        refine B_if_eq rfl my_14 rfl (tgt := 47) (nx := 41) rfl rfl (fun c10 => ?_) (fun c10 => ?_)
        · refine B_iloadn rfl my_14 rfl ?_
          refine B_iret rfl my_14 rfl ?_
          exact ⟨_, rfl, trivial, rfl⟩
        · refine B_iloadn rfl my_14 rfl ?_
          refine B_iconst rfl my_14 (by decide) ?_
          refine B_iaddW rfl my_14 ?_
          refine B_top (fun r11 => ?_)
          refine B_goto rfl my_14 rfl (tgt := 48) rfl ?_
          refine B_iret rfl my_14 rfl ?_
          exact ⟨_, rfl, trivial, rfl⟩
    · refine B_iconst rfl my_14 (by decide) ?_
      refine B_iret rfl my_14 rfl ?_
      exact ⟨_, rfl, trivial, rfl⟩
theorem g_daysAheadOfMonth {E : mE} {σ : wSt} {d y : Int} (hE : wE E) (hy : 0 ≤ y) : Ev E 15 [wi d, wi y] σ (fun x => True) := by
  refine Fn.of (nL := 3) ?_
  show Bt E 15 0 [wi d, wi y, wx] [] σ _
  refine B_rng 0 rfl (fun hr0 => ?_)
  refine B_rng 1 rfl (fun hr1 => ?_)
  refine B_iloadn rfl my_15 rfl ?_
  refine B_iconst rfl my_15 (by decide) ?_
  refine B_ic_lt rfl my_15 rfl (tgt := 13) (nx := 5) rfl rfl (fun c1 => ?_) (fun c1 => ?_)
  · refine B_iconst rfl my_15 (by decide) ?_
    refine B_iret rfl my_15 rfl ?_
    exact ⟨_, rfl, trivial, rfl⟩
  · refine B_iloadn rfl my_15 rfl ?_
    refine B_static0 (n := 0) (r := 1) rfl my_15 rfl rfl ?_
    refine B_dlen hE rfl my_15 ?_
    refine B_ic_lt rfl my_15 rfl (tgt := 15) (nx := 13) rfl rfl (fun c2 => ?_) (fun c2 => ?_)
    · refine B_static0 (n := 0) (r := 1) rfl my_15 rfl rfl ?_
      refine B_iloadn rfl my_15 rfl ?_
      refine B_iconst rfl my_15 (by decide) ?_
      refine B_isub rfl my_15 (by omega) (by omega) ?_
      refine B_days hE rfl my_15 (by omega) (by omega) ?_
      refine B_top (fun r3 => ?_)
      refine B_istoren rfl my_15 (by decide) rfl (show _ = [wi d, wi y, wi (wD E (d - 1).toNat)] from rfl) ?_
      refine B_iloadn rfl my_15 rfl ?_
      refine B_iconst rfl my_15 (by decide) ?_
      refine B_ic_le rfl my_15 rfl (tgt := 41) (nx := 28) rfl rfl (fun c4 => ?_) (fun c4 => ?_)
      · refine B_iloadn rfl my_15 rfl ?_
        refine B_iret rfl my_15 rfl ?_
        exact ⟨_, rfl, trivial, rfl⟩
      · refine B_iloadn rfl my_15 rfl ?_
        refine B_cS rfl cw_15_18_0 (as := [wi y]) (rest := []) rfl (Nat.le_of_ble_eq_true rfl) (g_isLeap hE (by omega)) (fun vo s9 hq => ?_)
        obtain ⟨x5, rfl, h6, rfl⟩ := hq
        show Bt E 15 32 [wi d, wi y, wi (wD E (d - 1).toNat)] [wi x5] σ _
        refine B_top (fun r7 => ?_)
        refine B_if_eq rfl my_15 rfl (tgt := 41) (nx := 35) rfl rfl (fun c8 => ?_) (fun c8 => ?_)
        · refine B_iloadn rfl my_15 rfl ?_
          refine B_iret rfl my_15 rfl ?_
          exact ⟨_, rfl, trivial, rfl⟩
        · refine B_iloadn rfl my_15 rfl ?_
          refine B_iconst rfl my_15 (by decide) ?_
          refine B_iaddW rfl my_15 ?_
          refine B_top (fun r9 => ?_)
          refine B_goto rfl my_15 rfl (tgt := 42) rfl ?_
          refine B_iret rfl my_15 rfl ?_
          exact ⟨_, rfl, trivial, rfl⟩
    · refine B_iconst rfl my_15 (by decide) ?_
      refine B_iret rfl my_15 rfl ?_
      exact ⟨_, rfl, trivial, rfl⟩
theorem g_daysAheadOfYear {E : mE} {σ : wSt} {y : Int} (hE : wE E) (hy : 1 ≤ y) : Ev E 16 [wi y] σ (fun x => True) := by
  refine Fn.of (nL := 1) ?_
  show Bt E 16 0 [wi y] [] σ _
  refine B_rng 0 rfl (fun hr0 => ?_)
  refine B_sipush rfl my_16 (n := 365) rfl ?_
  refine B_iloadn rfl my_16 rfl ?_
  refine B_sipush rfl my_16 (n := 1900) rfl ?_
  refine B_isub rfl my_16 (by omega) (by omega) ?_
  refine B_imulW rfl my_16 ?_
  refine B_top (fun r1 => ?_)
  refine B_iloadn rfl my_16 rfl ?_
  refine B_iconst rfl my_16 (by decide) ?_
  refine B_isub rfl my_16 (by omega) (by omega) ?_
  refine B_cS rfl cw_16_17_0 (as := [wi (y - 1)]) (rest := [wi (w32 (365 * (y - 1900)))]) rfl (Nat.le_of_ble_eq_true rfl) (g_leapYearsTo hE (by omega)) (fun vo s9 hq => ?_)
  obtain ⟨x2, rfl, h3, rfl⟩ := hq
  show Bt E 16 15 [wi y] [wi x2, wi (w32 (365 * (y - 1900)))] σ _
  refine B_top (fun r4 => ?_)
  refine B_iaddW rfl my_16 ?_
  refine B_top (fun r5 => ?_)
  refine B_sipush rfl my_16 (n := 1899) rfl ?_
  refine B_cS rfl cw_16_17_0 (as := [wi 1899]) (rest := [wi (w32 ((w32 (365 * (y - 1900))) + x2))]) rfl (Nat.le_of_ble_eq_true rfl) (g_leapYearsTo hE (by omega)) (fun vo s9 hq => ?_)
  obtain ⟨x6, rfl, h7, rfl⟩ := hq
  show Bt E 16 22 [wi y] [wi x6, wi (w32 ((w32 (365 * (y - 1900))) + x2))] σ _
  refine B_top (fun r8 => ?_)
  refine B_isubW rfl my_16 ?_
  refine B_top (fun r9 => ?_)
  refine B_iret rfl my_16 rfl ?_
  exact ⟨_, rfl, trivial, rfl⟩
theorem t_dayNumber {E : mE} {σ : wSt} {n len : Nat} {s e : Int} (hE : wE E) (hN : Nm n len) (hK : ∀ i, kr σ n len i) (hlen : len < 2147483648) {d f g x : Int} : Bt E 9 103 [wr n, wi s, wi e, wi d, wi f, wi g, wx, wx, wx, wx] [wi x] σ (fun vo t => ∃ x, vo = some (wi x) ∧ True ∧ σ = t) := by
  refine B_istore rfl my_9 (by decide) rfl (show _ = [wr n, wi s, wi e, wi d, wi f, wi g, wi x, wx, wx, wx] from rfl) ?_
  refine B_iload rfl my_9 rfl ?_
  refine B_if_ne rfl my_9 rfl (tgt := 112) (nx := 110) rfl rfl (fun c1 => ?_) (fun c1 => ?_)
  · refine B_aloadn rfl my_9 rfl ?_
    refine B_iloadn rfl my_9 rfl ?_
    refine B_iloadn rfl my_9 rfl ?_
    refine B_cS rfl cw_9_13_0 (as := [wr n, wi s, wi d]) (rest := []) rfl (Nat.le_of_ble_eq_true rfl) (g_number hE hN hK hlen) (fun vo s9 hq => ?_)
    obtain ⟨x2, rfl, h3, rfl⟩ := hq
    show Bt E 9 118 [wr n, wi s, wi e, wi d, wi f, wi g, wi x, wx, wx, wx] [wi x2] σ _
    refine B_top (fun r4 => ?_)
    refine B_istore rfl my_9 (by decide) rfl (show _ = [wr n, wi s, wi e, wi d, wi f, wi g, wi x, wi x2, wx, wx] from rfl) ?_
    refine B_aloadn rfl my_9 rfl ?_
    refine B_iloadn rfl my_9 rfl ?_
    refine B_iconst rfl my_9 (by decide) ?_
    refine B_iaddW rfl my_9 ?_
    refine B_top (fun r5 => ?_)
    refine B_iload rfl my_9 rfl ?_
    refine B_cS rfl cw_9_13_0 (as := [wr n, wi (w32 (d + 1)), wi f]) (rest := []) rfl (Nat.le_of_ble_eq_true rfl) (g_number hE hN hK hlen) (fun vo s9 hq => ?_)
    obtain ⟨x6, rfl, h7, rfl⟩ := hq
    show Bt E 9 129 [wr n, wi s, wi e, wi d, wi f, wi g, wi x, wi x2, wx, wx] [wi x6] σ _
    refine B_top (fun r8 => ?_)
    refine B_istore rfl my_9 (by decide) rfl (show _ = [wr n, wi s, wi e, wi d, wi f, wi g, wi x, wi x2, wi x6, wx] from rfl) ?_
    refine B_aloadn rfl my_9 rfl ?_
    refine B_iload rfl my_9 rfl ?_
    refine B_iconst rfl my_9 (by decide) ?_
    refine B_iaddW rfl my_9 ?_
    refine B_top (fun r9 => ?_)
    refine B_iload rfl my_9 rfl ?_
    refine B_cS rfl cw_9_13_0 (as := [wr n, wi (w32 (f + 1)), wi g]) (rest := []) rfl (Nat.le_of_ble_eq_true rfl) (g_number hE hN hK hlen) (fun vo s9 hq => ?_)
    obtain ⟨x10, rfl, h11, rfl⟩ := hq
    show Bt E 9 141 [wr n, wi s, wi e, wi d, wi f, wi g, wi x, wi x2, wi x6, wx] [wi x10] σ _
    refine B_top (fun r12 => ?_)
    refine B_istore rfl my_9 (by decide) rfl (show _ = [wr n, wi s, wi e, wi d, wi f, wi g, wi x, wi x2, wi x6, wi x10] from rfl) ?_
    refine B_iload rfl my_9 rfl ?_
    refine B_sipush rfl my_9 (n := 1900) rfl ?_
    refine B_ic_lt rfl my_9 rfl (tgt := 177) (nx := 151) rfl rfl (fun c13 => ?_) (fun c13 => ?_)
    · refine B_iconst rfl my_9 (by decide) ?_
      refine B_iret rfl my_9 rfl ?_
      exact ⟨_, rfl, trivial, rfl⟩
    · refine B_iload rfl my_9 rfl ?_
      refine B_sipush rfl my_9 (n := 2099) rfl ?_
      refine B_ic_gt rfl my_9 rfl (tgt := 177) (nx := 159) rfl rfl (fun c14 => ?_) (fun c14 => ?_)
      · refine B_iconst rfl my_9 (by decide) ?_
        refine B_iret rfl my_9 rfl ?_
        exact ⟨_, rfl, trivial, rfl⟩
      · refine B_iload rfl my_9 rfl ?_
        refine B_iconst rfl my_9 (by decide) ?_
        refine B_ic_lt rfl my_9 rfl (tgt := 177) (nx := 165) rfl rfl (fun c15 => ?_) (fun c15 => ?_)
        · refine B_iconst rfl my_9 (by decide) ?_
          refine B_iret rfl my_9 rfl ?_
          exact ⟨_, rfl, trivial, rfl⟩
        · refine B_iload rfl my_9 rfl ?_
          refine B_iload rfl my_9 rfl ?_
          refine B_iload rfl my_9 rfl ?_
          refine B_cS rfl cw_9_14_0 (as := [wi x6, wi x10]) (rest := [wi x2]) rfl (Nat.le_of_ble_eq_true rfl) (g_daysIn hE (by omega)) (fun vo s9 hq => ?_)
          obtain ⟨x16, rfl, h17, rfl⟩ := hq
          show Bt E 9 174 [wr n, wi s, wi e, wi d, wi f, wi g, wi x, wi x2, wi x6, wi x10] [wi x16, wi x2] σ _
          refine B_top (fun r18 => ?_)
          refine B_ic_le rfl my_9 rfl (tgt := 179) (nx := 177) rfl rfl (fun c19 => ?_) (fun c19 => ?_)
          · refine B_iload rfl my_9 rfl ?_
            refine B_cS rfl cw_9_16_0 (as := [wi x10]) (rest := []) rfl (Nat.le_of_ble_eq_true rfl) (g_daysAheadOfYear hE (by omega)) (fun vo s9 hq => ?_)
            obtain ⟨x20, rfl, h21, rfl⟩ := hq
            show Bt E 9 184 [wr n, wi s, wi e, wi d, wi f, wi g, wi x, wi x2, wi x6, wi x10] [wi x20] σ _
            refine B_top (fun r22 => ?_)
            refine B_iload rfl my_9 rfl ?_
            refine B_iload rfl my_9 rfl ?_
            refine B_cS rfl cw_9_15_0 (as := [wi x6, wi x10]) (rest := [wi x20]) rfl (Nat.le_of_ble_eq_true rfl) (g_daysAheadOfMonth hE (by omega)) (fun vo s9 hq => ?_)
            obtain ⟨x23, rfl, h24, rfl⟩ := hq
            show Bt E 9 191 [wr n, wi s, wi e, wi d, wi f, wi g, wi x, wi x2, wi x6, wi x10] [wi x23, wi x20] σ _
            refine B_top (fun r25 => ?_)
            refine B_iaddW rfl my_9 ?_
            refine B_top (fun r26 => ?_)
            refine B_iload rfl my_9 rfl ?_
            refine B_iaddW rfl my_9 ?_
            refine B_top (fun r27 => ?_)
            refine B_iconst rfl my_9 (by decide) ?_
            refine B_isubW rfl my_9 ?_
            refine B_top (fun r28 => ?_)
            refine B_iret rfl my_9 rfl ?_
            exact ⟨_, rfl, trivial, rfl⟩
          · refine B_iconst rfl my_9 (by decide) ?_
            refine B_iret rfl my_9 rfl ?_
            exact ⟨_, rfl, trivial, rfl⟩
  · refine B_iconst rfl my_9 (by decide) ?_
    refine B_iret rfl my_9 rfl ?_
    exact ⟨_, rfl, trivial, rfl⟩
theorem g_dayNumber {E : mE} {σ : wSt} {n len : Nat} {s e : Int} (hE : wE E) (hN : Nm n len) (hK : ∀ i, kr σ n len i) (hlen : len < 2147483648) : Ev E 9 [wr n, wi s, wi e] σ (fun x => True) := by
  refine Fn.of (nL := 10) ?_
  show Bt E 9 0 [wr n, wi s, wi e, wx, wx, wx, wx, wx, wx, wx] [] σ _
  refine B_rng 1 rfl (fun ha1 => ?_)
  refine B_rng 2 rfl (fun ha2 => ?_)
  refine B_iloadn rfl my_9 rfl ?_
  refine B_aloadn rfl my_9 rfl ?_
  refine B_iloadn rfl my_9 rfl ?_
  refine B_iloadn rfl my_9 rfl ?_
  refine B_cS rfl cw_9_12_0 (as := [wr n, wi s, wi e]) (rest := [wi s]) rfl (Nat.le_of_ble_eq_true rfl) (g_digitsFrom hE hN hK hlen) (fun vo s9 hq => ?_)
  obtain ⟨x1, rfl, h2, rfl⟩ := hq
  show Bt E 9 7 [wr n, wi s, wi e, wx, wx, wx, wx, wx, wx, wx] [wi x1, wi s] σ _
  refine B_top (fun r3 => ?_)
  refine B_iaddW rfl my_9 ?_
  refine B_top (fun r4 => ?_)
  refine B_istoren rfl my_9 (by decide) rfl (show _ = [wr n, wi s, wi e, wi (w32 (s + x1)), wx, wx, wx, wx, wx, wx] from rfl) ?_
  refine B_iloadn rfl my_9 rfl ?_
  refine B_iconst rfl my_9 (by decide) ?_
  refine B_iaddW rfl my_9 ?_
  refine B_top (fun r5 => ?_)
  refine B_aloadn rfl my_9 rfl ?_
  refine B_iloadn rfl my_9 rfl ?_
  refine B_iconst rfl my_9 (by decide) ?_
  refine B_iaddW rfl my_9 ?_
  refine B_top (fun r6 => ?_)
  refine B_iloadn rfl my_9 rfl ?_
  refine B_cS rfl cw_9_12_0 (as := [wr n, wi (w32 ((w32 (s + x1)) + 1)), wi e]) (rest := [wi (w32 ((w32 (s + x1)) + 1))]) rfl (Nat.le_of_ble_eq_true rfl) (g_digitsFrom hE hN hK hlen) (fun vo s9 hq => ?_)
  obtain ⟨x7, rfl, h8, rfl⟩ := hq
  show Bt E 9 20 [wr n, wi s, wi e, wi (w32 (s + x1)), wx, wx, wx, wx, wx, wx] [wi x7, wi (w32 ((w32 (s + x1)) + 1))] σ _
  refine B_top (fun r9 => ?_)
  refine B_iaddW rfl my_9 ?_
  refine B_top (fun r10 => ?_)
  refine B_istore rfl my_9 (by decide) rfl (show _ = [wr n, wi s, wi e, wi (w32 (s + x1)), wi (w32 ((w32 ((w32 (s + x1)) + 1)) + x7)), wx, wx, wx, wx, wx] from rfl) ?_
  refine B_iload rfl my_9 rfl ?_
  refine B_iconst rfl my_9 (by decide) ?_
  refine B_iaddW rfl my_9 ?_
  refine B_top (fun r11 => ?_)
  refine B_aloadn rfl my_9 rfl ?_
  refine B_iload rfl my_9 rfl ?_
  refine B_iconst rfl my_9 (by decide) ?_
  refine B_iaddW rfl my_9 ?_
  refine B_top (fun r12 => ?_)
  refine B_iloadn rfl my_9 rfl ?_
  refine B_cS rfl cw_9_12_0 (as := [wr n, wi (w32 ((w32 ((w32 ((w32 (s + x1)) + 1)) + x7)) + 1)), wi e]) (rest := [wi (w32 ((w32 ((w32 ((w32 (s + x1)) + 1)) + x7)) + 1))]) rfl (Nat.le_of_ble_eq_true rfl) (g_digitsFrom hE hN hK hlen) (fun vo s9 hq => ?_)
  obtain ⟨x13, rfl, h14, rfl⟩ := hq
  show Bt E 9 36 [wr n, wi s, wi e, wi (w32 (s + x1)), wi (w32 ((w32 ((w32 (s + x1)) + 1)) + x7)), wx, wx, wx, wx, wx] [wi x13, wi (w32 ((w32 ((w32 ((w32 (s + x1)) + 1)) + x7)) + 1))] σ _
  refine B_top (fun r15 => ?_)
  refine B_iaddW rfl my_9 ?_
  refine B_top (fun r16 => ?_)
  refine B_istore rfl my_9 (by decide) rfl (show _ = [wr n, wi s, wi e, wi (w32 (s + x1)), wi (w32 ((w32 ((w32 (s + x1)) + 1)) + x7)), wi (w32 ((w32 ((w32 ((w32 ((w32 (s + x1)) + 1)) + x7)) + 1)) + x13)), wx, wx, wx, wx] from rfl) ?_
  refine B_iloadn rfl my_9 rfl ?_
  refine B_iloadn rfl my_9 rfl ?_
  refine B_isubW rfl my_9 ?_
  refine B_top (fun r17 => ?_)
  refine B_cS rfl cw_9_10_0 (as := [wi (w32 ((w32 (s + x1)) - s))]) (rest := []) rfl (Nat.le_of_ble_eq_true rfl) (g_isOneOrTwo hE) (fun vo s9 hq => ?_)
  obtain ⟨x18, rfl, ⟨h19, _⟩, rfl⟩ := hq
  show Bt E 9 45 [wr n, wi s, wi e, wi (w32 (s + x1)), wi (w32 ((w32 ((w32 (s + x1)) + 1)) + x7)), wi (w32 ((w32 ((w32 ((w32 ((w32 (s + x1)) + 1)) + x7)) + 1)) + x13)), wx, wx, wx, wx] [wi x18] σ _
  refine B_top (fun r20 => ?_)
  refine B_if_eq rfl my_9 rfl (tgt := 102) (nx := 48) rfl rfl (fun c21 => ?_) (fun c21 => ?_)
  · refine B_iconst rfl my_9 (by decide) ?_
    exact t_dayNumber hE hN hK hlen
  · refine B_iload rfl my_9 rfl ?_
    refine B_iloadn rfl my_9 rfl ?_
    refine B_isubW rfl my_9 ?_
    refine B_top (fun r22 => ?_)
    refine B_iconst rfl my_9 (by decide) ?_
    refine B_isubW rfl my_9 ?_
    refine B_top (fun r23 => ?_)
    refine B_cS rfl cw_9_10_0 (as := [wi (w32 ((w32 ((w32 ((w32 ((w32 (s + x1)) + 1)) + x7)) - (w32 (s + x1)))) - 1))]) (rest := []) rfl (Nat.le_of_ble_eq_true rfl) (g_isOneOrTwo hE) (fun vo s9 hq => ?_)
    obtain ⟨x24, rfl, ⟨h25, _⟩, rfl⟩ := hq
    show Bt E 9 57 [wr n, wi s, wi e, wi (w32 (s + x1)), wi (w32 ((w32 ((w32 (s + x1)) + 1)) + x7)), wi (w32 ((w32 ((w32 ((w32 ((w32 (s + x1)) + 1)) + x7)) + 1)) + x13)), wx, wx, wx, wx] [wi x24] σ _
    refine B_top (fun r26 => ?_)
    refine B_if_eq rfl my_9 rfl (tgt := 102) (nx := 60) rfl rfl (fun c27 => ?_) (fun c27 => ?_)
    · refine B_iconst rfl my_9 (by decide) ?_
      exact t_dayNumber hE hN hK hlen
    · refine B_iload rfl my_9 rfl ?_
      refine B_iload rfl my_9 rfl ?_
      refine B_isubW rfl my_9 ?_
      refine B_top (fun r28 => ?_)
      refine B_iconst rfl my_9 (by decide) ?_
      refine B_isubW rfl my_9 ?_
      refine B_top (fun r29 => ?_)
      refine B_iconst rfl my_9 (by decide) ?_
      refine B_ic_ne rfl my_9 rfl (tgt := 102) (nx := 71) rfl rfl (fun c30 => ?_) (fun c30 => ?_)
      · refine B_iconst rfl my_9 (by decide) ?_
        exact t_dayNumber hE hN hK hlen
      · refine B_iload rfl my_9 rfl ?_
        refine B_iloadn rfl my_9 rfl ?_
        refine B_ic_ne rfl my_9 rfl (tgt := 102) (nx := 77) rfl rfl (fun c31 => ?_) (fun c31 => ?_)
        · refine B_iconst rfl my_9 (by decide) ?_
          exact t_dayNumber hE hN hK hlen
        · refine B_aloadn rfl my_9 rfl ?_
          refine B_iloadn rfl my_9 rfl ?_
          refine B_cV hE.1 rfl hN.1 cw_9_20 (as := [wi (w32 (s + x1))]) (rest := []) rfl (Nat.le_of_ble_eq_true rfl) (g_at hE hN hlen (hK _)) (fun vo s9 hq => ?_)
          obtain ⟨rfl, rfl⟩ := hq
          show Bt E 9 82 [wr n, wi s, wi e, wi (w32 (s + x1)), wi (w32 ((w32 ((w32 (s + x1)) + 1)) + x7)), wi (w32 ((w32 ((w32 ((w32 ((w32 (s + x1)) + 1)) + x7)) + 1)) + x13)), wx, wx, wx, wx] [wi (rd σ n len (w32 (s + x1)))] σ _
          refine B_top (fun r32 => ?_)
          refine B_bipush rfl my_9 (n := 9) rfl ?_
          refine B_ic_ne rfl my_9 rfl (tgt := 102) (nx := 87) rfl rfl (fun c33 => ?_) (fun c33 => ?_)
          · refine B_iconst rfl my_9 (by decide) ?_
            exact t_dayNumber hE hN hK hlen
          · refine B_aloadn rfl my_9 rfl ?_
            refine B_iload rfl my_9 rfl ?_
            refine B_cV hE.1 rfl hN.1 cw_9_20 (as := [wi (w32 ((w32 ((w32 (s + x1)) + 1)) + x7))]) (rest := []) rfl (Nat.le_of_ble_eq_true rfl) (g_at hE hN hlen (hK _)) (fun vo s9 hq => ?_)
            obtain ⟨rfl, rfl⟩ := hq
            show Bt E 9 93 [wr n, wi s, wi e, wi (w32 (s + x1)), wi (w32 ((w32 ((w32 (s + x1)) + 1)) + x7)), wi (w32 ((w32 ((w32 ((w32 ((w32 (s + x1)) + 1)) + x7)) + 1)) + x13)), wx, wx, wx, wx] [wi (rd σ n len (w32 ((w32 ((w32 (s + x1)) + 1)) + x7)))] σ _
            refine B_top (fun r34 => ?_)
            refine B_bipush rfl my_9 (n := 9) rfl ?_
            refine B_ic_ne rfl my_9 rfl (tgt := 102) (nx := 98) rfl rfl (fun c35 => ?_) (fun c35 => ?_)
            · refine B_iconst rfl my_9 (by decide) ?_
              exact t_dayNumber hE hN hK hlen
            · refine B_iconst rfl my_9 (by decide) ?_
              refine B_goto rfl my_9 rfl (tgt := 103) rfl ?_
              exact t_dayNumber hE hN hK hlen
