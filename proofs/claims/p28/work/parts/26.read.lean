/-! ===== Reading: how it reads ===== -/
theorem cw_25_20 : wcV 25 0 20 1 1 1 = true := by decide +kernel
theorem cw_25_27 : wcV 25 0 27 2 3 3 = true := by decide +kernel
theorem cw_25_28 : wcV 25 0 28 2 3 3 = true := by decide +kernel
theorem cw_26_20 : wcV 26 0 20 1 1 1 = true := by decide +kernel
theorem cw_26_27 : wcV 26 0 27 2 3 3 = true := by decide +kernel
theorem cw_26_28 : wcV 26 0 28 2 3 3 = true := by decide +kernel
theorem cw_27_20 : wcV 27 0 20 1 1 1 = true := by decide +kernel
theorem cw_28_20 : wcV 28 0 20 1 1 1 = true := by decide +kernel
theorem cw_28_21 : wcV 28 0 21 1 2 2 = true := by decide +kernel
/-- d signs more are taken -/
def TS (T : Nat) (σ s : wSt) (d : Int) : Prop := Al s ∧ Off (fun a => a = T + 1 ∨ a = T + 3) σ s ∧ (∀ b, b ≠ 7 → gv s (T + 1) b = gv σ (T + 1) b) ∧ gv s (T + 1) 7 = gv σ (T + 1) 7 + d ∧ ∀ i, 0 ≤ rd s (T + 2) 500 i
theorem ts_step {T : Nat} {σ s : wSt} {d c x : Int} (h : TS T σ s d) (hx : 0 ≤ x) : TS T σ (wup (pt s (T + 2) 500 c x) (T + 1) 7 (gv (pt s (T + 2) 500 c x) (T + 1) 7 + 1)) (d + 1) := by
  obtain ⟨h1, h2, h3, h4, h5⟩ := h
  refine ⟨al_wup (al_pt h1), ?_, fun b hb => ?_, ?_, fun i => ?_⟩
  · exact (h2.tr (off_pt (R := fun a => a = T + 1 ∨ a = T + 3) (Or.inr rfl))).tr (off_wup (R := fun a => a = T + 1 ∨ a = T + 3) (Or.inl rfl))
  · rw [gv_ne (fun e => hb e.2), gv_pt (by omega), h3 b hb]
  · rw [gv_eq, gv_pt (by omega), h4]
    omega
  · rw [rd_wup (by omega), rd_pt]
    split
    · exact hx
    · exact h5 i
theorem ts_tr {T : Nat} {σ s t : wSt} {d e : Int} (h1 : TS T σ s d) (h2 : TS T s t e) : TS T σ t (d + e) := by
  refine ⟨h2.1, h1.2.1.tr h2.2.1, fun b hb => by rw [h2.2.2.1 b hb, h1.2.2.1 b hb], ?_, h2.2.2.2.2⟩
  rw [h2.2.2.2.1, h1.2.2.2.1]
  omega
/-- .. of a cell, and its fault -/
def TF (T : Nat) (σ s : wSt) (d : Int) : Prop := Al s ∧ Off (fun a => a = T + 1 ∨ a = T + 3) σ s ∧ (∀ b, b ≠ 7 → b ≠ 11 → gv s (T + 1) b = gv σ (T + 1) b) ∧ gv s (T + 1) 7 = gv σ (T + 1) 7 + d ∧ (∀ i, 0 ≤ rd s (T + 2) 500 i) ∧ 0 ≤ gv s (T + 1) 11 ∧ gv s (T + 1) 11 ≤ 2
theorem ts_tf {T : Nat} {σ s : wSt} {d x : Int} (h : TS T σ s d) (h1 : 0 ≤ x) (h2 : x ≤ 2) : TF T σ (wup s (T + 1) 11 x) d := by
  refine ⟨al_wup h.1, h.2.1.tr (off_wup (R := fun a => a = T + 1 ∨ a = T + 3) (Or.inl rfl)), fun b hb hb2 => ?_, ?_, fun i => ?_, ?_, ?_⟩
  · rw [gv_ne (fun e => hb2 e.2), h.2.2.1 b hb]
  · rw [gv_ne (fun e => absurd e.2 (by decide)), h.2.2.2.1]
  · rw [rd_wup (by omega)]
    exact h.2.2.2.2 i
  · rw [gv_eq]; exact h1
  · rw [gv_eq]; exact h2
theorem tx_off {σ s : wSt} {R : Nat → Prop} (h : TX σ) (ho : Off R σ s) (h3 : ¬ R 3) (h5 : ¬ R 5) : TX s ∧ gv s 3 1 = gv σ 3 1 := by
  refine ⟨⟨?_, ?_, fun i => ?_⟩, off_gv ho h3⟩
  · rw [off_gv ho h3]; exact h.1
  · rw [off_gv ho h3]; exact h.2.1
  · rw [off_rd ho h5]; exact h.2.2 i
theorem g_isMoreToRead {E : mE} {σ : wSt} {T : Nat} (hE : wE E) (hT : Tb T) (hA : Al σ) {q : Int} : Ev E 24 [wr (T + 1), wr 3, wi q] σ (fun x => (x = 0 ∨ x = 1) ∧ (x = 1 ↔ gv σ (T + 1) 9 < 60 ∧ (q < gv σ 3 1 ∨ 0 < gv σ (T + 1) 10))) := by
  refine Fn.of (nL := 3) ?_
  show Bt E 24 0 [wr (T + 1), wr 3, wi q] [] σ _
  refine B_rng 2 rfl (fun ha2 => ?_)
  refine B_aloadn rfl my_24 rfl ?_
  refine B_int hE.1 rfl my_24 rfl (wn_1_9 hT) (hA _ _) (fun r1 => ?_)
  refine B_bipush rfl my_24 (n := 60) rfl ?_
  refine B_ic_ge rfl my_24 rfl (tgt := 28) (nx := 9) rfl rfl (fun c2 => ?_) (fun c2 => ?_)
  · refine B_iconst rfl my_24 (by decide) ?_
    refine B_bret rfl my_24 rfl (by omega) ?_
    exact ⟨_, rfl, ⟨by omega, by omega⟩, rfl⟩
  · refine B_iloadn rfl my_24 rfl ?_
    refine B_aloadn rfl my_24 rfl ?_
    refine B_int hE.1 rfl my_24 rfl rfl (hA _ _) (fun r3 => ?_)
    refine B_ic_lt rfl my_24 rfl (tgt := 24) (nx := 17) rfl rfl (fun c4 => ?_) (fun c4 => ?_)
    · refine B_iconst rfl my_24 (by decide) ?_
      refine B_goto rfl my_24 rfl (tgt := 29) rfl ?_
      refine B_bret rfl my_24 rfl (by omega) ?_
      exact ⟨_, rfl, ⟨by omega, by omega⟩, rfl⟩
    · refine B_aloadn rfl my_24 rfl ?_
      refine B_int hE.1 rfl my_24 rfl (wn_1_10 hT) (hA _ _) (fun r5 => ?_)
      refine B_if_le rfl my_24 rfl (tgt := 28) (nx := 24) rfl rfl (fun c6 => ?_) (fun c6 => ?_)
      · refine B_iconst rfl my_24 (by decide) ?_
        refine B_bret rfl my_24 rfl (by omega) ?_
        exact ⟨_, rfl, ⟨by omega, by omega⟩, rfl⟩
      · refine B_iconst rfl my_24 (by decide) ?_
        refine B_goto rfl my_24 rfl (tgt := 29) rfl ?_
        refine B_bret rfl my_24 rfl (by omega) ?_
        exact ⟨_, rfl, ⟨by omega, by omega⟩, rfl⟩
theorem l_endOfCell {E : mE} {σ : wSt} {T : Nat} (hE : wE E) (hT : Tb T) (hA : Al σ) {n a : Int} : ∀ (k : Nat) (i : Int), a ≤ i → (i = a ∨ i ≤ gv σ 3 1) → (gv σ 3 1 - i).toNat ≤ k → Bt E 27 3 [wr (T + 1), wr 3, wi n, wi a, wi i] [] σ (fun vo t => ∃ x, vo = some (wi x) ∧ (a ≤ x ∧ (x = a ∨ x ≤ gv σ 3 1)) ∧ σ = t) := by
  intro k
  induction k with
  | zero =>
    intro i h1 h2 hm
    refine B_rng 2 rfl (fun ha2 => ?_)
    refine B_rng 3 rfl (fun ha3 => ?_)
    refine B_rng 4 rfl (fun ha4 => ?_)
    refine B_iload rfl my_27 rfl ?_
    refine B_aloadn rfl my_27 rfl ?_
    refine B_int hE.1 rfl my_27 rfl rfl (hA _ _) (fun r1 => ?_)
    refine B_ic_ge rfl my_27 rfl (tgt := 44) (nx := 12) rfl rfl (fun c2 => ?_) (fun c2 => ?_)
    · refine B_iload rfl my_27 rfl ?_
      refine B_iret rfl my_27 rfl ?_
      exact ⟨_, rfl, ⟨by omega, by omega⟩, rfl⟩
    · exact absurd hm (by omega)
  | succ k ih =>
    intro i h1 h2 hm
    refine B_rng 2 rfl (fun ha2 => ?_)
    refine B_rng 3 rfl (fun ha3 => ?_)
    refine B_rng 4 rfl (fun ha4 => ?_)
    refine B_iload rfl my_27 rfl ?_
    refine B_aloadn rfl my_27 rfl ?_
    refine B_int hE.1 rfl my_27 rfl rfl (hA _ _) (fun r1 => ?_)
    refine B_ic_ge rfl my_27 rfl (tgt := 44) (nx := 12) rfl rfl (fun c2 => ?_) (fun c2 => ?_)
    · refine B_iload rfl my_27 rfl ?_
      refine B_iret rfl my_27 rfl ?_
      exact ⟨_, rfl, ⟨by omega, by omega⟩, rfl⟩
    · refine B_aloadn rfl my_27 rfl ?_
      refine B_ref hE.1 rfl my_27 rfl (r := 4) rfl ?_
      refine B_iload rfl my_27 rfl ?_
      refine B_cV hE.1 rfl nmc_4.1 cw_27_20 (as := [wi i]) (rest := []) rfl (Nat.le_of_ble_eq_true rfl) (g_at hE nmc_4 (by decide) (kr_of fun _ => hA _ _)) (fun vo s9 hq => ?_)
      obtain ⟨rfl, rfl⟩ := hq
      show Bt E 27 21 [wr (T + 1), wr 3, wi n, wi a, wi i] [wi (rd σ 4 500 i)] σ _
      refine B_top (fun r3 => ?_)
      refine B_iloadn rfl my_27 rfl ?_
      refine B_ic_eq rfl my_27 rfl (tgt := 44) (nx := 25) rfl rfl (fun c4 => ?_) (fun c4 => ?_)
      · refine B_iload rfl my_27 rfl ?_
        refine B_iret rfl my_27 rfl ?_
        exact ⟨_, rfl, ⟨by omega, by omega⟩, rfl⟩
      · refine B_aloadn rfl my_27 rfl ?_
        refine B_ref hE.1 rfl my_27 rfl (r := 4) rfl ?_
        refine B_iload rfl my_27 rfl ?_
        refine B_cV hE.1 rfl nmc_4.1 cw_27_20 (as := [wi i]) (rest := []) rfl (Nat.le_of_ble_eq_true rfl) (g_at hE nmc_4 (by decide) (kr_of fun _ => hA _ _)) (fun vo s9 hq => ?_)
        obtain ⟨rfl, rfl⟩ := hq
        show Bt E 27 34 [wr (T + 1), wr 3, wi n, wi a, wi i] [wi (rd σ 4 500 i)] σ _
        refine B_top (fun r5 => ?_)
        refine B_iconst rfl my_27 (by decide) ?_
        refine B_ic_eq rfl my_27 rfl (tgt := 44) (nx := 38) rfl rfl (fun c6 => ?_) (fun c6 => ?_)
        · refine B_iload rfl my_27 rfl ?_
          refine B_iret rfl my_27 rfl ?_
          exact ⟨_, rfl, ⟨by omega, by omega⟩, rfl⟩
        · refine B_iinc rfl my_27 (by decide) rfl rfl rfl (by omega) (by omega) (show _ = [wr (T + 1), wr 3, wi n, wi a, wi (i + 1)] from rfl) ?_
          refine B_goto rfl my_27 rfl (tgt := 3) rfl ?_
          exact ih _ (by omega) (by omega) (by omega)
theorem g_endOfCell {E : mE} {σ : wSt} {T : Nat} (hE : wE E) (hT : Tb T) (hA : Al σ) {n a : Int} : Ev E 27 [wr (T + 1), wr 3, wi n, wi a] σ (fun x => a ≤ x ∧ (x = a ∨ x ≤ gv σ 3 1)) := by
  refine Fn.of (nL := 5) ?_
  show Bt E 27 0 [wr (T + 1), wr 3, wi n, wi a, wx] [] σ _
  refine B_rng 2 rfl (fun ha2 => ?_)
  refine B_rng 3 rfl (fun ha3 => ?_)
  refine B_iloadn rfl my_27 rfl ?_
  refine B_istore rfl my_27 (by decide) rfl (show _ = [wr (T + 1), wr 3, wi n, wi a, wi a] from rfl) ?_
  exact l_endOfCell hE hT hA _ a (by omega) (by omega) (Nat.le_refl _)
theorem tb_ge {T : Nat} (hT : Tb T) : 11 ≤ T := by omega
theorem l_takeSigns {E : mE} {σ : wSt} {T : Nat} (hE : wE E) (hT : Tb T) (hA : Al σ) (hX : TX σ) (hS : ∀ i, 0 ≤ rd σ (T + 2) 500 i) {a b : Int} (ha : 0 ≤ a) (hb : b ≤ 500) (hc : 0 ≤ gv σ (T + 1) 7) (hc2 : gv σ (T + 1) 7 ≤ 500) : ∀ (k : Nat) (s : wSt) (i : Int), TS T σ s (i - a) → a ≤ i → (i = a ∨ i ≤ b) → (b - i).toNat ≤ k → Bt E 28 3 [wr (T + 1), wr 3, wi a, wi b, wi i] [] s (fun vo t => vo = none ∧ ∃ d, (0 ≤ d ∧ (d = b - a ∨ d = 0 ∧ b ≤ a)) ∧ TS T σ t d) := by
  intro k
  induction k with
  | zero =>
    intro s i h1 h2 h3 hm
    have h11 := tb_ge hT
    have hx : 0 ≤ rd s 4 500 i := by
      rw [off_rd h1.2.1 (by omega)]
      exact hX.2.2 i
    have h17 := h1.2.2.2.1
    refine B_rng 2 rfl (fun ha2 => ?_)
    refine B_rng 3 rfl (fun ha3 => ?_)
    refine B_rng 4 rfl (fun ha4 => ?_)
    refine B_iload rfl my_28 rfl ?_
    refine B_iloadn rfl my_28 rfl ?_
    refine B_ic_ge rfl my_28 rfl (tgt := 45) (nx := 9) rfl rfl (fun c1 => ?_) (fun c1 => ?_)
    · refine B_ret rfl my_28 rfl ?_
      exact ⟨rfl, _, ⟨by omega, by omega⟩, h1⟩
    · exact absurd hm (by omega)
  | succ k ih =>
    intro s i h1 h2 h3 hm
    have h11 := tb_ge hT
    have hx : 0 ≤ rd s 4 500 i := by
      rw [off_rd h1.2.1 (by omega)]
      exact hX.2.2 i
    have h17 := h1.2.2.2.1
    refine B_rng 2 rfl (fun ha2 => ?_)
    refine B_rng 3 rfl (fun ha3 => ?_)
    refine B_rng 4 rfl (fun ha4 => ?_)
    refine B_iload rfl my_28 rfl ?_
    refine B_iloadn rfl my_28 rfl ?_
    refine B_ic_ge rfl my_28 rfl (tgt := 45) (nx := 9) rfl rfl (fun c1 => ?_) (fun c1 => ?_)
    · refine B_ret rfl my_28 rfl ?_
      exact ⟨rfl, _, ⟨by omega, by omega⟩, h1⟩
    · refine B_aloadn rfl my_28 rfl ?_
      refine B_ref hE.1 rfl my_28 rfl (r := (T + 2)) (wf_1_0 hT) ?_
      refine B_aloadn rfl my_28 rfl ?_
      refine B_int hE.1 rfl my_28 rfl (wn_1_7 hT) (h1.1 _ _) (fun r2 => ?_)
      refine B_aloadn rfl my_28 rfl ?_
      refine B_ref hE.1 rfl my_28 rfl (r := 4) rfl ?_
      refine B_iload rfl my_28 rfl ?_
      refine B_cV hE.1 rfl nmc_4.1 cw_28_20 (as := [wi i]) (rest := [wi (gv s (T + 1) 7), wr (T + 2)]) rfl (Nat.le_of_ble_eq_true rfl) (g_at hE nmc_4 (by decide) (kr_of fun _ => h1.1 _ _)) (fun vo s9 hq => ?_)
      obtain ⟨rfl, rfl⟩ := hq
      show Bt E 28 26 [wr (T + 1), wr 3, wi a, wi b, wi i] [wi (rd s 4 500 i), wi (gv s (T + 1) 7), wr (T + 2)] s _
      refine B_top (fun r3 => ?_)
      refine B_cV hE.1 rfl (nm_2 hT).1 cw_28_21 (as := [wi (gv s (T + 1) 7), wi (rd s 4 500 i)]) (rest := []) rfl (Nat.le_of_ble_eq_true rfl) (g_put hE (nm_2 hT) (by decide)) (fun vo s9 hq => ?_)
      obtain ⟨rfl, rfl⟩ := hq
      have we4 := (gv_pt (by omega) : gv (pt s (T + 2) 500 (gv s (T + 1) 7) (rd s 4 500 i)) (T + 1) 7 = gv s (T + 1) 7)
      show Bt E 28 29 [wr (T + 1), wr 3, wi a, wi b, wi i] [] (pt s (T + 2) 500 (gv s (T + 1) 7) (rd s 4 500 i)) _
      refine B_aloadn rfl my_28 rfl ?_
      refine B_dup rfl my_28 (Nat.le_of_ble_eq_true rfl) ?_
      refine B_int hE.1 rfl my_28 rfl (wn_1_7 hT) ((al_pt h1.1) _ _) (fun r5 => ?_)
      refine B_iconst rfl my_28 (by decide) ?_
      refine B_iadd rfl my_28 (by omega) (by omega) ?_
      refine B_put hE.1 rfl my_28 rfl (wn_1_7 hT) (Or.inl rfl) ?_
      have we6 : gv (wup (pt s (T + 2) 500 (gv s (T + 1) 7) (rd s 4 500 i)) (T + 1) 7 ((gv (pt s (T + 2) 500 (gv s (T + 1) 7) (rd s 4 500 i)) (T + 1) 7) + 1)) (T + 1) 7 = _ := gv_eq
      refine B_iinc rfl my_28 (by decide) rfl rfl rfl (by omega) (by omega) (show _ = [wr (T + 1), wr 3, wi a, wi b, wi (i + 1)] from rfl) ?_
      refine B_goto rfl my_28 rfl (tgt := 3) rfl ?_
      refine ih _ _ ?_ (by omega) (by omega) (by omega)
      have hz := ts_step (c := gv s (T + 1) 7) (x := rd s 4 500 i) h1 hx
      rwa [show i - a + 1 = i + 1 - a by omega] at hz
theorem g_takeSigns {E : mE} {σ : wSt} {T : Nat} (hE : wE E) (hT : Tb T) (hA : Al σ) (hX : TX σ) (hS : ∀ i, 0 ≤ rd σ (T + 2) 500 i) {a b : Int} (ha : 0 ≤ a) (hb : b ≤ 500) (hc : 0 ≤ gv σ (T + 1) 7) (hc2 : gv σ (T + 1) 7 ≤ 500) : Fn E 28 [wr (T + 1), wr 3, wi a, wi b] σ (fun vo s => vo = none ∧ ∃ d, (0 ≤ d ∧ (d = b - a ∨ d = 0 ∧ b ≤ a)) ∧ TS T σ s d) := by
  refine Fn.of (nL := 5) ?_
  show Bt E 28 0 [wr (T + 1), wr 3, wi a, wi b, wx] [] σ _
  refine B_rng 2 rfl (fun ha2 => ?_)
  refine B_rng 3 rfl (fun ha3 => ?_)
  refine B_iloadn rfl my_28 rfl ?_
  refine B_istore rfl my_28 (by decide) rfl (show _ = [wr (T + 1), wr 3, wi a, wi b, wi a] from rfl) ?_
  refine l_takeSigns hE hT hA hX hS ha hb hc hc2 _ σ a ?_ (by omega) (by omega) (Nat.le_refl _)
  rw [show a - a = (0 : Int) by omega]
  exact ⟨hA, Off.rf, fun _ _ => rfl, by omega, hS⟩
theorem t_readPlain {E : mE} {σ : wSt} {T : Nat} (hE : wE E) (hT : Tb T) (hA : Al σ) (hX : TX σ) (hS : ∀ i, 0 ≤ rd σ (T + 2) 500 i) {n a : Int} (q0 : 0 ≤ a) (q1 : a ≤ gv σ 3 1) (hc : 0 ≤ gv σ (T + 1) 7) (hc2 : gv σ (T + 1) 7 ≤ a) {e f l : Int} (q2 : a ≤ e) (q3 : e ≤ gv σ 3 1) (q4 : a ≤ f) (q5 : f ≤ l) (q6 : l ≤ e) : Bt E 25 72 [wr (T + 1), wr 3, wi n, wi a, wi e, wi f, wi l] [] σ (fun vo s => ∃ x d, vo = some (wi x) ∧ (a ≤ x ∧ x ≤ gv σ 3 1 ∧ 0 ≤ d ∧ d ≤ x - a) ∧ TF T σ s d) := by
  have hx2 := hX.2.1
  refine B_rng 2 rfl (fun ha2 => ?_)
  refine B_rng 3 rfl (fun ha3 => ?_)
  refine B_rng 4 rfl (fun ha4 => ?_)
  refine B_rng 5 rfl (fun ha5 => ?_)
  refine B_rng 6 rfl (fun ha6 => ?_)
  refine B_aloadn rfl my_25 rfl ?_
  refine B_aloadn rfl my_25 rfl ?_
  refine B_iload rfl my_25 rfl ?_
  refine B_iload rfl my_25 rfl ?_
  refine B_cV hE.1 rfl (wc_1 hT) cw_25_28 (as := [wr 3, wi f, wi l]) (rest := []) rfl (Nat.le_of_ble_eq_true rfl) (g_takeSigns hE hT hA hX hS (by omega) (by omega) hc (by omega)) (fun vo s1 hq => ?_)
  obtain ⟨rfl, d1, hd1, hs1⟩ := hq
  have hA1 := hs1.1
  show Bt E 25 81 [wr (T + 1), wr 3, wi n, wi a, wi e, wi f, wi l] [] s1 _
  refine B_aloadn rfl my_25 rfl ?_
  refine B_iconst rfl my_25 (by decide) ?_
  refine B_put hE.1 rfl my_25 rfl (wn_1_11 hT) (Or.inl rfl) ?_
  refine B_iload rfl my_25 rfl ?_
  refine B_iret rfl my_25 rfl ?_
  exact ⟨_, d1, rfl, ⟨by omega, by omega, by omega, by omega⟩, ts_tf hs1 (by decide) (by decide)⟩
theorem l_readPlain2 {E : mE} {σ : wSt} {T : Nat} (hE : wE E) (hT : Tb T) (hA : Al σ) (hX : TX σ) (hS : ∀ i, 0 ≤ rd σ (T + 2) 500 i) {n a : Int} (q0 : 0 ≤ a) (q1 : a ≤ gv σ 3 1) (hc : 0 ≤ gv σ (T + 1) 7) (hc2 : gv σ (T + 1) 7 ≤ a) {e f : Int} (q2 : a ≤ e) (q3 : e ≤ gv σ 3 1) (q4 : a ≤ f) : ∀ (k : Nat) (l : Int), f ≤ l → l ≤ e → (l - f).toNat ≤ k → Bt E 25 43 [wr (T + 1), wr 3, wi n, wi a, wi e, wi f, wi l] [] σ (fun vo s => ∃ x d, vo = some (wi x) ∧ (a ≤ x ∧ x ≤ gv σ 3 1 ∧ 0 ≤ d ∧ d ≤ x - a) ∧ TF T σ s d) := by
  intro k
  induction k with
  | zero =>
    intro l h1 h2 hm
    have hx2 := hX.2.1
    refine B_rng 2 rfl (fun ha2 => ?_)
    refine B_rng 3 rfl (fun ha3 => ?_)
    refine B_rng 4 rfl (fun ha4 => ?_)
    refine B_rng 5 rfl (fun ha5 => ?_)
    refine B_rng 6 rfl (fun ha6 => ?_)
    refine B_iload rfl my_25 rfl ?_
    refine B_iload rfl my_25 rfl ?_
    refine B_ic_le rfl my_25 rfl (tgt := 72) (nx := 50) rfl rfl (fun c1 => ?_) (fun c1 => ?_)
    · exact t_readPlain hE hT hA hX hS q0 q1 hc hc2 q2 q3 q4 (by omega) (by omega)
    · exact absurd hm (by omega)
  | succ k ih =>
    intro l h1 h2 hm
    have hx2 := hX.2.1
    refine B_rng 2 rfl (fun ha2 => ?_)
    refine B_rng 3 rfl (fun ha3 => ?_)
    refine B_rng 4 rfl (fun ha4 => ?_)
    refine B_rng 5 rfl (fun ha5 => ?_)
    refine B_rng 6 rfl (fun ha6 => ?_)
    refine B_iload rfl my_25 rfl ?_
    refine B_iload rfl my_25 rfl ?_
    refine B_ic_le rfl my_25 rfl (tgt := 72) (nx := 50) rfl rfl (fun c1 => ?_) (fun c1 => ?_)
    · exact t_readPlain hE hT hA hX hS q0 q1 hc hc2 q2 q3 q4 (by omega) (by omega)
    · refine B_aloadn rfl my_25 rfl ?_
      refine B_ref hE.1 rfl my_25 rfl (r := 4) rfl ?_
      refine B_iload rfl my_25 rfl ?_
      refine B_iconst rfl my_25 (by decide) ?_
      refine B_isub rfl my_25 (by omega) (by omega) ?_
      refine B_cV hE.1 rfl nmc_4.1 cw_25_20 (as := [wi (l - 1)]) (rest := []) rfl (Nat.le_of_ble_eq_true rfl) (g_at hE nmc_4 (by decide) (kr_of fun _ => hA _ _)) (fun vo s9 hq => ?_)
      obtain ⟨rfl, rfl⟩ := hq
      show Bt E 25 61 [wr (T + 1), wr 3, wi n, wi a, wi e, wi f, wi l] [wi (rd σ 4 500 (l - 1))] σ _
      refine B_top (fun r2 => ?_)
      refine B_bipush rfl my_25 (n := 6) rfl ?_
      refine B_ic_ne rfl my_25 rfl (tgt := 72) (nx := 66) rfl rfl (fun c3 => ?_) (fun c3 => ?_)
      · exact t_readPlain hE hT hA hX hS q0 q1 hc hc2 q2 q3 q4 (by omega) (by omega)
      · refine B_iinc rfl my_25 (by decide) rfl rfl rfl (by omega) (by omega) (show _ = [wr (T + 1), wr 3, wi n, wi a, wi e, wi f, wi (l + (-1))] from rfl) ?_
        refine B_goto rfl my_25 rfl (tgt := 43) rfl ?_
        exact ih _ (by omega) (by omega) (by omega)
theorem l_readPlain {E : mE} {σ : wSt} {T : Nat} (hE : wE E) (hT : Tb T) (hA : Al σ) (hX : TX σ) (hS : ∀ i, 0 ≤ rd σ (T + 2) 500 i) {n a : Int} (q0 : 0 ≤ a) (q1 : a ≤ gv σ 3 1) (hc : 0 ≤ gv σ (T + 1) 7) (hc2 : gv σ (T + 1) 7 ≤ a) {e : Int} (q2 : a ≤ e) (q3 : e ≤ gv σ 3 1) : ∀ (k : Nat) (f : Int), a ≤ f → f ≤ e → (e - f).toNat ≤ k → Bt E 25 12 [wr (T + 1), wr 3, wi n, wi a, wi e, wi f, wx] [] σ (fun vo s => ∃ x d, vo = some (wi x) ∧ (a ≤ x ∧ x ≤ gv σ 3 1 ∧ 0 ≤ d ∧ d ≤ x - a) ∧ TF T σ s d) := by
  intro k
  induction k with
  | zero =>
    intro f h1 h2 hm
    have hx2 := hX.2.1
    refine B_rng 2 rfl (fun ha2 => ?_)
    refine B_rng 3 rfl (fun ha3 => ?_)
    refine B_rng 4 rfl (fun ha4 => ?_)
    refine B_rng 5 rfl (fun ha5 => ?_)
    refine B_iload rfl my_25 rfl ?_
    refine B_iload rfl my_25 rfl ?_
    refine B_ic_ge rfl my_25 rfl (tgt := 39) (nx := 19) rfl rfl (fun c1 => ?_) (fun c1 => ?_)
    · refine B_iload rfl my_25 rfl ?_
      refine B_istore rfl my_25 (by decide) rfl (show _ = [wr (T + 1), wr 3, wi n, wi a, wi e, wi f, wi e] from rfl) ?_
      exact l_readPlain2 hE hT hA hX hS q0 q1 hc hc2 q2 q3 h1 _ _ (by omega) (by omega) (Nat.le_refl _)
    · exact absurd hm (by omega)
  | succ k ih =>
    intro f h1 h2 hm
    have hx2 := hX.2.1
    refine B_rng 2 rfl (fun ha2 => ?_)
    refine B_rng 3 rfl (fun ha3 => ?_)
    refine B_rng 4 rfl (fun ha4 => ?_)
    refine B_rng 5 rfl (fun ha5 => ?_)
    refine B_iload rfl my_25 rfl ?_
    refine B_iload rfl my_25 rfl ?_
    refine B_ic_ge rfl my_25 rfl (tgt := 39) (nx := 19) rfl rfl (fun c1 => ?_) (fun c1 => ?_)
    · refine B_iload rfl my_25 rfl ?_
      refine B_istore rfl my_25 (by decide) rfl (show _ = [wr (T + 1), wr 3, wi n, wi a, wi e, wi f, wi e] from rfl) ?_
      exact l_readPlain2 hE hT hA hX hS q0 q1 hc hc2 q2 q3 h1 _ _ (by omega) (by omega) (Nat.le_refl _)
    · refine B_aloadn rfl my_25 rfl ?_
      refine B_ref hE.1 rfl my_25 rfl (r := 4) rfl ?_
      refine B_iload rfl my_25 rfl ?_
      refine B_cV hE.1 rfl nmc_4.1 cw_25_20 (as := [wi f]) (rest := []) rfl (Nat.le_of_ble_eq_true rfl) (g_at hE nmc_4 (by decide) (kr_of fun _ => hA _ _)) (fun vo s9 hq => ?_)
      obtain ⟨rfl, rfl⟩ := hq
      show Bt E 25 28 [wr (T + 1), wr 3, wi n, wi a, wi e, wi f, wx] [wi (rd σ 4 500 f)] σ _
      refine B_top (fun r2 => ?_)
      refine B_bipush rfl my_25 (n := 6) rfl ?_
      refine B_ic_ne rfl my_25 rfl (tgt := 39) (nx := 33) rfl rfl (fun c3 => ?_) (fun c3 => ?_)
      · refine B_iload rfl my_25 rfl ?_
        refine B_istore rfl my_25 (by decide) rfl (show _ = [wr (T + 1), wr 3, wi n, wi a, wi e, wi f, wi e] from rfl) ?_
        exact l_readPlain2 hE hT hA hX hS q0 q1 hc hc2 q2 q3 h1 _ _ (by omega) (by omega) (Nat.le_refl _)
      · refine B_iinc rfl my_25 (by decide) rfl rfl rfl (by omega) (by omega) (show _ = [wr (T + 1), wr 3, wi n, wi a, wi e, wi (f + 1), wx] from rfl) ?_
        refine B_goto rfl my_25 rfl (tgt := 12) rfl ?_
        exact ih _ (by omega) (by omega) (by omega)
theorem g_readPlain {E : mE} {σ : wSt} {T : Nat} (hE : wE E) (hT : Tb T) (hA : Al σ) (hX : TX σ) (hS : ∀ i, 0 ≤ rd σ (T + 2) 500 i) {n a : Int} (q0 : 0 ≤ a) (q1 : a ≤ gv σ 3 1) (hc : 0 ≤ gv σ (T + 1) 7) (hc2 : gv σ (T + 1) 7 ≤ a) : Fn E 25 [wr (T + 1), wr 3, wi n, wi a] σ (fun vo s => ∃ x d, vo = some (wi x) ∧ (a ≤ x ∧ x ≤ gv σ 3 1 ∧ 0 ≤ d ∧ d ≤ x - a) ∧ TF T σ s d) := by
  refine Fn.of (nL := 7) ?_
  show Bt E 25 0 [wr (T + 1), wr 3, wi n, wi a, wx, wx, wx] [] σ _
  refine B_rng 2 rfl (fun ha2 => ?_)
  refine B_rng 3 rfl (fun ha3 => ?_)
  refine B_aloadn rfl my_25 rfl ?_
  refine B_aloadn rfl my_25 rfl ?_
  refine B_iloadn rfl my_25 rfl ?_
  refine B_iloadn rfl my_25 rfl ?_
  refine B_cV hE.1 rfl (wc_1 hT) cw_25_27 (as := [wr 3, wi n, wi a]) (rest := []) rfl (Nat.le_of_ble_eq_true rfl) (g_endOfCell hE hT hA) (fun vo s9 hq => ?_)
  obtain ⟨x1, rfl, hz2, rfl⟩ := hq
  show Bt E 25 7 [wr (T + 1), wr 3, wi n, wi a, wx, wx, wx] [wi x1] σ _
  refine B_top (fun r3 => ?_)
  refine B_istore rfl my_25 (by decide) rfl (show _ = [wr (T + 1), wr 3, wi n, wi a, wi x1, wx, wx] from rfl) ?_
  refine B_iloadn rfl my_25 rfl ?_
  refine B_istore rfl my_25 (by decide) rfl (show _ = [wr (T + 1), wr 3, wi n, wi a, wi x1, wi a, wx] from rfl) ?_
  exact l_readPlain hE hT hA hX hS q0 q1 hc hc2 (by omega) (by omega) _ _ (by omega) (by omega) (Nat.le_refl _)
theorem l_readQuoted {E : mE} {σ : wSt} {T : Nat} (hE : wE E) (hT : Tb T) (hA : Al σ) (hX : TX σ) (hS : ∀ i, 0 ≤ rd σ (T + 2) 500 i) {n a : Int} (q0 : 0 ≤ a) (q1 : a ≤ gv σ 3 1) (hc : 0 ≤ gv σ (T + 1) 7) (hc2 : gv σ (T + 1) 7 ≤ a) : ∀ (k : Nat) (s : wSt) (i o d : Int), TS T σ s d → 0 ≤ d → d ≤ i - a → a ≤ i → i ≤ gv σ 3 1 → (o = 0 ∨ o = 1) → (gv σ 3 1 - i).toNat ≤ k → Bt E 26 6 [wr (T + 1), wr 3, wi n, wi a, wi i, wi o, wx, wx] [] s (fun vo s => ∃ x d, vo = some (wi x) ∧ (a ≤ x ∧ x ≤ gv σ 3 1 ∧ 0 ≤ d ∧ d ≤ x - a) ∧ TF T σ s d) := by
  intro k
  induction k with
  | zero =>
    intro s i o d h1 h2 h3 h4 h5 h6 hm
    have h11 := tb_ge hT
    have hx2 := hX.2.1
    have hXs := tx_off hX h1.2.1 (by omega) (by omega)
    have hn := hXs.2
    have h17 := h1.2.2.2.1
    refine B_rng 2 rfl (fun ha2 => ?_)
    refine B_rng 3 rfl (fun ha3 => ?_)
    refine B_rng 4 rfl (fun ha4 => ?_)
    refine B_rng 5 rfl (fun ha5 => ?_)
    refine B_iload rfl my_26 rfl ?_
    refine B_if_eq rfl my_26 rfl (tgt := 129) (nx := 11) rfl rfl (fun c1 => ?_) (fun c1 => ?_)
    · refine B_aloadn rfl my_26 rfl ?_
      refine B_aloadn rfl my_26 rfl ?_
      refine B_iloadn rfl my_26 rfl ?_
      refine B_iload rfl my_26 rfl ?_
      refine B_cV hE.1 rfl (wc_1 hT) cw_26_27 (as := [wr 3, wi n, wi i]) (rest := []) rfl (Nat.le_of_ble_eq_true rfl) (g_endOfCell hE hT h1.1) (fun vo s9 hq => ?_)
      obtain ⟨x2, rfl, hz3, rfl⟩ := hq
      show Bt E 26 137 [wr (T + 1), wr 3, wi n, wi a, wi i, wi o, wx, wx] [wi x2] s _
      refine B_top (fun r4 => ?_)
      refine B_istore rfl my_26 (by decide) rfl (show _ = [wr (T + 1), wr 3, wi n, wi a, wi i, wi o, wi x2, wx] from rfl) ?_
      refine B_aloadn rfl my_26 rfl ?_
      refine B_aloadn rfl my_26 rfl ?_
      refine B_iload rfl my_26 rfl ?_
      refine B_iload rfl my_26 rfl ?_
      refine B_cV hE.1 rfl (wc_1 hT) cw_26_28 (as := [wr 3, wi i, wi x2]) (rest := []) rfl (Nat.le_of_ble_eq_true rfl) (g_takeSigns hE hT h1.1 hXs.1 h1.2.2.2.2 (by omega) (by omega) (by omega) (by omega)) (fun vo s2 hq => ?_)
      obtain ⟨rfl, d2, hd2, hs2⟩ := hq
      have hA2 := hs2.1
      show Bt E 26 148 [wr (T + 1), wr 3, wi n, wi a, wi i, wi o, wi x2, wx] [] s2 _
      refine B_aloadn rfl my_26 rfl ?_
      refine B_iload rfl my_26 rfl ?_
      refine B_if_eq rfl my_26 rfl (tgt := 158) (nx := 154) rfl rfl (fun c5 => ?_) (fun c5 => ?_)
      · refine B_iload rfl my_26 rfl ?_
        refine B_iload rfl my_26 rfl ?_
        refine B_ic_le rfl my_26 rfl (tgt := 169) (nx := 165) rfl rfl (fun c6 => ?_) (fun c6 => ?_)
        · refine B_iconst rfl my_26 (by decide) ?_
          refine B_put hE.1 rfl my_26 rfl (wn_1_11 hT) (Or.inl rfl) ?_
          refine B_iload rfl my_26 rfl ?_
          refine B_iret rfl my_26 rfl ?_
          have hz := ts_tr h1 hs2
          exact ⟨_, d + d2, rfl, ⟨by omega, by omega, by omega, by omega⟩, ts_tf hz (by decide) (by decide)⟩
        · refine B_iconst rfl my_26 (by decide) ?_
          refine B_goto rfl my_26 rfl (tgt := 170) rfl ?_
          refine B_put hE.1 rfl my_26 rfl (wn_1_11 hT) (Or.inl rfl) ?_
          refine B_iload rfl my_26 rfl ?_
          refine B_iret rfl my_26 rfl ?_
          have hz := ts_tr h1 hs2
          exact ⟨_, d + d2, rfl, ⟨by omega, by omega, by omega, by omega⟩, ts_tf hz (by decide) (by decide)⟩
      · refine B_iconst rfl my_26 (by decide) ?_
        refine B_goto rfl my_26 rfl (tgt := 170) rfl ?_
        refine B_put hE.1 rfl my_26 rfl (wn_1_11 hT) (Or.inl rfl) ?_
        refine B_iload rfl my_26 rfl ?_
        refine B_iret rfl my_26 rfl ?_
        have hz := ts_tr h1 hs2
        exact ⟨_, d + d2, rfl, ⟨by omega, by omega, by omega, by omega⟩, ts_tf hz (by decide) (by decide)⟩
    · refine B_iload rfl my_26 rfl ?_
      refine B_aloadn rfl my_26 rfl ?_
      refine B_int hE.1 rfl my_26 rfl rfl (h1.1 _ _) (fun r7 => ?_)
      refine B_ic_ge rfl my_26 rfl (tgt := 129) (nx := 20) rfl rfl (fun c8 => ?_) (fun c8 => ?_)
      · refine B_aloadn rfl my_26 rfl ?_
        refine B_aloadn rfl my_26 rfl ?_
        refine B_iloadn rfl my_26 rfl ?_
        refine B_iload rfl my_26 rfl ?_
        refine B_cV hE.1 rfl (wc_1 hT) cw_26_27 (as := [wr 3, wi n, wi i]) (rest := []) rfl (Nat.le_of_ble_eq_true rfl) (g_endOfCell hE hT h1.1) (fun vo s9 hq => ?_)
        obtain ⟨x9, rfl, hz10, rfl⟩ := hq
        show Bt E 26 137 [wr (T + 1), wr 3, wi n, wi a, wi i, wi o, wx, wx] [wi x9] s _
        refine B_top (fun r11 => ?_)
        refine B_istore rfl my_26 (by decide) rfl (show _ = [wr (T + 1), wr 3, wi n, wi a, wi i, wi o, wi x9, wx] from rfl) ?_
        refine B_aloadn rfl my_26 rfl ?_
        refine B_aloadn rfl my_26 rfl ?_
        refine B_iload rfl my_26 rfl ?_
        refine B_iload rfl my_26 rfl ?_
        refine B_cV hE.1 rfl (wc_1 hT) cw_26_28 (as := [wr 3, wi i, wi x9]) (rest := []) rfl (Nat.le_of_ble_eq_true rfl) (g_takeSigns hE hT h1.1 hXs.1 h1.2.2.2.2 (by omega) (by omega) (by omega) (by omega)) (fun vo s2 hq => ?_)
        obtain ⟨rfl, d2, hd2, hs2⟩ := hq
        have hA2 := hs2.1
        show Bt E 26 148 [wr (T + 1), wr 3, wi n, wi a, wi i, wi o, wi x9, wx] [] s2 _
        refine B_aloadn rfl my_26 rfl ?_
        refine B_iload rfl my_26 rfl ?_
        refine B_if_eq rfl my_26 rfl (tgt := 158) (nx := 154) rfl rfl (fun c12 => ?_) (fun c12 => ?_)
        · refine B_iload rfl my_26 rfl ?_
          refine B_iload rfl my_26 rfl ?_
          refine B_ic_le rfl my_26 rfl (tgt := 169) (nx := 165) rfl rfl (fun c13 => ?_) (fun c13 => ?_)
          · refine B_iconst rfl my_26 (by decide) ?_
            refine B_put hE.1 rfl my_26 rfl (wn_1_11 hT) (Or.inl rfl) ?_
            refine B_iload rfl my_26 rfl ?_
            refine B_iret rfl my_26 rfl ?_
            have hz := ts_tr h1 hs2
            exact ⟨_, d + d2, rfl, ⟨by omega, by omega, by omega, by omega⟩, ts_tf hz (by decide) (by decide)⟩
          · refine B_iconst rfl my_26 (by decide) ?_
            refine B_goto rfl my_26 rfl (tgt := 170) rfl ?_
            refine B_put hE.1 rfl my_26 rfl (wn_1_11 hT) (Or.inl rfl) ?_
            refine B_iload rfl my_26 rfl ?_
            refine B_iret rfl my_26 rfl ?_
            have hz := ts_tr h1 hs2
            exact ⟨_, d + d2, rfl, ⟨by omega, by omega, by omega, by omega⟩, ts_tf hz (by decide) (by decide)⟩
        · refine B_iconst rfl my_26 (by decide) ?_
          refine B_goto rfl my_26 rfl (tgt := 170) rfl ?_
          refine B_put hE.1 rfl my_26 rfl (wn_1_11 hT) (Or.inl rfl) ?_
          refine B_iload rfl my_26 rfl ?_
          refine B_iret rfl my_26 rfl ?_
          have hz := ts_tr h1 hs2
          exact ⟨_, d + d2, rfl, ⟨by omega, by omega, by omega, by omega⟩, ts_tf hz (by decide) (by decide)⟩
      · exact absurd hm (by omega)
  | succ k ih =>
    intro s i o d h1 h2 h3 h4 h5 h6 hm
    have h11 := tb_ge hT
    have hx2 := hX.2.1
    have hXs := tx_off hX h1.2.1 (by omega) (by omega)
    have hn := hXs.2
    have h17 := h1.2.2.2.1
    refine B_rng 2 rfl (fun ha2 => ?_)
    refine B_rng 3 rfl (fun ha3 => ?_)
    refine B_rng 4 rfl (fun ha4 => ?_)
    refine B_rng 5 rfl (fun ha5 => ?_)
    refine B_iload rfl my_26 rfl ?_
    refine B_if_eq rfl my_26 rfl (tgt := 129) (nx := 11) rfl rfl (fun c1 => ?_) (fun c1 => ?_)
    · refine B_aloadn rfl my_26 rfl ?_
      refine B_aloadn rfl my_26 rfl ?_
      refine B_iloadn rfl my_26 rfl ?_
      refine B_iload rfl my_26 rfl ?_
      refine B_cV hE.1 rfl (wc_1 hT) cw_26_27 (as := [wr 3, wi n, wi i]) (rest := []) rfl (Nat.le_of_ble_eq_true rfl) (g_endOfCell hE hT h1.1) (fun vo s9 hq => ?_)
      obtain ⟨x2, rfl, hz3, rfl⟩ := hq
      show Bt E 26 137 [wr (T + 1), wr 3, wi n, wi a, wi i, wi o, wx, wx] [wi x2] s _
      refine B_top (fun r4 => ?_)
      refine B_istore rfl my_26 (by decide) rfl (show _ = [wr (T + 1), wr 3, wi n, wi a, wi i, wi o, wi x2, wx] from rfl) ?_
      refine B_aloadn rfl my_26 rfl ?_
      refine B_aloadn rfl my_26 rfl ?_
      refine B_iload rfl my_26 rfl ?_
      refine B_iload rfl my_26 rfl ?_
      refine B_cV hE.1 rfl (wc_1 hT) cw_26_28 (as := [wr 3, wi i, wi x2]) (rest := []) rfl (Nat.le_of_ble_eq_true rfl) (g_takeSigns hE hT h1.1 hXs.1 h1.2.2.2.2 (by omega) (by omega) (by omega) (by omega)) (fun vo s2 hq => ?_)
      obtain ⟨rfl, d2, hd2, hs2⟩ := hq
      have hA2 := hs2.1
      show Bt E 26 148 [wr (T + 1), wr 3, wi n, wi a, wi i, wi o, wi x2, wx] [] s2 _
      refine B_aloadn rfl my_26 rfl ?_
      refine B_iload rfl my_26 rfl ?_
      refine B_if_eq rfl my_26 rfl (tgt := 158) (nx := 154) rfl rfl (fun c5 => ?_) (fun c5 => ?_)
      · refine B_iload rfl my_26 rfl ?_
        refine B_iload rfl my_26 rfl ?_
        refine B_ic_le rfl my_26 rfl (tgt := 169) (nx := 165) rfl rfl (fun c6 => ?_) (fun c6 => ?_)
        · refine B_iconst rfl my_26 (by decide) ?_
          refine B_put hE.1 rfl my_26 rfl (wn_1_11 hT) (Or.inl rfl) ?_
          refine B_iload rfl my_26 rfl ?_
          refine B_iret rfl my_26 rfl ?_
          have hz := ts_tr h1 hs2
          exact ⟨_, d + d2, rfl, ⟨by omega, by omega, by omega, by omega⟩, ts_tf hz (by decide) (by decide)⟩
        · refine B_iconst rfl my_26 (by decide) ?_
          refine B_goto rfl my_26 rfl (tgt := 170) rfl ?_
          refine B_put hE.1 rfl my_26 rfl (wn_1_11 hT) (Or.inl rfl) ?_
          refine B_iload rfl my_26 rfl ?_
          refine B_iret rfl my_26 rfl ?_
          have hz := ts_tr h1 hs2
          exact ⟨_, d + d2, rfl, ⟨by omega, by omega, by omega, by omega⟩, ts_tf hz (by decide) (by decide)⟩
      · refine B_iconst rfl my_26 (by decide) ?_
        refine B_goto rfl my_26 rfl (tgt := 170) rfl ?_
        refine B_put hE.1 rfl my_26 rfl (wn_1_11 hT) (Or.inl rfl) ?_
        refine B_iload rfl my_26 rfl ?_
        refine B_iret rfl my_26 rfl ?_
        have hz := ts_tr h1 hs2
        exact ⟨_, d + d2, rfl, ⟨by omega, by omega, by omega, by omega⟩, ts_tf hz (by decide) (by decide)⟩
    · refine B_iload rfl my_26 rfl ?_
      refine B_aloadn rfl my_26 rfl ?_
      refine B_int hE.1 rfl my_26 rfl rfl (h1.1 _ _) (fun r7 => ?_)
      refine B_ic_ge rfl my_26 rfl (tgt := 129) (nx := 20) rfl rfl (fun c8 => ?_) (fun c8 => ?_)
      · refine B_aloadn rfl my_26 rfl ?_
        refine B_aloadn rfl my_26 rfl ?_
        refine B_iloadn rfl my_26 rfl ?_
        refine B_iload rfl my_26 rfl ?_
        refine B_cV hE.1 rfl (wc_1 hT) cw_26_27 (as := [wr 3, wi n, wi i]) (rest := []) rfl (Nat.le_of_ble_eq_true rfl) (g_endOfCell hE hT h1.1) (fun vo s9 hq => ?_)
        obtain ⟨x9, rfl, hz10, rfl⟩ := hq
        show Bt E 26 137 [wr (T + 1), wr 3, wi n, wi a, wi i, wi o, wx, wx] [wi x9] s _
        refine B_top (fun r11 => ?_)
        refine B_istore rfl my_26 (by decide) rfl (show _ = [wr (T + 1), wr 3, wi n, wi a, wi i, wi o, wi x9, wx] from rfl) ?_
        refine B_aloadn rfl my_26 rfl ?_
        refine B_aloadn rfl my_26 rfl ?_
        refine B_iload rfl my_26 rfl ?_
        refine B_iload rfl my_26 rfl ?_
        refine B_cV hE.1 rfl (wc_1 hT) cw_26_28 (as := [wr 3, wi i, wi x9]) (rest := []) rfl (Nat.le_of_ble_eq_true rfl) (g_takeSigns hE hT h1.1 hXs.1 h1.2.2.2.2 (by omega) (by omega) (by omega) (by omega)) (fun vo s2 hq => ?_)
        obtain ⟨rfl, d2, hd2, hs2⟩ := hq
        have hA2 := hs2.1
        show Bt E 26 148 [wr (T + 1), wr 3, wi n, wi a, wi i, wi o, wi x9, wx] [] s2 _
        refine B_aloadn rfl my_26 rfl ?_
        refine B_iload rfl my_26 rfl ?_
        refine B_if_eq rfl my_26 rfl (tgt := 158) (nx := 154) rfl rfl (fun c12 => ?_) (fun c12 => ?_)
        · refine B_iload rfl my_26 rfl ?_
          refine B_iload rfl my_26 rfl ?_
          refine B_ic_le rfl my_26 rfl (tgt := 169) (nx := 165) rfl rfl (fun c13 => ?_) (fun c13 => ?_)
          · refine B_iconst rfl my_26 (by decide) ?_
            refine B_put hE.1 rfl my_26 rfl (wn_1_11 hT) (Or.inl rfl) ?_
            refine B_iload rfl my_26 rfl ?_
            refine B_iret rfl my_26 rfl ?_
            have hz := ts_tr h1 hs2
            exact ⟨_, d + d2, rfl, ⟨by omega, by omega, by omega, by omega⟩, ts_tf hz (by decide) (by decide)⟩
          · refine B_iconst rfl my_26 (by decide) ?_
            refine B_goto rfl my_26 rfl (tgt := 170) rfl ?_
            refine B_put hE.1 rfl my_26 rfl (wn_1_11 hT) (Or.inl rfl) ?_
            refine B_iload rfl my_26 rfl ?_
            refine B_iret rfl my_26 rfl ?_
            have hz := ts_tr h1 hs2
            exact ⟨_, d + d2, rfl, ⟨by omega, by omega, by omega, by omega⟩, ts_tf hz (by decide) (by decide)⟩
        · refine B_iconst rfl my_26 (by decide) ?_
          refine B_goto rfl my_26 rfl (tgt := 170) rfl ?_
          refine B_put hE.1 rfl my_26 rfl (wn_1_11 hT) (Or.inl rfl) ?_
          refine B_iload rfl my_26 rfl ?_
          refine B_iret rfl my_26 rfl ?_
          have hz := ts_tr h1 hs2
          exact ⟨_, d + d2, rfl, ⟨by omega, by omega, by omega, by omega⟩, ts_tf hz (by decide) (by decide)⟩
      · refine B_aloadn rfl my_26 rfl ?_
        refine B_ref hE.1 rfl my_26 rfl (r := 4) rfl ?_
        refine B_iload rfl my_26 rfl ?_
        refine B_cV hE.1 rfl nmc_4.1 cw_26_20 (as := [wi i]) (rest := []) rfl (Nat.le_of_ble_eq_true rfl) (g_at hE nmc_4 (by decide) (kr_of fun _ => h1.1 _ _)) (fun vo s9 hq => ?_)
        obtain ⟨rfl, rfl⟩ := hq
        show Bt E 26 29 [wr (T + 1), wr 3, wi n, wi a, wi i, wi o, wx, wx] [wi (rd s 4 500 i)] s _
        refine B_top (fun r14 => ?_)
        refine B_iconst rfl my_26 (by decide) ?_
        refine B_ic_ne rfl my_26 rfl (tgt := 37) (nx := 33) rfl rfl (fun c15 => ?_) (fun c15 => ?_)
        · refine B_iconst rfl my_26 (by decide) ?_
          refine B_istore rfl my_26 (by decide) rfl (show _ = [wr (T + 1), wr 3, wi n, wi a, wi i, wi o, wi 0, wx] from rfl) ?_
          refine B_iload rfl my_26 rfl ?_
          refine B_if_eq rfl my_26 rfl (tgt := 75) (nx := 45) rfl rfl (fun _ => ?_) (fun c9 => absurd c9 (by decide))
          show Bt E 26 75 [wr (T + 1), wr 3, wi n, wi a, wi i, wi o, wi 0, wx] [] s _
          refine B_iconst rfl my_26 (by decide) ?_
          refine B_istore rfl my_26 (by decide) rfl (show _ = [wr (T + 1), wr 3, wi n, wi a, wi i, wi o, wi 0, wi 0] from rfl) ?_
          refine B_iload rfl my_26 rfl ?_
          refine B_if_eq rfl my_26 rfl (tgt := 88) (nx := 83) rfl rfl (fun _ => ?_) (fun c9 => absurd c9 (by decide))
          show Bt E 26 88 [wr (T + 1), wr 3, wi n, wi a, wi i, wi o, wi 0, wi 0] [] s _
          refine B_iconst rfl my_26 (by decide) ?_
          refine B_goto rfl my_26 rfl (tgt := 93) rfl ?_
          refine B_istore rfl my_26 (by decide) rfl (show _ = [wr (T + 1), wr 3, wi n, wi a, wi i, wi 1, wi 0, wi 0] from rfl) ?_
          refine B_iload rfl my_26 rfl ?_
          refine B_if_eq rfl my_26 rfl (tgt := 111) (nx := 100) rfl rfl (fun c9 => absurd c9 (by decide)) (fun _ => ?_)
          show Bt E 26 100 [wr (T + 1), wr 3, wi n, wi a, wi i, wi 1, wi 0, wi 0] [] s _
          refine B_aloadn rfl my_26 rfl ?_
          refine B_aloadn rfl my_26 rfl ?_
          refine B_iload rfl my_26 rfl ?_
          refine B_iload rfl my_26 rfl ?_
          refine B_iconst rfl my_26 (by decide) ?_
          refine B_iadd rfl my_26 (by omega) (by omega) ?_
          refine B_cV hE.1 rfl (wc_1 hT) cw_26_28 (as := [wr 3, wi i, wi (i + 1)]) (rest := []) rfl (Nat.le_of_ble_eq_true rfl) (g_takeSigns hE hT h1.1 hXs.1 h1.2.2.2.2 (by omega) (by omega) (by omega) (by omega)) (fun vo s1 hq => ?_)
          obtain ⟨rfl, d1, hd1, hs1⟩ := hq
          have hA1 := hs1.1
          show Bt E 26 111 [wr (T + 1), wr 3, wi n, wi a, wi i, wi 1, wi 0, wi 0] [] s1 _
          refine B_iload rfl my_26 rfl ?_
          refine B_iload rfl my_26 rfl ?_
          refine B_if_eq rfl my_26 rfl (tgt := 122) (nx := 118) rfl rfl (fun _ => ?_) (fun c9 => absurd c9 (by decide))
          show Bt E 26 122 [wr (T + 1), wr 3, wi n, wi a, wi i, wi 1, wi 0, wi 0] [wi i] s1 _
          refine B_iconst rfl my_26 (by decide) ?_
          refine B_iadd rfl my_26 (by omega) (by omega) ?_
          refine B_istore rfl my_26 (by decide) rfl (show _ = [wr (T + 1), wr 3, wi n, wi a, wi (i + 1), wi 1, wi 0, wi 0] from rfl) ?_
          refine B_goto rfl my_26 rfl (tgt := 6) rfl ?_
          refine B_loc (l' := [wr (T + 1), wr 3, wi n, wi a, wi (i + 1), wi 1, wx, wx]) ⟨Or.inl rfl, Or.inl rfl, Or.inl rfl, Or.inl rfl, Or.inl rfl, Or.inl rfl, Or.inr rfl, Or.inr rfl, trivial⟩ ?_
          have hz := ts_tr h1 hs1
          exact ih _ _ _ _ hz (by omega) (by omega) (by omega) (by omega) (by omega) (by omega)
        · refine B_iconst rfl my_26 (by decide) ?_
          refine B_goto rfl my_26 rfl (tgt := 38) rfl ?_
          refine B_istore rfl my_26 (by decide) rfl (show _ = [wr (T + 1), wr 3, wi n, wi a, wi i, wi o, wi 1, wx] from rfl) ?_
          refine B_iload rfl my_26 rfl ?_
          refine B_if_eq rfl my_26 rfl (tgt := 75) (nx := 45) rfl rfl (fun c9 => absurd c9 (by decide)) (fun _ => ?_)
          show Bt E 26 45 [wr (T + 1), wr 3, wi n, wi a, wi i, wi o, wi 1, wx] [] s _
          refine B_iload rfl my_26 rfl ?_
          refine B_iconst rfl my_26 (by decide) ?_
          refine B_iadd rfl my_26 (by omega) (by omega) ?_
          refine B_aloadn rfl my_26 rfl ?_
          refine B_int hE.1 rfl my_26 rfl rfl (h1.1 _ _) (fun r21 => ?_)
          refine B_ic_ge rfl my_26 rfl (tgt := 75) (nx := 56) rfl rfl (fun c22 => ?_) (fun c22 => ?_)
          · refine B_iconst rfl my_26 (by decide) ?_
            refine B_istore rfl my_26 (by decide) rfl (show _ = [wr (T + 1), wr 3, wi n, wi a, wi i, wi o, wi 1, wi 0] from rfl) ?_
            refine B_iload rfl my_26 rfl ?_
            refine B_if_eq rfl my_26 rfl (tgt := 88) (nx := 83) rfl rfl (fun c9 => absurd c9 (by decide)) (fun _ => ?_)
            show Bt E 26 83 [wr (T + 1), wr 3, wi n, wi a, wi i, wi o, wi 1, wi 0] [] s _
            refine B_iload rfl my_26 rfl ?_
            refine B_if_eq rfl my_26 rfl (tgt := 92) (nx := 88) rfl rfl (fun _ => ?_) (fun c9 => absurd c9 (by decide))
            show Bt E 26 92 [wr (T + 1), wr 3, wi n, wi a, wi i, wi o, wi 1, wi 0] [] s _
            refine B_iconst rfl my_26 (by decide) ?_
            refine B_istore rfl my_26 (by decide) rfl (show _ = [wr (T + 1), wr 3, wi n, wi a, wi i, wi 0, wi 1, wi 0] from rfl) ?_
            refine B_iload rfl my_26 rfl ?_
            refine B_if_eq rfl my_26 rfl (tgt := 111) (nx := 100) rfl rfl (fun _ => ?_) (fun c9 => absurd c9 (by decide))
            show Bt E 26 111 [wr (T + 1), wr 3, wi n, wi a, wi i, wi 0, wi 1, wi 0] [] s _
            refine B_iload rfl my_26 rfl ?_
            refine B_iload rfl my_26 rfl ?_
            refine B_if_eq rfl my_26 rfl (tgt := 122) (nx := 118) rfl rfl (fun _ => ?_) (fun c9 => absurd c9 (by decide))
            show Bt E 26 122 [wr (T + 1), wr 3, wi n, wi a, wi i, wi 0, wi 1, wi 0] [wi i] s _
            refine B_iconst rfl my_26 (by decide) ?_
            refine B_iadd rfl my_26 (by omega) (by omega) ?_
            refine B_istore rfl my_26 (by decide) rfl (show _ = [wr (T + 1), wr 3, wi n, wi a, wi (i + 1), wi 0, wi 1, wi 0] from rfl) ?_
            refine B_goto rfl my_26 rfl (tgt := 6) rfl ?_
            refine B_loc (l' := [wr (T + 1), wr 3, wi n, wi a, wi (i + 1), wi 0, wx, wx]) ⟨Or.inl rfl, Or.inl rfl, Or.inl rfl, Or.inl rfl, Or.inl rfl, Or.inl rfl, Or.inr rfl, Or.inr rfl, trivial⟩ ?_
            exact ih _ _ _ _ h1 (by omega) (by omega) (by omega) (by omega) (by omega) (by omega)
          · refine B_aloadn rfl my_26 rfl ?_
            refine B_ref hE.1 rfl my_26 rfl (r := 4) rfl ?_
            refine B_iload rfl my_26 rfl ?_
            refine B_iconst rfl my_26 (by decide) ?_
            refine B_iadd rfl my_26 (by omega) (by omega) ?_
            refine B_cV hE.1 rfl nmc_4.1 cw_26_20 (as := [wi (i + 1)]) (rest := []) rfl (Nat.le_of_ble_eq_true rfl) (g_at hE nmc_4 (by decide) (kr_of fun _ => h1.1 _ _)) (fun vo s9 hq => ?_)
            obtain ⟨rfl, rfl⟩ := hq
            show Bt E 26 67 [wr (T + 1), wr 3, wi n, wi a, wi i, wi o, wi 1, wx] [wi (rd s 4 500 (i + 1))] s _
            refine B_top (fun r27 => ?_)
            refine B_iconst rfl my_26 (by decide) ?_
            refine B_ic_ne rfl my_26 rfl (tgt := 75) (nx := 71) rfl rfl (fun c28 => ?_) (fun c28 => ?_)
            · refine B_iconst rfl my_26 (by decide) ?_
              refine B_istore rfl my_26 (by decide) rfl (show _ = [wr (T + 1), wr 3, wi n, wi a, wi i, wi o, wi 1, wi 0] from rfl) ?_
              refine B_iload rfl my_26 rfl ?_
              refine B_if_eq rfl my_26 rfl (tgt := 88) (nx := 83) rfl rfl (fun c9 => absurd c9 (by decide)) (fun _ => ?_)
              show Bt E 26 83 [wr (T + 1), wr 3, wi n, wi a, wi i, wi o, wi 1, wi 0] [] s _
              refine B_iload rfl my_26 rfl ?_
              refine B_if_eq rfl my_26 rfl (tgt := 92) (nx := 88) rfl rfl (fun _ => ?_) (fun c9 => absurd c9 (by decide))
              show Bt E 26 92 [wr (T + 1), wr 3, wi n, wi a, wi i, wi o, wi 1, wi 0] [] s _
              refine B_iconst rfl my_26 (by decide) ?_
              refine B_istore rfl my_26 (by decide) rfl (show _ = [wr (T + 1), wr 3, wi n, wi a, wi i, wi 0, wi 1, wi 0] from rfl) ?_
              refine B_iload rfl my_26 rfl ?_
              refine B_if_eq rfl my_26 rfl (tgt := 111) (nx := 100) rfl rfl (fun _ => ?_) (fun c9 => absurd c9 (by decide))
              show Bt E 26 111 [wr (T + 1), wr 3, wi n, wi a, wi i, wi 0, wi 1, wi 0] [] s _
              refine B_iload rfl my_26 rfl ?_
              refine B_iload rfl my_26 rfl ?_
              refine B_if_eq rfl my_26 rfl (tgt := 122) (nx := 118) rfl rfl (fun _ => ?_) (fun c9 => absurd c9 (by decide))
              show Bt E 26 122 [wr (T + 1), wr 3, wi n, wi a, wi i, wi 0, wi 1, wi 0] [wi i] s _
              refine B_iconst rfl my_26 (by decide) ?_
              refine B_iadd rfl my_26 (by omega) (by omega) ?_
              refine B_istore rfl my_26 (by decide) rfl (show _ = [wr (T + 1), wr 3, wi n, wi a, wi (i + 1), wi 0, wi 1, wi 0] from rfl) ?_
              refine B_goto rfl my_26 rfl (tgt := 6) rfl ?_
              refine B_loc (l' := [wr (T + 1), wr 3, wi n, wi a, wi (i + 1), wi 0, wx, wx]) ⟨Or.inl rfl, Or.inl rfl, Or.inl rfl, Or.inl rfl, Or.inl rfl, Or.inl rfl, Or.inr rfl, Or.inr rfl, trivial⟩ ?_
              exact ih _ _ _ _ h1 (by omega) (by omega) (by omega) (by omega) (by omega) (by omega)
            · refine B_iconst rfl my_26 (by decide) ?_
              refine B_goto rfl my_26 rfl (tgt := 76) rfl ?_
              refine B_istore rfl my_26 (by decide) rfl (show _ = [wr (T + 1), wr 3, wi n, wi a, wi i, wi o, wi 1, wi 1] from rfl) ?_
              refine B_iload rfl my_26 rfl ?_
              refine B_if_eq rfl my_26 rfl (tgt := 88) (nx := 83) rfl rfl (fun c9 => absurd c9 (by decide)) (fun _ => ?_)
              show Bt E 26 83 [wr (T + 1), wr 3, wi n, wi a, wi i, wi o, wi 1, wi 1] [] s _
              refine B_iload rfl my_26 rfl ?_
              refine B_if_eq rfl my_26 rfl (tgt := 92) (nx := 88) rfl rfl (fun c9 => absurd c9 (by decide)) (fun _ => ?_)
              show Bt E 26 88 [wr (T + 1), wr 3, wi n, wi a, wi i, wi o, wi 1, wi 1] [] s _
              refine B_iconst rfl my_26 (by decide) ?_
              refine B_goto rfl my_26 rfl (tgt := 93) rfl ?_
              refine B_istore rfl my_26 (by decide) rfl (show _ = [wr (T + 1), wr 3, wi n, wi a, wi i, wi 1, wi 1, wi 1] from rfl) ?_
              refine B_iload rfl my_26 rfl ?_
              refine B_if_eq rfl my_26 rfl (tgt := 111) (nx := 100) rfl rfl (fun c9 => absurd c9 (by decide)) (fun _ => ?_)
              show Bt E 26 100 [wr (T + 1), wr 3, wi n, wi a, wi i, wi 1, wi 1, wi 1] [] s _
              refine B_aloadn rfl my_26 rfl ?_
              refine B_aloadn rfl my_26 rfl ?_
              refine B_iload rfl my_26 rfl ?_
              refine B_iload rfl my_26 rfl ?_
              refine B_iconst rfl my_26 (by decide) ?_
              refine B_iadd rfl my_26 (by omega) (by omega) ?_
              refine B_cV hE.1 rfl (wc_1 hT) cw_26_28 (as := [wr 3, wi i, wi (i + 1)]) (rest := []) rfl (Nat.le_of_ble_eq_true rfl) (g_takeSigns hE hT h1.1 hXs.1 h1.2.2.2.2 (by omega) (by omega) (by omega) (by omega)) (fun vo s1 hq => ?_)
              obtain ⟨rfl, d1, hd1, hs1⟩ := hq
              have hA1 := hs1.1
              show Bt E 26 111 [wr (T + 1), wr 3, wi n, wi a, wi i, wi 1, wi 1, wi 1] [] s1 _
              refine B_iload rfl my_26 rfl ?_
              refine B_iload rfl my_26 rfl ?_
              refine B_if_eq rfl my_26 rfl (tgt := 122) (nx := 118) rfl rfl (fun c9 => absurd c9 (by decide)) (fun _ => ?_)
              show Bt E 26 118 [wr (T + 1), wr 3, wi n, wi a, wi i, wi 1, wi 1, wi 1] [wi i] s1 _
              refine B_iconst rfl my_26 (by decide) ?_
              refine B_goto rfl my_26 rfl (tgt := 123) rfl ?_
              refine B_iadd rfl my_26 (by omega) (by omega) ?_
              refine B_istore rfl my_26 (by decide) rfl (show _ = [wr (T + 1), wr 3, wi n, wi a, wi (i + 2), wi 1, wi 1, wi 1] from rfl) ?_
              refine B_goto rfl my_26 rfl (tgt := 6) rfl ?_
              refine B_loc (l' := [wr (T + 1), wr 3, wi n, wi a, wi (i + 2), wi 1, wx, wx]) ⟨Or.inl rfl, Or.inl rfl, Or.inl rfl, Or.inl rfl, Or.inl rfl, Or.inl rfl, Or.inr rfl, Or.inr rfl, trivial⟩ ?_
              have hz := ts_tr h1 hs1
              exact ih _ _ _ _ hz (by omega) (by omega) (by omega) (by omega) (by omega) (by omega)
theorem g_readQuoted {E : mE} {σ : wSt} {T : Nat} (hE : wE E) (hT : Tb T) (hA : Al σ) (hX : TX σ) (hS : ∀ i, 0 ≤ rd σ (T + 2) 500 i) {n a : Int} (q0 : 0 ≤ a) (q1 : a ≤ gv σ 3 1) (hc : 0 ≤ gv σ (T + 1) 7) (hc2 : gv σ (T + 1) 7 ≤ a) : Fn E 26 [wr (T + 1), wr 3, wi n, wi a] σ (fun vo s => ∃ x d, vo = some (wi x) ∧ (a ≤ x ∧ x ≤ gv σ 3 1 ∧ 0 ≤ d ∧ d ≤ x - a) ∧ TF T σ s d) := by
  refine Fn.of (nL := 8) ?_
  show Bt E 26 0 [wr (T + 1), wr 3, wi n, wi a, wx, wx, wx, wx] [] σ _
  refine B_rng 2 rfl (fun ha2 => ?_)
  refine B_rng 3 rfl (fun ha3 => ?_)
  refine B_iloadn rfl my_26 rfl ?_
  refine B_istore rfl my_26 (by decide) rfl (show _ = [wr (T + 1), wr 3, wi n, wi a, wi a, wx, wx, wx] from rfl) ?_
  refine B_iconst rfl my_26 (by decide) ?_
  refine B_istore rfl my_26 (by decide) rfl (show _ = [wr (T + 1), wr 3, wi n, wi a, wi a, wi 1, wx, wx] from rfl) ?_
  exact l_readQuoted hE hT hA hX hS q0 q1 hc hc2 _ σ a 1 0 ⟨hA, Off.rf, fun _ _ => rfl, by omega, hS⟩ (by omega) (by omega) (by omega) (by omega) (by omega) (Nat.le_refl _)
