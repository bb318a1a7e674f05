/-! ===== the text is read; the parter is guessed ===== -/
theorem cw_111_112 : wcV 111 0 112 6 0 0 = true := by decide +kernel
theorem cw_111_23 : wcV 111 0 23 2 2 2 = true := by decide +kernel
theorem cw_113_110 : wcV 113 0 110 6 1 1 = true := by decide +kernel
theorem cw_113_34 : wcV 113 0 34 2 0 0 = true := by decide +kernel
theorem cw_23_20 : wcV 23 0 20 1 1 1 = true := by decide +kernel
theorem cw_23_24 : wcV 23 0 24 2 2 2 = true := by decide +kernel
theorem cw_23_25 : wcV 23 0 25 2 3 3 = true := by decide +kernel
theorem cw_23_26 : wcV 23 0 26 2 3 3 = true := by decide +kernel
theorem cw_23_29 : wcV 23 0 29 2 2 2 = true := by decide +kernel
theorem cw_23_30 : wcV 23 0 30 2 0 0 = true := by decide +kernel
theorem cw_23_31 : wcV 23 0 31 2 0 0 = true := by decide +kernel
theorem tb11 : Tb 11 := Or.inl rfl
theorem tb46 : Tb 46 := Or.inr (Or.inl rfl)
theorem tb81 : Tb 81 := Or.inr (Or.inr (Or.inl rfl))
theorem tb116 : Tb 116 := Or.inr (Or.inr (Or.inr rfl))
theorem rj_mono {T : Nat} {σ : wSt} {k q q2 : Int} (h : RJ T σ k q) (hq : q ≤ q2) : RJ T σ k q2 := by
  obtain ⟨h1, h2, h3, h4⟩ := h
  exact ⟨by omega, h2, h3, h4⟩
theorem ri_off {T : Nat} {σ s : wSt} {R : Nat → Prop} (h : RI T σ) (ho : Off R σ s) (hR : ∀ a, T + 1 ≤ a → a ≤ T + 15 → ¬ R a) : RI T s := by
  obtain ⟨h1, h2, h3, h4, h5, h6, h7⟩ := h
  have g : ∀ b, gv s (T + 1) b = gv σ (T + 1) b := fun b => off_gv ho (hR _ (by omega) (by omega))
  have r : ∀ k i, 2 ≤ k → k ≤ 14 → ∀ len, rd s (T + k) len i = rd σ (T + k) len i := fun k i k1 k2 len => off_rd ho (hR _ (by omega) (by omega))
  refine ⟨?_, fun x hr1 hr2 => ?_, fun c hc1 hc2 => ?_, ⟨fun i => ?_, fun x z z1 z2 z3 => ?_⟩, fun g1 => ?_, fun g1 => ?_, ?_⟩
  · rw [g, g]; exact h1
  · rw [g] at hr2
    rw [g, r 14 _ (by decide) (by decide), r 12 _ (by decide) (by decide)]
    exact h2 x hr1 hr2
  · rw [g] at hc2
    rw [r 6 _ (by decide) (by decide), r 4 _ (by decide) (by decide), r 10 _ (by decide) (by decide), r 8 _ (by decide) (by decide)]
    exact h3 c hc1 hc2
  · rw [r 2 _ (by decide) (by decide)]; exact h4.1 i
  · rw [g] at z3
    rw [r 12 _ (by decide) (by decide), r 14 _ (by decide) (by decide), r 12 _ (by decide) (by decide)]
    exact h4.2 x z z1 z2 z3
  · rw [g] at g1
    rw [g, g]
    exact h5 g1
  · rw [g] at g1
    obtain ⟨x, x1, x2, x3⟩ := h6 g1
    exact ⟨x, x1, by rw [g]; exact x2, by rw [g, r 14 _ (by decide) (by decide)]; exact x3⟩
  · rw [g, g]; exact h7
theorem l_read {E : mE} {σ : wSt} {T : Nat} (hE : wE E) (hT : Tb T) (hX : TX σ) {n : Int} : ∀ (k : Nat) (s : wSt) (q k9 : Int), Al s → Off (Rr T) σ s → RJ T s k9 q → 0 ≤ q → q ≤ gv σ 3 1 + 1 → (q = gv σ 3 1 + 1 → gv s (T + 1) 10 = 0) → 0 ≤ k9 → k9 ≤ 501 → (501 - k9).toNat ≤ k → Bt E 23 25 [wr (T + 1), wr 3, wi n, wi q, wi k9, wx, wx] [] s (fun vo t => vo = none ∧ Al t ∧ Off (Rr T) σ t ∧ RI T t) := by
  intro k
  induction k with
  | zero =>
    intro s q k9 h1 h2 h3 h4 h5 h6 h7 h8 hm
    have h11 := tb_ge hT
    have hXs := tx_off hX h2 (fun e => by have := e.1; omega) (fun e => by have := e.1; omega)
    have hn := hXs.2
    have hx2 := hX.2.1
    have hx0 := hX.1
    have j1 := h3.1
    refine B_rng 2 rfl (fun ha2 => ?_)
    refine B_rng 3 rfl (fun ha3 => ?_)
    refine B_rng 4 rfl (fun ha4 => ?_)
    refine B_iload rfl my_23 rfl ?_
    refine B_sipush rfl my_23 (n := 501) rfl ?_
    refine B_ic_ge rfl my_23 rfl (tgt := 141) (nx := 33) rfl rfl (fun c1 => ?_) (fun c1 => ?_)
    · refine B_aloadn rfl my_23 rfl ?_
      refine B_cV hE.1 rfl (wc_1 hT) cw_23_31 (as := []) (rest := []) rfl (Nat.le_of_ble_eq_true rfl) (g_findUsualWidth hE hT h1 h3 (by omega)) (fun vo s9 hq => ?_)
      obtain ⟨rfl, y1, y2, y3⟩ := hq
      show Bt E 23 145 [wr (T + 1), wr 3, wi n, wi q, wi k9, wx, wx] [] s9 _
      refine B_ret rfl my_23 rfl ?_
      exact ⟨rfl, y1, h2.tr y2, y3⟩
    · exact absurd hm (by omega)
  | succ k ih =>
    intro s q k9 h1 h2 h3 h4 h5 h6 h7 h8 hm
    have h11 := tb_ge hT
    have hXs := tx_off hX h2 (fun e => by have := e.1; omega) (fun e => by have := e.1; omega)
    have hn := hXs.2
    have hx2 := hX.2.1
    have hx0 := hX.1
    have j1 := h3.1
    refine B_rng 2 rfl (fun ha2 => ?_)
    refine B_rng 3 rfl (fun ha3 => ?_)
    refine B_rng 4 rfl (fun ha4 => ?_)
    refine B_iload rfl my_23 rfl ?_
    refine B_sipush rfl my_23 (n := 501) rfl ?_
    refine B_ic_ge rfl my_23 rfl (tgt := 141) (nx := 33) rfl rfl (fun c1 => ?_) (fun c1 => ?_)
    · refine B_aloadn rfl my_23 rfl ?_
      refine B_cV hE.1 rfl (wc_1 hT) cw_23_31 (as := []) (rest := []) rfl (Nat.le_of_ble_eq_true rfl) (g_findUsualWidth hE hT h1 h3 (by omega)) (fun vo s9 hq => ?_)
      obtain ⟨rfl, y1, y2, y3⟩ := hq
      show Bt E 23 145 [wr (T + 1), wr 3, wi n, wi q, wi k9, wx, wx] [] s9 _
      refine B_ret rfl my_23 rfl ?_
      exact ⟨rfl, y1, h2.tr y2, y3⟩
    · refine B_aloadn rfl my_23 rfl ?_
      refine B_aloadn rfl my_23 rfl ?_
      refine B_iloadn rfl my_23 rfl ?_
      refine B_cV hE.1 rfl (wc_1 hT) cw_23_24 (as := [wr 3, wi q]) (rest := []) rfl (Nat.le_of_ble_eq_true rfl) (g_isMoreToRead hE hT h1) (fun vo s9 hq => ?_)
      obtain ⟨x2, rfl, ⟨m1, m2⟩, rfl⟩ := hq
      show Bt E 23 39 [wr (T + 1), wr 3, wi n, wi q, wi k9, wx, wx] [wi x2] s _
      refine B_top (fun r4 => ?_)
      refine B_if_eq rfl my_23 rfl (tgt := 141) (nx := 42) rfl rfl (fun c5 => ?_) (fun c5 => ?_)
      · refine B_aloadn rfl my_23 rfl ?_
        refine B_cV hE.1 rfl (wc_1 hT) cw_23_31 (as := []) (rest := []) rfl (Nat.le_of_ble_eq_true rfl) (g_findUsualWidth hE hT h1 h3 (by omega)) (fun vo s9 hq => ?_)
        obtain ⟨rfl, y1, y2, y3⟩ := hq
        show Bt E 23 145 [wr (T + 1), wr 3, wi n, wi q, wi k9, wx, wx] [] s9 _
        refine B_ret rfl my_23 rfl ?_
        exact ⟨rfl, y1, h2.tr y2, y3⟩
      · refine B_aloadn rfl my_23 rfl ?_
        refine B_int hE.1 rfl my_23 rfl (wn_1_7 hT) (h1 _ _) (fun r6 => ?_)
        refine B_istore rfl my_23 (by decide) rfl (show _ = [wr (T + 1), wr 3, wi n, wi q, wi k9, wi (gv s (T + 1) 7), wx] from rfl) ?_
        refine B_iloadn rfl my_23 rfl ?_
        refine B_aloadn rfl my_23 rfl ?_
        refine B_int hE.1 rfl my_23 rfl rfl (h1 _ _) (fun r7 => ?_)
        refine B_ic_ge rfl my_23 rfl (tgt := 72) (nx := 56) rfl rfl (fun c8 => ?_) (fun c8 => ?_)
        · refine B_iconst rfl my_23 (by decide) ?_
          refine B_istore rfl my_23 (by decide) rfl (show _ = [wr (T + 1), wr 3, wi n, wi q, wi k9, wi (gv s (T + 1) 7), wi 0] from rfl) ?_
          refine B_iload rfl my_23 rfl ?_
          refine B_if_eq rfl my_23 rfl (tgt := 92) (nx := 80) rfl rfl (fun _ => ?_) (fun c9 => absurd c9 (by decide))
          show Bt E 23 92 [wr (T + 1), wr 3, wi n, wi q, wi k9, wi (gv s (T + 1) 7), wi 0] [] s _
          refine B_aloadn rfl my_23 rfl ?_
          refine B_aloadn rfl my_23 rfl ?_
          refine B_iloadn rfl my_23 rfl ?_
          refine B_iloadn rfl my_23 rfl ?_
          refine B_cV hE.1 rfl (wc_1 hT) cw_23_25 (as := [wr 3, wi n, wi q]) (rest := []) rfl (Nat.le_of_ble_eq_true rfl) (g_readPlain hE hT h1 hXs.1 h3.2.2.2.1 (by omega) (by omega) h3.1.2.2.2.2.2.2.2.1 (by omega)) (fun vo s1 hq => ?_)
          obtain ⟨x, d, rfl, hx, hs1⟩ := hq
          have hA1 := hs1.1
          obtain ⟨hJ1, f7, fa, fb, f10, f9⟩ := rj_tf h3 hs1 (q2 := x) (by omega) (by omega) (by omega)
          have hn1 := off_gv (b := 1) hs1.2.1 (show ¬ (3 = T + 1 ∨ 3 = T + 3) by omega)
          show Bt E 23 99 [wr (T + 1), wr 3, wi n, wi q, wi k9, wi (gv s (T + 1) 7), wi 0] [wi x] s1 _
          refine B_top (fun r10 => ?_)
          refine B_istoren rfl my_23 (by decide) rfl (show _ = [wr (T + 1), wr 3, wi n, wi x, wi k9, wi (gv s (T + 1) 7), wi 0] from rfl) ?_
          refine B_aloadn rfl my_23 rfl ?_
          refine B_iload rfl my_23 rfl ?_
          refine B_iload rfl my_23 rfl ?_
          refine B_cV hE.1 rfl (wc_1 hT) cw_23_29 (as := [wi (gv s (T + 1) 7), wi 0]) (rest := []) rfl (Nat.le_of_ble_eq_true rfl) (g_closeCell hE hT hA1 hJ1 (by omega) (by omega) (by omega) (by omega) ⟨fa, fb⟩) (fun vo s2 hq => ?_)
          obtain ⟨rfl, hA2, o2, hJ2, z9, z10⟩ := hq
          have hn2 := off_gv (b := 1) o2 (show ¬ Rr T 3 from fun e => by have := e.1; omega)
          show Bt E 23 108 [wr (T + 1), wr 3, wi n, wi x, wi k9, wi (gv s (T + 1) 7), wi 0] [] s2 _
          refine B_iloadn rfl my_23 rfl ?_
          refine B_aloadn rfl my_23 rfl ?_
          refine B_int hE.1 rfl my_23 rfl rfl (hA2 _ _) (fun r11 => ?_)
          refine B_ic_ge rfl my_23 rfl (tgt := 128) (nx := 116) rfl rfl (fun c12 => ?_) (fun c12 => ?_)
          · refine B_aloadn rfl my_23 rfl ?_
            refine B_cV hE.1 rfl (wc_1 hT) cw_23_30 (as := []) (rest := []) rfl (Nat.le_of_ble_eq_true rfl) (g_closeRow hE hT hA2 hJ2 (by omega) (by omega) (by have := hJ1.1; omega)) (fun vo s3 hq => ?_)
            obtain ⟨rfl, hA3, o3, hJ3, z0⟩ := hq
            show Bt E 23 132 [wr (T + 1), wr 3, wi n, wi x, wi k9, wi (gv s (T + 1) 7), wi 0] [] s3 _
            refine B_iinc rfl my_23 (by decide) rfl rfl rfl (by omega) (by omega) (show _ = [wr (T + 1), wr 3, wi n, wi (x + 1), wi k9, wi (gv s (T + 1) 7), wi 0] from rfl) ?_
            refine B_iinc rfl my_23 (by decide) rfl rfl rfl (by omega) (by omega) (show _ = [wr (T + 1), wr 3, wi n, wi (x + 1), wi (k9 + 1), wi (gv s (T + 1) 7), wi 0] from rfl) ?_
            refine B_goto rfl my_23 rfl (tgt := 25) rfl ?_
            refine B_loc (l' := [wr (T + 1), wr 3, wi n, wi (x + 1), wi (k9 + 1), wx, wx]) ⟨Or.inl rfl, Or.inl rfl, Or.inl rfl, Or.inl rfl, Or.inl rfl, Or.inr rfl, Or.inr rfl, trivial⟩ ?_
            exact ih _ _ _ hA3 (((h2.tr (hs1.2.1.mono (R' := Rr T) (fun a e => ⟨by omega, by omega⟩))).tr o2).tr o3) (rj_mono hJ3 (by omega)) (by omega) (by omega) (fun e => z0) (by omega) (by omega) (by omega)
          · refine B_aloadn rfl my_23 rfl ?_
            refine B_ref hE.1 rfl my_23 rfl (r := 4) rfl ?_
            refine B_iloadn rfl my_23 rfl ?_
            refine B_cV hE.1 rfl nmc_4.1 cw_23_20 (as := [wi x]) (rest := []) rfl (Nat.le_of_ble_eq_true rfl) (g_at hE nmc_4 (by decide) (kr_of fun _ => hA2 _ _)) (fun vo s9 hq => ?_)
            obtain ⟨rfl, rfl⟩ := hq
            show Bt E 23 124 [wr (T + 1), wr 3, wi n, wi x, wi k9, wi (gv s (T + 1) 7), wi 0] [wi (rd s2 4 500 x)] s2 _
            refine B_top (fun r13 => ?_)
            refine B_iloadn rfl my_23 rfl ?_
            refine B_ic_eq rfl my_23 rfl (tgt := 132) (nx := 128) rfl rfl (fun c14 => ?_) (fun c14 => ?_)
            · refine B_iinc rfl my_23 (by decide) rfl rfl rfl (by omega) (by omega) (show _ = [wr (T + 1), wr 3, wi n, wi (x + 1), wi k9, wi (gv s (T + 1) 7), wi 0] from rfl) ?_
              refine B_iinc rfl my_23 (by decide) rfl rfl rfl (by omega) (by omega) (show _ = [wr (T + 1), wr 3, wi n, wi (x + 1), wi (k9 + 1), wi (gv s (T + 1) 7), wi 0] from rfl) ?_
              refine B_goto rfl my_23 rfl (tgt := 25) rfl ?_
              refine B_loc (l' := [wr (T + 1), wr 3, wi n, wi (x + 1), wi (k9 + 1), wx, wx]) ⟨Or.inl rfl, Or.inl rfl, Or.inl rfl, Or.inl rfl, Or.inl rfl, Or.inr rfl, Or.inr rfl, trivial⟩ ?_
              exact ih _ _ _ hA2 ((h2.tr (hs1.2.1.mono (R' := Rr T) (fun a e => ⟨by omega, by omega⟩))).tr o2) (rj_mono hJ2 (by omega)) (by omega) (by omega) (fun e => by omega) (by omega) (by omega) (by omega)
            · refine B_aloadn rfl my_23 rfl ?_
              refine B_cV hE.1 rfl (wc_1 hT) cw_23_30 (as := []) (rest := []) rfl (Nat.le_of_ble_eq_true rfl) (g_closeRow hE hT hA2 hJ2 (by omega) (by omega) (by have := hJ1.1; omega)) (fun vo s3 hq => ?_)
              obtain ⟨rfl, hA3, o3, hJ3, z0⟩ := hq
              show Bt E 23 132 [wr (T + 1), wr 3, wi n, wi x, wi k9, wi (gv s (T + 1) 7), wi 0] [] s3 _
              refine B_iinc rfl my_23 (by decide) rfl rfl rfl (by omega) (by omega) (show _ = [wr (T + 1), wr 3, wi n, wi (x + 1), wi k9, wi (gv s (T + 1) 7), wi 0] from rfl) ?_
              refine B_iinc rfl my_23 (by decide) rfl rfl rfl (by omega) (by omega) (show _ = [wr (T + 1), wr 3, wi n, wi (x + 1), wi (k9 + 1), wi (gv s (T + 1) 7), wi 0] from rfl) ?_
              refine B_goto rfl my_23 rfl (tgt := 25) rfl ?_
              refine B_loc (l' := [wr (T + 1), wr 3, wi n, wi (x + 1), wi (k9 + 1), wx, wx]) ⟨Or.inl rfl, Or.inl rfl, Or.inl rfl, Or.inl rfl, Or.inl rfl, Or.inr rfl, Or.inr rfl, trivial⟩ ?_
              exact ih _ _ _ hA3 (((h2.tr (hs1.2.1.mono (R' := Rr T) (fun a e => ⟨by omega, by omega⟩))).tr o2).tr o3) (rj_mono hJ3 (by omega)) (by omega) (by omega) (fun e => z0) (by omega) (by omega) (by omega)
        · refine B_aloadn rfl my_23 rfl ?_
          refine B_ref hE.1 rfl my_23 rfl (r := 4) rfl ?_
          refine B_iloadn rfl my_23 rfl ?_
          refine B_cV hE.1 rfl nmc_4.1 cw_23_20 (as := [wi q]) (rest := []) rfl (Nat.le_of_ble_eq_true rfl) (g_at hE nmc_4 (by decide) (kr_of fun _ => h1 _ _)) (fun vo s9 hq => ?_)
          obtain ⟨rfl, rfl⟩ := hq
          show Bt E 23 64 [wr (T + 1), wr 3, wi n, wi q, wi k9, wi (gv s (T + 1) 7), wx] [wi (rd s 4 500 q)] s _
          refine B_top (fun r15 => ?_)
          refine B_iconst rfl my_23 (by decide) ?_
          refine B_ic_ne rfl my_23 rfl (tgt := 72) (nx := 68) rfl rfl (fun c16 => ?_) (fun c16 => ?_)
          · refine B_iconst rfl my_23 (by decide) ?_
            refine B_istore rfl my_23 (by decide) rfl (show _ = [wr (T + 1), wr 3, wi n, wi q, wi k9, wi (gv s (T + 1) 7), wi 0] from rfl) ?_
            refine B_iload rfl my_23 rfl ?_
            refine B_if_eq rfl my_23 rfl (tgt := 92) (nx := 80) rfl rfl (fun _ => ?_) (fun c9 => absurd c9 (by decide))
            show Bt E 23 92 [wr (T + 1), wr 3, wi n, wi q, wi k9, wi (gv s (T + 1) 7), wi 0] [] s _
            refine B_aloadn rfl my_23 rfl ?_
            refine B_aloadn rfl my_23 rfl ?_
            refine B_iloadn rfl my_23 rfl ?_
            refine B_iloadn rfl my_23 rfl ?_
            refine B_cV hE.1 rfl (wc_1 hT) cw_23_25 (as := [wr 3, wi n, wi q]) (rest := []) rfl (Nat.le_of_ble_eq_true rfl) (g_readPlain hE hT h1 hXs.1 h3.2.2.2.1 (by omega) (by omega) h3.1.2.2.2.2.2.2.2.1 (by omega)) (fun vo s1 hq => ?_)
            obtain ⟨x, d, rfl, hx, hs1⟩ := hq
            have hA1 := hs1.1
            obtain ⟨hJ1, f7, fa, fb, f10, f9⟩ := rj_tf h3 hs1 (q2 := x) (by omega) (by omega) (by omega)
            have hn1 := off_gv (b := 1) hs1.2.1 (show ¬ (3 = T + 1 ∨ 3 = T + 3) by omega)
            show Bt E 23 99 [wr (T + 1), wr 3, wi n, wi q, wi k9, wi (gv s (T + 1) 7), wi 0] [wi x] s1 _
            refine B_top (fun r18 => ?_)
            refine B_istoren rfl my_23 (by decide) rfl (show _ = [wr (T + 1), wr 3, wi n, wi x, wi k9, wi (gv s (T + 1) 7), wi 0] from rfl) ?_
            refine B_aloadn rfl my_23 rfl ?_
            refine B_iload rfl my_23 rfl ?_
            refine B_iload rfl my_23 rfl ?_
            refine B_cV hE.1 rfl (wc_1 hT) cw_23_29 (as := [wi (gv s (T + 1) 7), wi 0]) (rest := []) rfl (Nat.le_of_ble_eq_true rfl) (g_closeCell hE hT hA1 hJ1 (by omega) (by omega) (by omega) (by omega) ⟨fa, fb⟩) (fun vo s2 hq => ?_)
            obtain ⟨rfl, hA2, o2, hJ2, z9, z10⟩ := hq
            have hn2 := off_gv (b := 1) o2 (show ¬ Rr T 3 from fun e => by have := e.1; omega)
            show Bt E 23 108 [wr (T + 1), wr 3, wi n, wi x, wi k9, wi (gv s (T + 1) 7), wi 0] [] s2 _
            refine B_iloadn rfl my_23 rfl ?_
            refine B_aloadn rfl my_23 rfl ?_
            refine B_int hE.1 rfl my_23 rfl rfl (hA2 _ _) (fun r19 => ?_)
            refine B_ic_ge rfl my_23 rfl (tgt := 128) (nx := 116) rfl rfl (fun c20 => ?_) (fun c20 => ?_)
            · refine B_aloadn rfl my_23 rfl ?_
              refine B_cV hE.1 rfl (wc_1 hT) cw_23_30 (as := []) (rest := []) rfl (Nat.le_of_ble_eq_true rfl) (g_closeRow hE hT hA2 hJ2 (by omega) (by omega) (by have := hJ1.1; omega)) (fun vo s3 hq => ?_)
              obtain ⟨rfl, hA3, o3, hJ3, z0⟩ := hq
              show Bt E 23 132 [wr (T + 1), wr 3, wi n, wi x, wi k9, wi (gv s (T + 1) 7), wi 0] [] s3 _
              refine B_iinc rfl my_23 (by decide) rfl rfl rfl (by omega) (by omega) (show _ = [wr (T + 1), wr 3, wi n, wi (x + 1), wi k9, wi (gv s (T + 1) 7), wi 0] from rfl) ?_
              refine B_iinc rfl my_23 (by decide) rfl rfl rfl (by omega) (by omega) (show _ = [wr (T + 1), wr 3, wi n, wi (x + 1), wi (k9 + 1), wi (gv s (T + 1) 7), wi 0] from rfl) ?_
              refine B_goto rfl my_23 rfl (tgt := 25) rfl ?_
              refine B_loc (l' := [wr (T + 1), wr 3, wi n, wi (x + 1), wi (k9 + 1), wx, wx]) ⟨Or.inl rfl, Or.inl rfl, Or.inl rfl, Or.inl rfl, Or.inl rfl, Or.inr rfl, Or.inr rfl, trivial⟩ ?_
              exact ih _ _ _ hA3 (((h2.tr (hs1.2.1.mono (R' := Rr T) (fun a e => ⟨by omega, by omega⟩))).tr o2).tr o3) (rj_mono hJ3 (by omega)) (by omega) (by omega) (fun e => z0) (by omega) (by omega) (by omega)
            · refine B_aloadn rfl my_23 rfl ?_
              refine B_ref hE.1 rfl my_23 rfl (r := 4) rfl ?_
              refine B_iloadn rfl my_23 rfl ?_
              refine B_cV hE.1 rfl nmc_4.1 cw_23_20 (as := [wi x]) (rest := []) rfl (Nat.le_of_ble_eq_true rfl) (g_at hE nmc_4 (by decide) (kr_of fun _ => hA2 _ _)) (fun vo s9 hq => ?_)
              obtain ⟨rfl, rfl⟩ := hq
              show Bt E 23 124 [wr (T + 1), wr 3, wi n, wi x, wi k9, wi (gv s (T + 1) 7), wi 0] [wi (rd s2 4 500 x)] s2 _
              refine B_top (fun r21 => ?_)
              refine B_iloadn rfl my_23 rfl ?_
              refine B_ic_eq rfl my_23 rfl (tgt := 132) (nx := 128) rfl rfl (fun c22 => ?_) (fun c22 => ?_)
              · refine B_iinc rfl my_23 (by decide) rfl rfl rfl (by omega) (by omega) (show _ = [wr (T + 1), wr 3, wi n, wi (x + 1), wi k9, wi (gv s (T + 1) 7), wi 0] from rfl) ?_
                refine B_iinc rfl my_23 (by decide) rfl rfl rfl (by omega) (by omega) (show _ = [wr (T + 1), wr 3, wi n, wi (x + 1), wi (k9 + 1), wi (gv s (T + 1) 7), wi 0] from rfl) ?_
                refine B_goto rfl my_23 rfl (tgt := 25) rfl ?_
                refine B_loc (l' := [wr (T + 1), wr 3, wi n, wi (x + 1), wi (k9 + 1), wx, wx]) ⟨Or.inl rfl, Or.inl rfl, Or.inl rfl, Or.inl rfl, Or.inl rfl, Or.inr rfl, Or.inr rfl, trivial⟩ ?_
                exact ih _ _ _ hA2 ((h2.tr (hs1.2.1.mono (R' := Rr T) (fun a e => ⟨by omega, by omega⟩))).tr o2) (rj_mono hJ2 (by omega)) (by omega) (by omega) (fun e => by omega) (by omega) (by omega) (by omega)
              · refine B_aloadn rfl my_23 rfl ?_
                refine B_cV hE.1 rfl (wc_1 hT) cw_23_30 (as := []) (rest := []) rfl (Nat.le_of_ble_eq_true rfl) (g_closeRow hE hT hA2 hJ2 (by omega) (by omega) (by have := hJ1.1; omega)) (fun vo s3 hq => ?_)
                obtain ⟨rfl, hA3, o3, hJ3, z0⟩ := hq
                show Bt E 23 132 [wr (T + 1), wr 3, wi n, wi x, wi k9, wi (gv s (T + 1) 7), wi 0] [] s3 _
                refine B_iinc rfl my_23 (by decide) rfl rfl rfl (by omega) (by omega) (show _ = [wr (T + 1), wr 3, wi n, wi (x + 1), wi k9, wi (gv s (T + 1) 7), wi 0] from rfl) ?_
                refine B_iinc rfl my_23 (by decide) rfl rfl rfl (by omega) (by omega) (show _ = [wr (T + 1), wr 3, wi n, wi (x + 1), wi (k9 + 1), wi (gv s (T + 1) 7), wi 0] from rfl) ?_
                refine B_goto rfl my_23 rfl (tgt := 25) rfl ?_
                refine B_loc (l' := [wr (T + 1), wr 3, wi n, wi (x + 1), wi (k9 + 1), wx, wx]) ⟨Or.inl rfl, Or.inl rfl, Or.inl rfl, Or.inl rfl, Or.inl rfl, Or.inr rfl, Or.inr rfl, trivial⟩ ?_
                exact ih _ _ _ hA3 (((h2.tr (hs1.2.1.mono (R' := Rr T) (fun a e => ⟨by omega, by omega⟩))).tr o2).tr o3) (rj_mono hJ3 (by omega)) (by omega) (by omega) (fun e => z0) (by omega) (by omega) (by omega)
          · refine B_iconst rfl my_23 (by decide) ?_
            refine B_goto rfl my_23 rfl (tgt := 73) rfl ?_
            refine B_istore rfl my_23 (by decide) rfl (show _ = [wr (T + 1), wr 3, wi n, wi q, wi k9, wi (gv s (T + 1) 7), wi 1] from rfl) ?_
            refine B_iload rfl my_23 rfl ?_
            refine B_if_eq rfl my_23 rfl (tgt := 92) (nx := 80) rfl rfl (fun c9 => absurd c9 (by decide)) (fun _ => ?_)
            show Bt E 23 80 [wr (T + 1), wr 3, wi n, wi q, wi k9, wi (gv s (T + 1) 7), wi 1] [] s _
            refine B_aloadn rfl my_23 rfl ?_
            refine B_aloadn rfl my_23 rfl ?_
            refine B_iloadn rfl my_23 rfl ?_
            refine B_iloadn rfl my_23 rfl ?_
            refine B_iconst rfl my_23 (by decide) ?_
            refine B_iadd rfl my_23 (by omega) (by omega) ?_
            refine B_cV hE.1 rfl (wc_1 hT) cw_23_26 (as := [wr 3, wi n, wi (q + 1)]) (rest := []) rfl (Nat.le_of_ble_eq_true rfl) (g_readQuoted hE hT h1 hXs.1 h3.2.2.2.1 (by omega) (by omega) h3.1.2.2.2.2.2.2.2.1 (by omega)) (fun vo s1 hq => ?_)
            obtain ⟨x, d, rfl, hx, hs1⟩ := hq
            have hA1 := hs1.1
            obtain ⟨hJ1, f7, fa, fb, f10, f9⟩ := rj_tf h3 hs1 (q2 := x) (by omega) (by omega) (by omega)
            have hn1 := off_gv (b := 1) hs1.2.1 (show ¬ (3 = T + 1 ∨ 3 = T + 3) by omega)
            show Bt E 23 89 [wr (T + 1), wr 3, wi n, wi q, wi k9, wi (gv s (T + 1) 7), wi 1] [wi x] s1 _
            refine B_top (fun r24 => ?_)
            refine B_goto rfl my_23 rfl (tgt := 99) rfl ?_
            refine B_istoren rfl my_23 (by decide) rfl (show _ = [wr (T + 1), wr 3, wi n, wi x, wi k9, wi (gv s (T + 1) 7), wi 1] from rfl) ?_
            refine B_aloadn rfl my_23 rfl ?_
            refine B_iload rfl my_23 rfl ?_
            refine B_iload rfl my_23 rfl ?_
            refine B_cV hE.1 rfl (wc_1 hT) cw_23_29 (as := [wi (gv s (T + 1) 7), wi 1]) (rest := []) rfl (Nat.le_of_ble_eq_true rfl) (g_closeCell hE hT hA1 hJ1 (by omega) (by omega) (by omega) (by omega) ⟨fa, fb⟩) (fun vo s2 hq => ?_)
            obtain ⟨rfl, hA2, o2, hJ2, z9, z10⟩ := hq
            have hn2 := off_gv (b := 1) o2 (show ¬ Rr T 3 from fun e => by have := e.1; omega)
            show Bt E 23 108 [wr (T + 1), wr 3, wi n, wi x, wi k9, wi (gv s (T + 1) 7), wi 1] [] s2 _
            refine B_iloadn rfl my_23 rfl ?_
            refine B_aloadn rfl my_23 rfl ?_
            refine B_int hE.1 rfl my_23 rfl rfl (hA2 _ _) (fun r25 => ?_)
            refine B_ic_ge rfl my_23 rfl (tgt := 128) (nx := 116) rfl rfl (fun c26 => ?_) (fun c26 => ?_)
            · refine B_aloadn rfl my_23 rfl ?_
              refine B_cV hE.1 rfl (wc_1 hT) cw_23_30 (as := []) (rest := []) rfl (Nat.le_of_ble_eq_true rfl) (g_closeRow hE hT hA2 hJ2 (by omega) (by omega) (by have := hJ1.1; omega)) (fun vo s3 hq => ?_)
              obtain ⟨rfl, hA3, o3, hJ3, z0⟩ := hq
              show Bt E 23 132 [wr (T + 1), wr 3, wi n, wi x, wi k9, wi (gv s (T + 1) 7), wi 1] [] s3 _
              refine B_iinc rfl my_23 (by decide) rfl rfl rfl (by omega) (by omega) (show _ = [wr (T + 1), wr 3, wi n, wi (x + 1), wi k9, wi (gv s (T + 1) 7), wi 1] from rfl) ?_
              refine B_iinc rfl my_23 (by decide) rfl rfl rfl (by omega) (by omega) (show _ = [wr (T + 1), wr 3, wi n, wi (x + 1), wi (k9 + 1), wi (gv s (T + 1) 7), wi 1] from rfl) ?_
              refine B_goto rfl my_23 rfl (tgt := 25) rfl ?_
              refine B_loc (l' := [wr (T + 1), wr 3, wi n, wi (x + 1), wi (k9 + 1), wx, wx]) ⟨Or.inl rfl, Or.inl rfl, Or.inl rfl, Or.inl rfl, Or.inl rfl, Or.inr rfl, Or.inr rfl, trivial⟩ ?_
              exact ih _ _ _ hA3 (((h2.tr (hs1.2.1.mono (R' := Rr T) (fun a e => ⟨by omega, by omega⟩))).tr o2).tr o3) (rj_mono hJ3 (by omega)) (by omega) (by omega) (fun e => z0) (by omega) (by omega) (by omega)
            · refine B_aloadn rfl my_23 rfl ?_
              refine B_ref hE.1 rfl my_23 rfl (r := 4) rfl ?_
              refine B_iloadn rfl my_23 rfl ?_
              refine B_cV hE.1 rfl nmc_4.1 cw_23_20 (as := [wi x]) (rest := []) rfl (Nat.le_of_ble_eq_true rfl) (g_at hE nmc_4 (by decide) (kr_of fun _ => hA2 _ _)) (fun vo s9 hq => ?_)
              obtain ⟨rfl, rfl⟩ := hq
              show Bt E 23 124 [wr (T + 1), wr 3, wi n, wi x, wi k9, wi (gv s (T + 1) 7), wi 1] [wi (rd s2 4 500 x)] s2 _
              refine B_top (fun r27 => ?_)
              refine B_iloadn rfl my_23 rfl ?_
              refine B_ic_eq rfl my_23 rfl (tgt := 132) (nx := 128) rfl rfl (fun c28 => ?_) (fun c28 => ?_)
              · refine B_iinc rfl my_23 (by decide) rfl rfl rfl (by omega) (by omega) (show _ = [wr (T + 1), wr 3, wi n, wi (x + 1), wi k9, wi (gv s (T + 1) 7), wi 1] from rfl) ?_
                refine B_iinc rfl my_23 (by decide) rfl rfl rfl (by omega) (by omega) (show _ = [wr (T + 1), wr 3, wi n, wi (x + 1), wi (k9 + 1), wi (gv s (T + 1) 7), wi 1] from rfl) ?_
                refine B_goto rfl my_23 rfl (tgt := 25) rfl ?_
                refine B_loc (l' := [wr (T + 1), wr 3, wi n, wi (x + 1), wi (k9 + 1), wx, wx]) ⟨Or.inl rfl, Or.inl rfl, Or.inl rfl, Or.inl rfl, Or.inl rfl, Or.inr rfl, Or.inr rfl, trivial⟩ ?_
                exact ih _ _ _ hA2 ((h2.tr (hs1.2.1.mono (R' := Rr T) (fun a e => ⟨by omega, by omega⟩))).tr o2) (rj_mono hJ2 (by omega)) (by omega) (by omega) (fun e => by omega) (by omega) (by omega) (by omega)
              · refine B_aloadn rfl my_23 rfl ?_
                refine B_cV hE.1 rfl (wc_1 hT) cw_23_30 (as := []) (rest := []) rfl (Nat.le_of_ble_eq_true rfl) (g_closeRow hE hT hA2 hJ2 (by omega) (by omega) (by have := hJ1.1; omega)) (fun vo s3 hq => ?_)
                obtain ⟨rfl, hA3, o3, hJ3, z0⟩ := hq
                show Bt E 23 132 [wr (T + 1), wr 3, wi n, wi x, wi k9, wi (gv s (T + 1) 7), wi 1] [] s3 _
                refine B_iinc rfl my_23 (by decide) rfl rfl rfl (by omega) (by omega) (show _ = [wr (T + 1), wr 3, wi n, wi (x + 1), wi k9, wi (gv s (T + 1) 7), wi 1] from rfl) ?_
                refine B_iinc rfl my_23 (by decide) rfl rfl rfl (by omega) (by omega) (show _ = [wr (T + 1), wr 3, wi n, wi (x + 1), wi (k9 + 1), wi (gv s (T + 1) 7), wi 1] from rfl) ?_
                refine B_goto rfl my_23 rfl (tgt := 25) rfl ?_
                refine B_loc (l' := [wr (T + 1), wr 3, wi n, wi (x + 1), wi (k9 + 1), wx, wx]) ⟨Or.inl rfl, Or.inl rfl, Or.inl rfl, Or.inl rfl, Or.inl rfl, Or.inr rfl, Or.inr rfl, trivial⟩ ?_
                exact ih _ _ _ hA3 (((h2.tr (hs1.2.1.mono (R' := Rr T) (fun a e => ⟨by omega, by omega⟩))).tr o2).tr o3) (rj_mono hJ3 (by omega)) (by omega) (by omega) (fun e => z0) (by omega) (by omega) (by omega)
theorem g_read {E : mE} {σ : wSt} {T : Nat} (hE : wE E) (hT : Tb T) (hA : Al σ) (hX : TX σ) {n : Int} (hS : ∀ i, 0 ≤ rd σ (T + 2) 500 i) : Fn E 23 [wr (T + 1), wr 3, wi n] σ (fun vo t => vo = none ∧ Al t ∧ Off (Rr T) σ t ∧ RI T t) := by
  refine Fn.of (nL := 7) ?_
  show Bt E 23 0 [wr (T + 1), wr 3, wi n, wx, wx, wx, wx] [] σ _
  refine B_rng 2 rfl (fun ha2 => ?_)
  refine B_aloadn rfl my_23 rfl ?_
  refine B_iconst rfl my_23 (by decide) ?_
  refine B_put hE.1 rfl my_23 rfl (wn_1_7 hT) (Or.inl rfl) ?_
  refine B_aloadn rfl my_23 rfl ?_
  refine B_iconst rfl my_23 (by decide) ?_
  refine B_put hE.1 rfl my_23 rfl (wn_1_8 hT) (Or.inl rfl) ?_
  refine B_aloadn rfl my_23 rfl ?_
  refine B_iconst rfl my_23 (by decide) ?_
  refine B_put hE.1 rfl my_23 rfl (wn_1_9 hT) (Or.inl rfl) ?_
  refine B_aloadn rfl my_23 rfl ?_
  refine B_iconst rfl my_23 (by decide) ?_
  refine B_put hE.1 rfl my_23 rfl (wn_1_10 hT) (Or.inl rfl) ?_
  refine B_iconst rfl my_23 (by decide) ?_
  refine B_istoren rfl my_23 (by decide) rfl (show _ = [wr (T + 1), wr 3, wi n, wi 0, wx, wx, wx] from rfl) ?_
  refine B_iconst rfl my_23 (by decide) ?_
  refine B_istore rfl my_23 (by decide) rfl (show _ = [wr (T + 1), wr 3, wi n, wi 0, wi 0, wx, wx] from rfl) ?_
  have hx0 := hX.1
  have off : Off (Rr T) σ (wup (wup (wup (wup σ (T + 1) 7 0) (T + 1) 8 0) (T + 1) 9 0) (T + 1) 10 0) := (((off_wup (R := Rr T) ⟨by omega, by omega⟩).tr (off_wup (R := Rr T) ⟨by omega, by omega⟩)).tr (off_wup (R := Rr T) ⟨by omega, by omega⟩)).tr (off_wup (R := Rr T) ⟨by omega, by omega⟩)
  refine l_read hE hT hX _ _ 0 0 (al_wup (al_wup (al_wup (al_wup hA)))) off ⟨?_, fun r hr1 hr2 => ?_, fun c hc1 hc2 => ?_, fun i => ?_, fun r z z1 z2 z3 => ?_⟩ (by omega) (by omega) (fun e => by omega) (by omega) (by omega) (Nat.le_refl _)
  · simp (disch := omega) only [gv_eq, gv_ne]
    decide
  · simp (disch := omega) only [gv_eq, gv_ne] at hr2
    omega
  · simp (disch := omega) only [gv_eq, gv_ne] at hc2
    omega
  · simp (disch := omega) only [rd_wup]
    exact hS i
  · simp (disch := omega) only [gv_eq, gv_ne] at z3
    omega
/-- what readText may write to -/
def Rx (a : Nat) : Prop := a = 2 ∨ (11 ≤ a ∧ a ≤ 26) ∨ (46 ≤ a ∧ a ≤ 61) ∨ (81 ≤ a ∧ a ≤ 96) ∨ (116 ≤ a ∧ a ≤ 131)
/-- the text has been read, nothing is settled -/
def RT (σ s : wSt) : Prop := Al s ∧ (∀ T, Tb T → RI T s) ∧ gv s 2 6 = 1 ∧ (∀ T, Tb T → gv s T 12 = 0) ∧ (∀ T, Tb T → ∀ b, b ≠ 12 → gv s T b = gv σ T b) ∧ Off Rx σ s
theorem us_gv {σ : wSt} {a b : Nat} (h : b ≠ 12 ∨ a ≠ 11 ∧ a ≠ 46 ∧ a ≠ 81 ∧ a ≠ 116) : gv (us σ) a b = gv σ a b := by
  unfold us
  rw [gv_ne (by omega), gv_ne (by omega), gv_ne (by omega), gv_ne (by omega)]
theorem us_12 {σ : wSt} {T : Nat} (h : Tb T) : gv (us σ) T 12 = 0 := by
  unfold us
  rcases h with rfl | rfl | rfl | rfl
  · rw [gv_ne (by omega), gv_ne (by omega), gv_ne (by omega), gv_eq]
  · rw [gv_ne (by omega), gv_ne (by omega), gv_eq]
  · rw [gv_ne (by omega), gv_eq]
  · rw [gv_eq]
theorem us_off {σ : wSt} : Off Tb σ (us σ) := (((off_wup (R := Tb) tb11).tr (off_wup (R := Tb) tb46)).tr (off_wup (R := Tb) tb81)).tr (off_wup (R := Tb) tb116)
theorem rt_end {σ s1 s2 s3 s4 : wSt} (hA : Al s4) (o1 : Off (Rr 11) σ s1) (o2 : Off (Rr 46) s1 s2) (o3 : Off (Rr 81) s2 s3) (o4 : Off (Rr 116) s3 s4) (p4 : Off Rx σ s4) (i1 : RI 11 s1) (i2 : RI 46 s2) (i3 : RI 81 s3) (i4 : RI 116 s4) : RT σ (us (wup s4 2 6 1)) := by
  have j3 : RI 81 s4 := ri_off i3 o4 (fun a h1 h2 e => by have := e.1; omega)
  have j2 : RI 46 s4 := ri_off (ri_off i2 o3 (fun a h1 h2 e => by have := e.1; omega)) o4 (fun a h1 h2 e => by have := e.1; omega)
  have j1 : RI 11 s4 := ri_off (ri_off (ri_off i1 o2 (fun a h1 h2 e => by have := e.1; omega)) o3 (fun a h1 h2 e => by have := e.1; omega)) o4 (fun a h1 h2 e => by have := e.1; omega)
  have k : ∀ T, Tb T → RI T s4 := fun T h => by
    rcases h with rfl | rfl | rfl | rfl
    · exact j1
    · exact j2
    · exact j3
    · exact i4
  have w2 : Off (fun a => a = 2) s4 (wup s4 2 6 1) := off_wup rfl
  refine ⟨al_us (al_wup hA), fun T h => ri_off (ri_off (k T h) w2 (fun a h1 h2 e => by omega)) us_off (fun a h1 h2 e => by omega), ?_, fun T h => us_12 h, fun T h b hb => ?_, ?_⟩
  · rw [us_gv (by omega), gv_eq]
  · rw [us_gv (Or.inl hb), gv_ne (by omega)]
    have q1 : ∀ U, Tb U → ¬ Rr U T := fun U hU e => by have e1 := e.1; have e2 := e.2; omega
    rw [off_gv o4 (q1 116 tb116), off_gv o3 (q1 81 tb81), off_gv o2 (q1 46 tb46), off_gv o1 (q1 11 tb11)]
  · exact (p4.tr (off_wup (R := Rx) (Or.inl rfl))).tr (us_off.mono (fun a h => by unfold Rx; omega))
theorem g_readText1 {E : mE} {σ : wSt} (hE : wE E) (hk : kn σ 2 6) (hf : gv σ 2 6 = 1) : Fn E 111 [wr 2] σ (fun vo s => vo = none ∧ σ = s) := by
  refine Fn.of (nL := 1) ?_
  show Bt E 111 0 [wr 2] [] σ _
  refine B_aloadn rfl my_111 rfl ?_
  refine B_int hE.1 rfl my_111 rfl rfl hk (fun r1 => ?_)
  refine B_if_eq rfl my_111 rfl (tgt := 8) (nx := 7) rfl rfl (fun c2 => ?_) (fun c2 => ?_)
  · exact absurd c2 (by omega)
  · refine B_ret rfl my_111 rfl ?_
    exact ⟨rfl, rfl⟩
theorem g_readText {E : mE} {σ : wSt} (hE : wE E) (hA : Al σ) (hX : TX σ) (hf : gv σ 2 6 = 0) (hS : ∀ T, Tb T → ∀ i, 0 ≤ rd σ (T + 2) 500 i) : Fn E 111 [wr 2] σ (fun vo s => vo = none ∧ RT σ s) := by
  refine Fn.of (nL := 1) ?_
  show Bt E 111 0 [wr 2] [] σ _
  refine B_aloadn rfl my_111 rfl ?_
  refine B_int hE.1 rfl my_111 rfl rfl (hA _ _) (fun r1 => ?_)
  refine B_if_eq rfl my_111 rfl (tgt := 8) (nx := 7) rfl rfl (fun c2 => ?_) (fun c2 => ?_)
  · refine B_aloadn rfl my_111 rfl ?_
    refine B_ref hE.1 rfl my_111 rfl (r := 11) rfl ?_
    refine B_ref hE.1 rfl my_111 rfl (r := 12) rfl ?_
    refine B_aloadn rfl my_111 rfl ?_
    refine B_ref hE.1 rfl my_111 rfl (r := 3) rfl ?_
    refine B_iconst rfl my_111 (by decide) ?_
    refine B_cV hE.1 rfl rfl cw_111_23 (as := [wr 3, wi 0]) (rest := []) rfl (Nat.le_of_ble_eq_true rfl) (g_read (T := 11) hE tb11 hA hX (hS 11 tb11)) (fun vo s1 hq => ?_)
    obtain ⟨rfl, hA1, o1, i1⟩ := hq
    have x1 : ∀ a, Rr 11 a → Rx a := fun a e => by have e1 := e.1; have e2 := e.2; unfold Rx; omega
    have p1 : Off Rx σ s1 := o1.mono x1
    show Bt E 111 23 [wr 2] [] s1 _
    refine B_aloadn rfl my_111 rfl ?_
    refine B_ref hE.1 rfl my_111 rfl (r := 46) rfl ?_
    refine B_ref hE.1 rfl my_111 rfl (r := 47) rfl ?_
    refine B_aloadn rfl my_111 rfl ?_
    refine B_ref hE.1 rfl my_111 rfl (r := 3) rfl ?_
    refine B_iconst rfl my_111 (by decide) ?_
    refine B_cV hE.1 rfl rfl cw_111_23 (as := [wr 3, wi 1]) (rest := []) rfl (Nat.le_of_ble_eq_true rfl) (g_read (T := 46) hE tb46 hA1 (tx_off hX p1 (by unfold Rx; omega) (by unfold Rx; omega)).1 (fun i => by rw [off_rd o1 (fun e => by have := e.2; omega)]; exact hS 46 tb46 i)) (fun vo s2 hq => ?_)
    obtain ⟨rfl, hA2, o2, i2⟩ := hq
    have x2 : ∀ a, Rr 46 a → Rx a := fun a e => by have e1 := e.1; have e2 := e.2; unfold Rx; omega
    have p2 : Off Rx σ s2 := p1.tr (o2.mono x2)
    show Bt E 111 38 [wr 2] [] s2 _
    refine B_aloadn rfl my_111 rfl ?_
    refine B_ref hE.1 rfl my_111 rfl (r := 81) rfl ?_
    refine B_ref hE.1 rfl my_111 rfl (r := 82) rfl ?_
    refine B_aloadn rfl my_111 rfl ?_
    refine B_ref hE.1 rfl my_111 rfl (r := 3) rfl ?_
    refine B_iconst rfl my_111 (by decide) ?_
    refine B_cV hE.1 rfl rfl cw_111_23 (as := [wr 3, wi 2]) (rest := []) rfl (Nat.le_of_ble_eq_true rfl) (g_read (T := 81) hE tb81 hA2 (tx_off hX p2 (by unfold Rx; omega) (by unfold Rx; omega)).1 (fun i => by rw [off_rd o2 (fun e => by have := e.2; omega), off_rd o1 (fun e => by have := e.2; omega)]; exact hS 81 tb81 i)) (fun vo s3 hq => ?_)
    obtain ⟨rfl, hA3, o3, i3⟩ := hq
    have x3 : ∀ a, Rr 81 a → Rx a := fun a e => by have e1 := e.1; have e2 := e.2; unfold Rx; omega
    have p3 : Off Rx σ s3 := p2.tr (o3.mono x3)
    show Bt E 111 53 [wr 2] [] s3 _
    refine B_aloadn rfl my_111 rfl ?_
    refine B_ref hE.1 rfl my_111 rfl (r := 116) rfl ?_
    refine B_ref hE.1 rfl my_111 rfl (r := 117) rfl ?_
    refine B_aloadn rfl my_111 rfl ?_
    refine B_ref hE.1 rfl my_111 rfl (r := 3) rfl ?_
    refine B_iconst rfl my_111 (by decide) ?_
    refine B_cV hE.1 rfl rfl cw_111_23 (as := [wr 3, wi 3]) (rest := []) rfl (Nat.le_of_ble_eq_true rfl) (g_read (T := 116) hE tb116 hA3 (tx_off hX p3 (by unfold Rx; omega) (by unfold Rx; omega)).1 (fun i => by rw [off_rd o3 (fun e => by have := e.2; omega), off_rd o2 (fun e => by have := e.2; omega), off_rd o1 (fun e => by have := e.2; omega)]; exact hS 116 tb116 i)) (fun vo s4 hq => ?_)
    obtain ⟨rfl, hA4, o4, i4⟩ := hq
    have x4 : ∀ a, Rr 116 a → Rx a := fun a e => by have e1 := e.1; have e2 := e.2; unfold Rx; omega
    have p4 : Off Rx σ s4 := p3.tr (o4.mono x4)
    show Bt E 111 68 [wr 2] [] s4 _
    refine B_aloadn rfl my_111 rfl ?_
    refine B_iconst rfl my_111 (by decide) ?_
    refine B_put hE.1 rfl my_111 rfl rfl (Or.inr ⟨rfl, Or.inr rfl⟩) ?_
    refine B_aloadn rfl my_111 rfl ?_
    refine B_cV hE.1 rfl rfl cw_111_112 (as := []) (rest := []) rfl (Nat.le_of_ble_eq_true rfl) (g_unsettleAll hE) (fun vo s9 hq => ?_)
    obtain ⟨rfl, rfl⟩ := hq
    show Bt E 111 77 [wr 2] [] (us (wup s4 2 6 1)) _
    refine B_ret rfl my_111 rfl ?_
    exact ⟨rfl, rt_end hA4 o1 o2 o3 o4 p4 i1 i2 i3 i4⟩
  · refine B_ret rfl my_111 rfl ?_
    exfalso
    omega
/-- the parter that is guessed: the greatest score, of several the smallest number -/
def gp (σ : wSt) : Int := if pts σ 11 < pts σ 46 then (if pts σ 46 < pts σ 81 then (if pts σ 81 < pts σ 116 then 3 else 2) else (if pts σ 46 < pts σ 116 then 3 else 1)) else (if pts σ 11 < pts σ 81 then (if pts σ 81 < pts σ 116 then 3 else 2) else (if pts σ 11 < pts σ 116 then 3 else 0))
theorem gp_rng {σ : wSt} : 0 ≤ gp σ ∧ gp σ ≤ 3 := by
  unfold gp
  (repeat' split) <;> decide
theorem gp_max {σ : wSt} {q : Int} (h1 : 0 ≤ q) (h2 : q ≤ 3) : pts σ (tof q) ≤ pts σ (tof (gp σ)) := by
  have h : q = 0 ∨ q = 1 ∨ q = 2 ∨ q = 3 := by omega
  have e0 : tof 0 = 11 := rfl
  have e1 : tof 1 = 46 := rfl
  have e2 : tof 2 = 81 := rfl
  have e3 : tof 3 = 116 := rfl
  unfold gp
  rcases h with rfl | rfl | rfl | rfl
  · rw [e0]
    (repeat' split) <;> (try rw [e0]) <;> (try rw [e1]) <;> (try rw [e2]) <;> (try rw [e3]) <;> omega
  · rw [e1]
    (repeat' split) <;> (try rw [e0]) <;> (try rw [e1]) <;> (try rw [e2]) <;> (try rw [e3]) <;> omega
  · rw [e2]
    (repeat' split) <;> (try rw [e0]) <;> (try rw [e1]) <;> (try rw [e2]) <;> (try rw [e3]) <;> omega
  · rw [e3]
    (repeat' split) <;> (try rw [e0]) <;> (try rw [e1]) <;> (try rw [e2]) <;> (try rw [e3]) <;> omega
theorem g_guessedParter {E : mE} {σ : wSt} (hE : wE E) (hR : ∀ T, Tb T → KRd T σ) (hI : ∀ T, Tb T → RI T σ) : Gv E 113 [wr 2] σ (wi (gp σ)) := by
  refine Fn.of (nL := 5) ?_
  show Bt E 113 0 [wr 2, wx, wx, wx, wx] [] σ _
  refine B_iconst rfl my_113 (by decide) ?_
  refine B_istoren rfl my_113 (by decide) rfl (show _ = [wr 2, wi 0, wx, wx, wx] from rfl) ?_
  refine B_aloadn rfl my_113 rfl ?_
  refine B_ref hE.1 rfl my_113 rfl (r := 11) rfl ?_
  refine B_ref hE.1 rfl my_113 rfl (r := 12) rfl ?_
  refine B_cV hE.1 rfl rfl cw_113_34 (as := []) (rest := []) rfl (Nat.le_of_ble_eq_true rfl) (g_points (T := 11) hE tb11 (hR 11 tb11) (hI 11 tb11)) (fun vo s9 hq => ?_)
  obtain ⟨rfl, rfl⟩ := hq
  show Bt E 113 12 [wr 2, wi 0, wx, wx, wx] [wi (pts σ 11)] σ _
  refine B_top (fun r1 => ?_)
  refine B_istoren rfl my_113 (by decide) rfl (show _ = [wr 2, wi 0, wi (pts σ 11), wx, wx] from rfl) ?_
  refine B_iconst rfl my_113 (by decide) ?_
  refine B_istoren rfl my_113 (by decide) rfl (show _ = [wr 2, wi 0, wi (pts σ 11), wi 1, wx] from rfl) ?_
  refine B_iloadn rfl my_113 rfl ?_
  refine B_iconst rfl my_113 (by decide) ?_
  refine B_ic_gt rfl my_113 rfl (tgt := 50) (nx := 20) rfl rfl (fun c9 => absurd c9 (by decide)) (fun _ => ?_)
  show Bt E 113 20 [wr 2, wi 0, wi (pts σ 11), wi 1, wx] [] σ _
  refine B_aloadn rfl my_113 rfl ?_
  refine B_iloadn rfl my_113 rfl ?_
  refine B_cV hE.1 rfl rfl cw_113_110 (as := [wi 1]) (rest := []) rfl (Nat.le_of_ble_eq_true rfl) (g_tableWith hE (by omega) (by omega)) (fun vo s9 hq => ?_)
  obtain ⟨rfl, rfl⟩ := hq
  show Bt E 113 25 [wr 2, wi 0, wi (pts σ 11), wi 1, wx] [wr 46] σ _
  refine B_ref hE.1 rfl my_113 rfl (r := 47) rfl ?_
  refine B_cV hE.1 rfl rfl cw_113_34 (as := []) (rest := []) rfl (Nat.le_of_ble_eq_true rfl) (g_points (T := 46) hE tb46 (hR 46 tb46) (hI 46 tb46)) (fun vo s9 hq => ?_)
  obtain ⟨rfl, rfl⟩ := hq
  show Bt E 113 31 [wr 2, wi 0, wi (pts σ 11), wi 1, wx] [wi (pts σ 46)] σ _
  refine B_top (fun r3 => ?_)
  refine B_istore rfl my_113 (by decide) rfl (show _ = [wr 2, wi 0, wi (pts σ 11), wi 1, wi (pts σ 46)] from rfl) ?_
  refine B_iload rfl my_113 rfl ?_
  refine B_iloadn rfl my_113 rfl ?_
  refine B_ic_le rfl my_113 rfl (tgt := 44) (nx := 39) rfl rfl (fun c4 => ?_) (fun c4 => ?_)
  · refine B_iinc rfl my_113 (by decide) rfl rfl rfl (by omega) (by omega) (show _ = [wr 2, wi 0, wi (pts σ 11), wi 2, wi (pts σ 46)] from rfl) ?_
    refine B_goto rfl my_113 rfl (tgt := 15) rfl ?_
    refine B_iloadn rfl my_113 rfl ?_
    refine B_iconst rfl my_113 (by decide) ?_
    refine B_ic_gt rfl my_113 rfl (tgt := 50) (nx := 20) rfl rfl (fun c9 => absurd c9 (by decide)) (fun _ => ?_)
    show Bt E 113 20 [wr 2, wi 0, wi (pts σ 11), wi 2, wi (pts σ 46)] [] σ _
    refine B_aloadn rfl my_113 rfl ?_
    refine B_iloadn rfl my_113 rfl ?_
    refine B_cV hE.1 rfl rfl cw_113_110 (as := [wi 2]) (rest := []) rfl (Nat.le_of_ble_eq_true rfl) (g_tableWith hE (by omega) (by omega)) (fun vo s9 hq => ?_)
    obtain ⟨rfl, rfl⟩ := hq
    show Bt E 113 25 [wr 2, wi 0, wi (pts σ 11), wi 2, wi (pts σ 46)] [wr 81] σ _
    refine B_ref hE.1 rfl my_113 rfl (r := 82) rfl ?_
    refine B_cV hE.1 rfl rfl cw_113_34 (as := []) (rest := []) rfl (Nat.le_of_ble_eq_true rfl) (g_points (T := 81) hE tb81 (hR 81 tb81) (hI 81 tb81)) (fun vo s9 hq => ?_)
    obtain ⟨rfl, rfl⟩ := hq
    show Bt E 113 31 [wr 2, wi 0, wi (pts σ 11), wi 2, wi (pts σ 46)] [wi (pts σ 81)] σ _
    refine B_top (fun r6 => ?_)
    refine B_istore rfl my_113 (by decide) rfl (show _ = [wr 2, wi 0, wi (pts σ 11), wi 2, wi (pts σ 81)] from rfl) ?_
    refine B_iload rfl my_113 rfl ?_
    refine B_iloadn rfl my_113 rfl ?_
    refine B_ic_le rfl my_113 rfl (tgt := 44) (nx := 39) rfl rfl (fun c7 => ?_) (fun c7 => ?_)
    · refine B_iinc rfl my_113 (by decide) rfl rfl rfl (by omega) (by omega) (show _ = [wr 2, wi 0, wi (pts σ 11), wi 3, wi (pts σ 81)] from rfl) ?_
      refine B_goto rfl my_113 rfl (tgt := 15) rfl ?_
      refine B_iloadn rfl my_113 rfl ?_
      refine B_iconst rfl my_113 (by decide) ?_
      refine B_ic_gt rfl my_113 rfl (tgt := 50) (nx := 20) rfl rfl (fun c9 => absurd c9 (by decide)) (fun _ => ?_)
      show Bt E 113 20 [wr 2, wi 0, wi (pts σ 11), wi 3, wi (pts σ 81)] [] σ _
      refine B_aloadn rfl my_113 rfl ?_
      refine B_iloadn rfl my_113 rfl ?_
      refine B_cV hE.1 rfl rfl cw_113_110 (as := [wi 3]) (rest := []) rfl (Nat.le_of_ble_eq_true rfl) (g_tableWith hE (by omega) (by omega)) (fun vo s9 hq => ?_)
      obtain ⟨rfl, rfl⟩ := hq
      show Bt E 113 25 [wr 2, wi 0, wi (pts σ 11), wi 3, wi (pts σ 81)] [wr 116] σ _
      refine B_ref hE.1 rfl my_113 rfl (r := 117) rfl ?_
      refine B_cV hE.1 rfl rfl cw_113_34 (as := []) (rest := []) rfl (Nat.le_of_ble_eq_true rfl) (g_points (T := 116) hE tb116 (hR 116 tb116) (hI 116 tb116)) (fun vo s9 hq => ?_)
      obtain ⟨rfl, rfl⟩ := hq
      show Bt E 113 31 [wr 2, wi 0, wi (pts σ 11), wi 3, wi (pts σ 81)] [wi (pts σ 116)] σ _
      refine B_top (fun r9 => ?_)
      refine B_istore rfl my_113 (by decide) rfl (show _ = [wr 2, wi 0, wi (pts σ 11), wi 3, wi (pts σ 116)] from rfl) ?_
      refine B_iload rfl my_113 rfl ?_
      refine B_iloadn rfl my_113 rfl ?_
      refine B_ic_le rfl my_113 rfl (tgt := 44) (nx := 39) rfl rfl (fun c10 => ?_) (fun c10 => ?_)
      · refine B_iinc rfl my_113 (by decide) rfl rfl rfl (by omega) (by omega) (show _ = [wr 2, wi 0, wi (pts σ 11), wi 4, wi (pts σ 116)] from rfl) ?_
        refine B_goto rfl my_113 rfl (tgt := 15) rfl ?_
        refine B_iloadn rfl my_113 rfl ?_
        refine B_iconst rfl my_113 (by decide) ?_
        refine B_ic_gt rfl my_113 rfl (tgt := 50) (nx := 20) rfl rfl (fun _ => ?_) (fun c9 => absurd c9 (by decide))
        show Bt E 113 50 [wr 2, wi 0, wi (pts σ 11), wi 4, wi (pts σ 116)] [] σ _
        refine B_iloadn rfl my_113 rfl ?_
        refine B_iret rfl my_113 rfl ?_
        refine ⟨congrArg (fun z => some (wi z)) ?_, rfl⟩
        unfold gp
        (repeat' split) <;> omega
      · refine B_iloadn rfl my_113 rfl ?_
        refine B_istoren rfl my_113 (by decide) rfl (show _ = [wr 2, wi 3, wi (pts σ 11), wi 3, wi (pts σ 116)] from rfl) ?_
        refine B_iload rfl my_113 rfl ?_
        refine B_istoren rfl my_113 (by decide) rfl (show _ = [wr 2, wi 3, wi (pts σ 116), wi 3, wi (pts σ 116)] from rfl) ?_
        refine B_iinc rfl my_113 (by decide) rfl rfl rfl (by omega) (by omega) (show _ = [wr 2, wi 3, wi (pts σ 116), wi 4, wi (pts σ 116)] from rfl) ?_
        refine B_goto rfl my_113 rfl (tgt := 15) rfl ?_
        refine B_iloadn rfl my_113 rfl ?_
        refine B_iconst rfl my_113 (by decide) ?_
        refine B_ic_gt rfl my_113 rfl (tgt := 50) (nx := 20) rfl rfl (fun _ => ?_) (fun c9 => absurd c9 (by decide))
        show Bt E 113 50 [wr 2, wi 3, wi (pts σ 116), wi 4, wi (pts σ 116)] [] σ _
        refine B_iloadn rfl my_113 rfl ?_
        refine B_iret rfl my_113 rfl ?_
        refine ⟨congrArg (fun z => some (wi z)) ?_, rfl⟩
        unfold gp
        (repeat' split) <;> omega
    · refine B_iloadn rfl my_113 rfl ?_
      refine B_istoren rfl my_113 (by decide) rfl (show _ = [wr 2, wi 2, wi (pts σ 11), wi 2, wi (pts σ 81)] from rfl) ?_
      refine B_iload rfl my_113 rfl ?_
      refine B_istoren rfl my_113 (by decide) rfl (show _ = [wr 2, wi 2, wi (pts σ 81), wi 2, wi (pts σ 81)] from rfl) ?_
      refine B_iinc rfl my_113 (by decide) rfl rfl rfl (by omega) (by omega) (show _ = [wr 2, wi 2, wi (pts σ 81), wi 3, wi (pts σ 81)] from rfl) ?_
      refine B_goto rfl my_113 rfl (tgt := 15) rfl ?_
      refine B_iloadn rfl my_113 rfl ?_
      refine B_iconst rfl my_113 (by decide) ?_
      refine B_ic_gt rfl my_113 rfl (tgt := 50) (nx := 20) rfl rfl (fun c9 => absurd c9 (by decide)) (fun _ => ?_)
      show Bt E 113 20 [wr 2, wi 2, wi (pts σ 81), wi 3, wi (pts σ 81)] [] σ _
      refine B_aloadn rfl my_113 rfl ?_
      refine B_iloadn rfl my_113 rfl ?_
      refine B_cV hE.1 rfl rfl cw_113_110 (as := [wi 3]) (rest := []) rfl (Nat.le_of_ble_eq_true rfl) (g_tableWith hE (by omega) (by omega)) (fun vo s9 hq => ?_)
      obtain ⟨rfl, rfl⟩ := hq
      show Bt E 113 25 [wr 2, wi 2, wi (pts σ 81), wi 3, wi (pts σ 81)] [wr 116] σ _
      refine B_ref hE.1 rfl my_113 rfl (r := 117) rfl ?_
      refine B_cV hE.1 rfl rfl cw_113_34 (as := []) (rest := []) rfl (Nat.le_of_ble_eq_true rfl) (g_points (T := 116) hE tb116 (hR 116 tb116) (hI 116 tb116)) (fun vo s9 hq => ?_)
      obtain ⟨rfl, rfl⟩ := hq
      show Bt E 113 31 [wr 2, wi 2, wi (pts σ 81), wi 3, wi (pts σ 81)] [wi (pts σ 116)] σ _
      refine B_top (fun r14 => ?_)
      refine B_istore rfl my_113 (by decide) rfl (show _ = [wr 2, wi 2, wi (pts σ 81), wi 3, wi (pts σ 116)] from rfl) ?_
      refine B_iload rfl my_113 rfl ?_
      refine B_iloadn rfl my_113 rfl ?_
      refine B_ic_le rfl my_113 rfl (tgt := 44) (nx := 39) rfl rfl (fun c15 => ?_) (fun c15 => ?_)
      · refine B_iinc rfl my_113 (by decide) rfl rfl rfl (by omega) (by omega) (show _ = [wr 2, wi 2, wi (pts σ 81), wi 4, wi (pts σ 116)] from rfl) ?_
        refine B_goto rfl my_113 rfl (tgt := 15) rfl ?_
        refine B_iloadn rfl my_113 rfl ?_
        refine B_iconst rfl my_113 (by decide) ?_
        refine B_ic_gt rfl my_113 rfl (tgt := 50) (nx := 20) rfl rfl (fun _ => ?_) (fun c9 => absurd c9 (by decide))
        show Bt E 113 50 [wr 2, wi 2, wi (pts σ 81), wi 4, wi (pts σ 116)] [] σ _
        refine B_iloadn rfl my_113 rfl ?_
        refine B_iret rfl my_113 rfl ?_
        refine ⟨congrArg (fun z => some (wi z)) ?_, rfl⟩
        unfold gp
        (repeat' split) <;> omega
      · refine B_iloadn rfl my_113 rfl ?_
        refine B_istoren rfl my_113 (by decide) rfl (show _ = [wr 2, wi 3, wi (pts σ 81), wi 3, wi (pts σ 116)] from rfl) ?_
        refine B_iload rfl my_113 rfl ?_
        refine B_istoren rfl my_113 (by decide) rfl (show _ = [wr 2, wi 3, wi (pts σ 116), wi 3, wi (pts σ 116)] from rfl) ?_
        refine B_iinc rfl my_113 (by decide) rfl rfl rfl (by omega) (by omega) (show _ = [wr 2, wi 3, wi (pts σ 116), wi 4, wi (pts σ 116)] from rfl) ?_
        refine B_goto rfl my_113 rfl (tgt := 15) rfl ?_
        refine B_iloadn rfl my_113 rfl ?_
        refine B_iconst rfl my_113 (by decide) ?_
        refine B_ic_gt rfl my_113 rfl (tgt := 50) (nx := 20) rfl rfl (fun _ => ?_) (fun c9 => absurd c9 (by decide))
        show Bt E 113 50 [wr 2, wi 3, wi (pts σ 116), wi 4, wi (pts σ 116)] [] σ _
        refine B_iloadn rfl my_113 rfl ?_
        refine B_iret rfl my_113 rfl ?_
        refine ⟨congrArg (fun z => some (wi z)) ?_, rfl⟩
        unfold gp
        (repeat' split) <;> omega
  · refine B_iloadn rfl my_113 rfl ?_
    refine B_istoren rfl my_113 (by decide) rfl (show _ = [wr 2, wi 1, wi (pts σ 11), wi 1, wi (pts σ 46)] from rfl) ?_
    refine B_iload rfl my_113 rfl ?_
    refine B_istoren rfl my_113 (by decide) rfl (show _ = [wr 2, wi 1, wi (pts σ 46), wi 1, wi (pts σ 46)] from rfl) ?_
    refine B_iinc rfl my_113 (by decide) rfl rfl rfl (by omega) (by omega) (show _ = [wr 2, wi 1, wi (pts σ 46), wi 2, wi (pts σ 46)] from rfl) ?_
    refine B_goto rfl my_113 rfl (tgt := 15) rfl ?_
    refine B_iloadn rfl my_113 rfl ?_
    refine B_iconst rfl my_113 (by decide) ?_
    refine B_ic_gt rfl my_113 rfl (tgt := 50) (nx := 20) rfl rfl (fun c9 => absurd c9 (by decide)) (fun _ => ?_)
    show Bt E 113 20 [wr 2, wi 1, wi (pts σ 46), wi 2, wi (pts σ 46)] [] σ _
    refine B_aloadn rfl my_113 rfl ?_
    refine B_iloadn rfl my_113 rfl ?_
    refine B_cV hE.1 rfl rfl cw_113_110 (as := [wi 2]) (rest := []) rfl (Nat.le_of_ble_eq_true rfl) (g_tableWith hE (by omega) (by omega)) (fun vo s9 hq => ?_)
    obtain ⟨rfl, rfl⟩ := hq
    show Bt E 113 25 [wr 2, wi 1, wi (pts σ 46), wi 2, wi (pts σ 46)] [wr 81] σ _
    refine B_ref hE.1 rfl my_113 rfl (r := 82) rfl ?_
    refine B_cV hE.1 rfl rfl cw_113_34 (as := []) (rest := []) rfl (Nat.le_of_ble_eq_true rfl) (g_points (T := 81) hE tb81 (hR 81 tb81) (hI 81 tb81)) (fun vo s9 hq => ?_)
    obtain ⟨rfl, rfl⟩ := hq
    show Bt E 113 31 [wr 2, wi 1, wi (pts σ 46), wi 2, wi (pts σ 46)] [wi (pts σ 81)] σ _
    refine B_top (fun r19 => ?_)
    refine B_istore rfl my_113 (by decide) rfl (show _ = [wr 2, wi 1, wi (pts σ 46), wi 2, wi (pts σ 81)] from rfl) ?_
    refine B_iload rfl my_113 rfl ?_
    refine B_iloadn rfl my_113 rfl ?_
    refine B_ic_le rfl my_113 rfl (tgt := 44) (nx := 39) rfl rfl (fun c20 => ?_) (fun c20 => ?_)
    · refine B_iinc rfl my_113 (by decide) rfl rfl rfl (by omega) (by omega) (show _ = [wr 2, wi 1, wi (pts σ 46), wi 3, wi (pts σ 81)] from rfl) ?_
      refine B_goto rfl my_113 rfl (tgt := 15) rfl ?_
      refine B_iloadn rfl my_113 rfl ?_
      refine B_iconst rfl my_113 (by decide) ?_
      refine B_ic_gt rfl my_113 rfl (tgt := 50) (nx := 20) rfl rfl (fun c9 => absurd c9 (by decide)) (fun _ => ?_)
      show Bt E 113 20 [wr 2, wi 1, wi (pts σ 46), wi 3, wi (pts σ 81)] [] σ _
      refine B_aloadn rfl my_113 rfl ?_
      refine B_iloadn rfl my_113 rfl ?_
      refine B_cV hE.1 rfl rfl cw_113_110 (as := [wi 3]) (rest := []) rfl (Nat.le_of_ble_eq_true rfl) (g_tableWith hE (by omega) (by omega)) (fun vo s9 hq => ?_)
      obtain ⟨rfl, rfl⟩ := hq
      show Bt E 113 25 [wr 2, wi 1, wi (pts σ 46), wi 3, wi (pts σ 81)] [wr 116] σ _
      refine B_ref hE.1 rfl my_113 rfl (r := 117) rfl ?_
      refine B_cV hE.1 rfl rfl cw_113_34 (as := []) (rest := []) rfl (Nat.le_of_ble_eq_true rfl) (g_points (T := 116) hE tb116 (hR 116 tb116) (hI 116 tb116)) (fun vo s9 hq => ?_)
      obtain ⟨rfl, rfl⟩ := hq
      show Bt E 113 31 [wr 2, wi 1, wi (pts σ 46), wi 3, wi (pts σ 81)] [wi (pts σ 116)] σ _
      refine B_top (fun r22 => ?_)
      refine B_istore rfl my_113 (by decide) rfl (show _ = [wr 2, wi 1, wi (pts σ 46), wi 3, wi (pts σ 116)] from rfl) ?_
      refine B_iload rfl my_113 rfl ?_
      refine B_iloadn rfl my_113 rfl ?_
      refine B_ic_le rfl my_113 rfl (tgt := 44) (nx := 39) rfl rfl (fun c23 => ?_) (fun c23 => ?_)
      · refine B_iinc rfl my_113 (by decide) rfl rfl rfl (by omega) (by omega) (show _ = [wr 2, wi 1, wi (pts σ 46), wi 4, wi (pts σ 116)] from rfl) ?_
        refine B_goto rfl my_113 rfl (tgt := 15) rfl ?_
        refine B_iloadn rfl my_113 rfl ?_
        refine B_iconst rfl my_113 (by decide) ?_
        refine B_ic_gt rfl my_113 rfl (tgt := 50) (nx := 20) rfl rfl (fun _ => ?_) (fun c9 => absurd c9 (by decide))
        show Bt E 113 50 [wr 2, wi 1, wi (pts σ 46), wi 4, wi (pts σ 116)] [] σ _
        refine B_iloadn rfl my_113 rfl ?_
        refine B_iret rfl my_113 rfl ?_
        refine ⟨congrArg (fun z => some (wi z)) ?_, rfl⟩
        unfold gp
        (repeat' split) <;> omega
      · refine B_iloadn rfl my_113 rfl ?_
        refine B_istoren rfl my_113 (by decide) rfl (show _ = [wr 2, wi 3, wi (pts σ 46), wi 3, wi (pts σ 116)] from rfl) ?_
        refine B_iload rfl my_113 rfl ?_
        refine B_istoren rfl my_113 (by decide) rfl (show _ = [wr 2, wi 3, wi (pts σ 116), wi 3, wi (pts σ 116)] from rfl) ?_
        refine B_iinc rfl my_113 (by decide) rfl rfl rfl (by omega) (by omega) (show _ = [wr 2, wi 3, wi (pts σ 116), wi 4, wi (pts σ 116)] from rfl) ?_
        refine B_goto rfl my_113 rfl (tgt := 15) rfl ?_
        refine B_iloadn rfl my_113 rfl ?_
        refine B_iconst rfl my_113 (by decide) ?_
        refine B_ic_gt rfl my_113 rfl (tgt := 50) (nx := 20) rfl rfl (fun _ => ?_) (fun c9 => absurd c9 (by decide))
        show Bt E 113 50 [wr 2, wi 3, wi (pts σ 116), wi 4, wi (pts σ 116)] [] σ _
        refine B_iloadn rfl my_113 rfl ?_
        refine B_iret rfl my_113 rfl ?_
        refine ⟨congrArg (fun z => some (wi z)) ?_, rfl⟩
        unfold gp
        (repeat' split) <;> omega
    · refine B_iloadn rfl my_113 rfl ?_
      refine B_istoren rfl my_113 (by decide) rfl (show _ = [wr 2, wi 2, wi (pts σ 46), wi 2, wi (pts σ 81)] from rfl) ?_
      refine B_iload rfl my_113 rfl ?_
      refine B_istoren rfl my_113 (by decide) rfl (show _ = [wr 2, wi 2, wi (pts σ 81), wi 2, wi (pts σ 81)] from rfl) ?_
      refine B_iinc rfl my_113 (by decide) rfl rfl rfl (by omega) (by omega) (show _ = [wr 2, wi 2, wi (pts σ 81), wi 3, wi (pts σ 81)] from rfl) ?_
      refine B_goto rfl my_113 rfl (tgt := 15) rfl ?_
      refine B_iloadn rfl my_113 rfl ?_
      refine B_iconst rfl my_113 (by decide) ?_
      refine B_ic_gt rfl my_113 rfl (tgt := 50) (nx := 20) rfl rfl (fun c9 => absurd c9 (by decide)) (fun _ => ?_)
      show Bt E 113 20 [wr 2, wi 2, wi (pts σ 81), wi 3, wi (pts σ 81)] [] σ _
      refine B_aloadn rfl my_113 rfl ?_
      refine B_iloadn rfl my_113 rfl ?_
      refine B_cV hE.1 rfl rfl cw_113_110 (as := [wi 3]) (rest := []) rfl (Nat.le_of_ble_eq_true rfl) (g_tableWith hE (by omega) (by omega)) (fun vo s9 hq => ?_)
      obtain ⟨rfl, rfl⟩ := hq
      show Bt E 113 25 [wr 2, wi 2, wi (pts σ 81), wi 3, wi (pts σ 81)] [wr 116] σ _
      refine B_ref hE.1 rfl my_113 rfl (r := 117) rfl ?_
      refine B_cV hE.1 rfl rfl cw_113_34 (as := []) (rest := []) rfl (Nat.le_of_ble_eq_true rfl) (g_points (T := 116) hE tb116 (hR 116 tb116) (hI 116 tb116)) (fun vo s9 hq => ?_)
      obtain ⟨rfl, rfl⟩ := hq
      show Bt E 113 31 [wr 2, wi 2, wi (pts σ 81), wi 3, wi (pts σ 81)] [wi (pts σ 116)] σ _
      refine B_top (fun r27 => ?_)
      refine B_istore rfl my_113 (by decide) rfl (show _ = [wr 2, wi 2, wi (pts σ 81), wi 3, wi (pts σ 116)] from rfl) ?_
      refine B_iload rfl my_113 rfl ?_
      refine B_iloadn rfl my_113 rfl ?_
      refine B_ic_le rfl my_113 rfl (tgt := 44) (nx := 39) rfl rfl (fun c28 => ?_) (fun c28 => ?_)
      · refine B_iinc rfl my_113 (by decide) rfl rfl rfl (by omega) (by omega) (show _ = [wr 2, wi 2, wi (pts σ 81), wi 4, wi (pts σ 116)] from rfl) ?_
        refine B_goto rfl my_113 rfl (tgt := 15) rfl ?_
        refine B_iloadn rfl my_113 rfl ?_
        refine B_iconst rfl my_113 (by decide) ?_
        refine B_ic_gt rfl my_113 rfl (tgt := 50) (nx := 20) rfl rfl (fun _ => ?_) (fun c9 => absurd c9 (by decide))
        show Bt E 113 50 [wr 2, wi 2, wi (pts σ 81), wi 4, wi (pts σ 116)] [] σ _
        refine B_iloadn rfl my_113 rfl ?_
        refine B_iret rfl my_113 rfl ?_
        refine ⟨congrArg (fun z => some (wi z)) ?_, rfl⟩
        unfold gp
        (repeat' split) <;> omega
      · refine B_iloadn rfl my_113 rfl ?_
        refine B_istoren rfl my_113 (by decide) rfl (show _ = [wr 2, wi 3, wi (pts σ 81), wi 3, wi (pts σ 116)] from rfl) ?_
        refine B_iload rfl my_113 rfl ?_
        refine B_istoren rfl my_113 (by decide) rfl (show _ = [wr 2, wi 3, wi (pts σ 116), wi 3, wi (pts σ 116)] from rfl) ?_
        refine B_iinc rfl my_113 (by decide) rfl rfl rfl (by omega) (by omega) (show _ = [wr 2, wi 3, wi (pts σ 116), wi 4, wi (pts σ 116)] from rfl) ?_
        refine B_goto rfl my_113 rfl (tgt := 15) rfl ?_
        refine B_iloadn rfl my_113 rfl ?_
        refine B_iconst rfl my_113 (by decide) ?_
        refine B_ic_gt rfl my_113 rfl (tgt := 50) (nx := 20) rfl rfl (fun _ => ?_) (fun c9 => absurd c9 (by decide))
        show Bt E 113 50 [wr 2, wi 3, wi (pts σ 116), wi 4, wi (pts σ 116)] [] σ _
        refine B_iloadn rfl my_113 rfl ?_
        refine B_iret rfl my_113 rfl ?_
        refine ⟨congrArg (fun z => some (wi z)) ?_, rfl⟩
        unfold gp
        (repeat' split) <;> omega
