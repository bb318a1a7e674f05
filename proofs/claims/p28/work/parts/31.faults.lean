/-! ===== Table: faults, what is kept ===== -/
theorem cw_1_21 : wcV 1 0 21 1 2 2 = true := by decide +kernel
theorem cw_49_1 : wcV 49 0 1 0 3 3 = true := by decide +kernel
theorem cw_49_20 : wcV 49 0 20 1 1 1 = true := by decide +kernel
theorem cw_49_33 : wcV 49 0 33 2 0 0 = true := by decide +kernel
theorem cw_49_36 : wcV 49 0 36 2 2 2 = true := by decide +kernel
theorem cw_49_50 : wcV 49 0 50 3 3 3 = true := by decide +kernel
theorem cw_50_20 : wcV 50 0 20 1 1 1 = true := by decide +kernel
theorem cw_50_51 : wcV 50 0 51 3 2 2 = true := by decide +kernel
theorem cw_50_74 : wcV 50 0 74 5 1 1 = true := by decide +kernel
theorem cw_50_75 : wcV 50 0 75 5 1 1 = true := by decide +kernel
theorem cw_51_20 : wcV 51 0 20 1 1 1 = true := by decide +kernel
theorem cw_52_20 : wcV 52 0 20 1 1 1 = true := by decide +kernel
theorem cw_52_21 : wcV 52 0 21 1 2 2 = true := by decide +kernel
theorem cw_52_53 : wcV 52 0 53 3 2 2 = true := by decide +kernel
theorem cw_53_33 : wcV 53 0 33 2 0 0 = true := by decide +kernel
theorem cw_53_36 : wcV 53 0 36 2 2 2 = true := by decide +kernel
theorem cw_53_37 : wcV 53 0 37 2 2 2 = true := by decide +kernel
theorem g_isOfKind {E : mE} {σ : wSt} {T : Nat} (hE : wE E) (hT : Tb T) {c n : Int} (hk : kr σ (T + 25) 501 c) : Ev E 51 [wr T, wi c, wi n] σ (fun x => x = 0 ∨ x = 1) := by
  refine Fn.of (nL := 4) ?_
  show Bt E 51 0 [wr T, wi c, wi n, wx] [] σ _
  refine B_rng 1 rfl (fun ha1 => ?_)
  refine B_rng 2 rfl (fun ha2 => ?_)
  refine B_aloadn rfl my_51 rfl ?_
  refine B_ref hE.1 rfl my_51 rfl (r := (T + 25)) (wf_0_3 hT) ?_
  refine B_iloadn rfl my_51 rfl ?_
  refine B_cV hE.1 rfl (nm_25 hT).1 cw_51_20 (as := [wi c]) (rest := []) rfl (Nat.le_of_ble_eq_true rfl) (g_at hE (nm_25 hT) (by decide) hk) (fun vo s9 hq => ?_)
  obtain ⟨rfl, rfl⟩ := hq
  show Bt E 51 8 [wr T, wi c, wi n, wx] [wi (rd σ (T + 25) 501 c)] σ _
  refine B_top (fun r1 => ?_)
  refine B_istoren rfl my_51 (by decide) rfl (show _ = [wr T, wi c, wi n, wi (rd σ (T + 25) 501 c)] from rfl) ?_
  refine B_iloadn rfl my_51 rfl ?_
  refine B_iloadn rfl my_51 rfl ?_
  refine B_ic_eq rfl my_51 rfl (tgt := 33) (nx := 14) rfl rfl (fun c2 => ?_) (fun c2 => ?_)
  · refine B_iconst rfl my_51 (by decide) ?_
    refine B_goto rfl my_51 rfl (tgt := 38) rfl ?_
    refine B_bret rfl my_51 rfl (by omega) ?_
    exact ⟨_, rfl, by omega, rfl⟩
  · refine B_iloadn rfl my_51 rfl ?_
    refine B_if_eq rfl my_51 rfl (tgt := 33) (nx := 18) rfl rfl (fun c3 => ?_) (fun c3 => ?_)
    · refine B_iconst rfl my_51 (by decide) ?_
      refine B_goto rfl my_51 rfl (tgt := 38) rfl ?_
      refine B_bret rfl my_51 rfl (by omega) ?_
      exact ⟨_, rfl, by omega, rfl⟩
    · refine B_iloadn rfl my_51 rfl ?_
      refine B_iconst rfl my_51 (by decide) ?_
      refine B_ic_eq rfl my_51 rfl (tgt := 33) (nx := 23) rfl rfl (fun c4 => ?_) (fun c4 => ?_)
      · refine B_iconst rfl my_51 (by decide) ?_
        refine B_goto rfl my_51 rfl (tgt := 38) rfl ?_
        refine B_bret rfl my_51 rfl (by omega) ?_
        exact ⟨_, rfl, by omega, rfl⟩
      · refine B_iloadn rfl my_51 rfl ?_
        refine B_iconst rfl my_51 (by decide) ?_
        refine B_ic_ne rfl my_51 rfl (tgt := 37) (nx := 28) rfl rfl (fun c5 => ?_) (fun c5 => ?_)
        · refine B_iconst rfl my_51 (by decide) ?_
          refine B_bret rfl my_51 rfl (by omega) ?_
          exact ⟨_, rfl, by omega, rfl⟩
        · refine B_iloadn rfl my_51 rfl ?_
          refine B_iconst rfl my_51 (by decide) ?_
          refine B_ic_ne rfl my_51 rfl (tgt := 37) (nx := 33) rfl rfl (fun c6 => ?_) (fun c6 => ?_)
          · refine B_iconst rfl my_51 (by decide) ?_
            refine B_bret rfl my_51 rfl (by omega) ?_
            exact ⟨_, rfl, by omega, rfl⟩
          · refine B_iconst rfl my_51 (by decide) ?_
            refine B_goto rfl my_51 rfl (tgt := 38) rfl ?_
            refine B_bret rfl my_51 rfl (by omega) ?_
            exact ⟨_, rfl, by omega, rfl⟩
theorem g_faultOfCell {E : mE} {σ : wSt} {T : Nat} (hE : wE E) (hT : Tb T) (hR : KRd T σ) (hI : RI T σ) {c n : Int} (hc : kr σ (T + 31) 20 c) (hk : kr σ (T + 25) 501 n) (hp : kr σ (T + 29) 501 n) (hr : kr σ 9 20 c) (h1 : 0 ≤ n) (h2 : n < gv σ (T + 1) 8) : Ev E 50 [wr T, wr 6, wi c, wi n] σ (fun x => 0 ≤ x ∧ x ≤ 7 ∧ x ≠ 4 ∧ x ≠ 5) := by
  have hcf := hI.2.2.1 n h1 h2
  refine Fn.of (nL := 4) ?_
  show Bt E 50 0 [wr T, wr 6, wi c, wi n] [] σ _
  refine B_rng 2 rfl (fun ha2 => ?_)
  refine B_rng 3 rfl (fun ha3 => ?_)
  refine B_aloadn rfl my_50 rfl ?_
  refine B_ref hE.1 rfl my_50 rfl (r := (T + 1)) (wf_0_0 hT) ?_
  refine B_ref hE.1 rfl my_50 rfl (r := (T + 10)) (wf_1_4 hT) ?_
  refine B_iloadn rfl my_50 rfl ?_
  refine B_cV hE.1 rfl (nm_10 hT).1 cw_50_20 (as := [wi n]) (rest := []) rfl (Nat.le_of_ble_eq_true rfl) (g_at hE (nm_10 hT) (by decide) (kr_of fun _ => hR _ (by omega) (by omega) _)) (fun vo s9 hq => ?_)
  obtain ⟨rfl, rfl⟩ := hq
  show Bt E 50 11 [wr T, wr 6, wi c, wi n] [wi (rd σ (T + 10) 501 n)] σ _
  refine B_top (fun r1 => ?_)
  refine B_if_eq rfl my_50 rfl (tgt := 26) (nx := 14) rfl rfl (fun c2 => ?_) (fun c2 => ?_)
  · refine B_aloadn rfl my_50 rfl ?_
    refine B_iloadn rfl my_50 rfl ?_
    refine B_aloadn rfl my_50 rfl ?_
    refine B_ref hE.1 rfl my_50 rfl (r := (T + 31)) (wf_0_6 hT) ?_
    refine B_iloadn rfl my_50 rfl ?_
    refine B_cV hE.1 rfl (nm_31 hT).1 cw_50_20 (as := [wi c]) (rest := [wi n, wr T]) rfl (Nat.le_of_ble_eq_true rfl) (g_at hE (nm_31 hT) (by decide) hc) (fun vo s9 hq => ?_)
    obtain ⟨rfl, rfl⟩ := hq
    show Bt E 50 36 [wr T, wr 6, wi c, wi n] [wi (rd σ (T + 31) 20 c), wi n, wr T] σ _
    refine B_top (fun r3 => ?_)
    refine B_cV hE.1 rfl (wc_0 hT) cw_50_51 (as := [wi n, wi (rd σ (T + 31) 20 c)]) (rest := []) rfl (Nat.le_of_ble_eq_true rfl) (g_isOfKind hE hT hk) (fun vo s9 hq => ?_)
    obtain ⟨x4, rfl, hz5, rfl⟩ := hq
    show Bt E 50 39 [wr T, wr 6, wi c, wi n] [wi x4] σ _
    refine B_top (fun r6 => ?_)
    refine B_if_ne rfl my_50 rfl (tgt := 44) (nx := 42) rfl rfl (fun c7 => ?_) (fun c7 => ?_)
    · refine B_aloadn rfl my_50 rfl ?_
      refine B_ref hE.1 rfl my_50 rfl (r := (T + 25)) (wf_0_3 hT) ?_
      refine B_iloadn rfl my_50 rfl ?_
      refine B_cV hE.1 rfl (nm_25 hT).1 cw_50_20 (as := [wi n]) (rest := []) rfl (Nat.le_of_ble_eq_true rfl) (g_at hE (nm_25 hT) (by decide) hk) (fun vo s9 hq => ?_)
      obtain ⟨rfl, rfl⟩ := hq
      show Bt E 50 52 [wr T, wr 6, wi c, wi n] [wi (rd σ (T + 25) 501 n)] σ _
      refine B_top (fun r8 => ?_)
      refine B_if_ne rfl my_50 rfl (tgt := 66) (nx := 55) rfl rfl (fun c9 => ?_) (fun c9 => ?_)
      · refine B_aloadn rfl my_50 rfl ?_
        refine B_ref hE.1 rfl my_50 rfl (r := (T + 29)) (wf_0_5 hT) ?_
        refine B_iloadn rfl my_50 rfl ?_
        refine B_cV hE.1 rfl (nm_29 hT).1 cw_50_20 (as := [wi n]) (rest := []) rfl (Nat.le_of_ble_eq_true rfl) (g_at hE (nm_29 hT) (by decide) hp) (fun vo s9 hq => ?_)
        obtain ⟨rfl, rfl⟩ := hq
        show Bt E 50 74 [wr T, wr 6, wi c, wi n] [wi (rd σ (T + 29) 501 n)] σ _
        refine B_top (fun r10 => ?_)
        refine B_iconst rfl my_50 (by decide) ?_
        refine B_ic_ne rfl my_50 rfl (tgt := 91) (nx := 78) rfl rfl (fun c11 => ?_) (fun c11 => ?_)
        · refine B_iconst rfl my_50 (by decide) ?_
          refine B_iret rfl my_50 rfl ?_
          exact ⟨_, rfl, by omega, rfl⟩
        · refine B_aloadn rfl my_50 rfl ?_
          refine B_iloadn rfl my_50 rfl ?_
          refine B_cV hE.1 rfl rfl cw_50_75 (as := [wi c]) (rest := []) rfl (Nat.le_of_ble_eq_true rfl) (g_mustDiffer hE hr) (fun vo s9 hq => ?_)
          obtain ⟨x12, rfl, hz13, rfl⟩ := hq
          show Bt E 50 83 [wr T, wr 6, wi c, wi n] [wi x12] σ _
          refine B_top (fun r14 => ?_)
          refine B_if_eq rfl my_50 rfl (tgt := 91) (nx := 86) rfl rfl (fun c15 => ?_) (fun c15 => ?_)
          · refine B_iconst rfl my_50 (by decide) ?_
            refine B_iret rfl my_50 rfl ?_
            exact ⟨_, rfl, by omega, rfl⟩
          · refine B_bipush rfl my_50 (n := 7) rfl ?_
            refine B_goto rfl my_50 rfl (tgt := 92) rfl ?_
            refine B_iret rfl my_50 rfl ?_
            exact ⟨_, rfl, by omega, rfl⟩
      · refine B_aloadn rfl my_50 rfl ?_
        refine B_iloadn rfl my_50 rfl ?_
        refine B_cV hE.1 rfl rfl cw_50_74 (as := [wi c]) (rest := []) rfl (Nat.le_of_ble_eq_true rfl) (g_mustBeFilled hE hr) (fun vo s9 hq => ?_)
        obtain ⟨x16, rfl, hz17, rfl⟩ := hq
        show Bt E 50 60 [wr T, wr 6, wi c, wi n] [wi x16] σ _
        refine B_top (fun r18 => ?_)
        refine B_if_eq rfl my_50 rfl (tgt := 66) (nx := 63) rfl rfl (fun c19 => ?_) (fun c19 => ?_)
        · refine B_aloadn rfl my_50 rfl ?_
          refine B_ref hE.1 rfl my_50 rfl (r := (T + 29)) (wf_0_5 hT) ?_
          refine B_iloadn rfl my_50 rfl ?_
          refine B_cV hE.1 rfl (nm_29 hT).1 cw_50_20 (as := [wi n]) (rest := []) rfl (Nat.le_of_ble_eq_true rfl) (g_at hE (nm_29 hT) (by decide) hp) (fun vo s9 hq => ?_)
          obtain ⟨rfl, rfl⟩ := hq
          show Bt E 50 74 [wr T, wr 6, wi c, wi n] [wi (rd σ (T + 29) 501 n)] σ _
          refine B_top (fun r20 => ?_)
          refine B_iconst rfl my_50 (by decide) ?_
          refine B_ic_ne rfl my_50 rfl (tgt := 91) (nx := 78) rfl rfl (fun c21 => ?_) (fun c21 => ?_)
          · refine B_iconst rfl my_50 (by decide) ?_
            refine B_iret rfl my_50 rfl ?_
            exact ⟨_, rfl, by omega, rfl⟩
          · refine B_aloadn rfl my_50 rfl ?_
            refine B_iloadn rfl my_50 rfl ?_
            refine B_cV hE.1 rfl rfl cw_50_75 (as := [wi c]) (rest := []) rfl (Nat.le_of_ble_eq_true rfl) (g_mustDiffer hE hr) (fun vo s9 hq => ?_)
            obtain ⟨x22, rfl, hz23, rfl⟩ := hq
            show Bt E 50 83 [wr T, wr 6, wi c, wi n] [wi x22] σ _
            refine B_top (fun r24 => ?_)
            refine B_if_eq rfl my_50 rfl (tgt := 91) (nx := 86) rfl rfl (fun c25 => ?_) (fun c25 => ?_)
            · refine B_iconst rfl my_50 (by decide) ?_
              refine B_iret rfl my_50 rfl ?_
              exact ⟨_, rfl, by omega, rfl⟩
            · refine B_bipush rfl my_50 (n := 7) rfl ?_
              refine B_goto rfl my_50 rfl (tgt := 92) rfl ?_
              refine B_iret rfl my_50 rfl ?_
              exact ⟨_, rfl, by omega, rfl⟩
        · refine B_bipush rfl my_50 (n := 6) rfl ?_
          refine B_iret rfl my_50 rfl ?_
          exact ⟨_, rfl, by omega, rfl⟩
    · refine B_iconst rfl my_50 (by decide) ?_
      refine B_iret rfl my_50 rfl ?_
      exact ⟨_, rfl, by omega, rfl⟩
  · refine B_aloadn rfl my_50 rfl ?_
    refine B_ref hE.1 rfl my_50 rfl (r := (T + 1)) (wf_0_0 hT) ?_
    refine B_ref hE.1 rfl my_50 rfl (r := (T + 10)) (wf_1_4 hT) ?_
    refine B_iloadn rfl my_50 rfl ?_
    refine B_cV hE.1 rfl (nm_10 hT).1 cw_50_20 (as := [wi n]) (rest := []) rfl (Nat.le_of_ble_eq_true rfl) (g_at hE (nm_10 hT) (by decide) (kr_of fun _ => hR _ (by omega) (by omega) _)) (fun vo s9 hq => ?_)
    obtain ⟨rfl, rfl⟩ := hq
    show Bt E 50 25 [wr T, wr 6, wi c, wi n] [wi (rd σ (T + 10) 501 n)] σ _
    refine B_top (fun r26 => ?_)
    refine B_iret rfl my_50 rfl ?_
    exact ⟨_, rfl, by omega, rfl⟩
/-- one fault more -/
def fa (σ : wSt) (T : Nat) (r c k : Int) : wSt := wup (pt (pt (pt σ (T + 17) 561 (gv σ (T + 16) 3) r) (T + 19) 561 (gv σ (T + 16) 3) c) (T + 21) 561 (gv σ (T + 16) 3) k) (T + 16) 3 (gv σ (T + 16) 3 + 1)
/-- where faults stand -/
def Rfl (T a : Nat) : Prop := T + 16 ≤ a ∧ a ≤ T + 22
theorem fa_off {σ : wSt} {T : Nat} {r c k : Int} : Off (Rfl T) σ (fa σ T r c k) := (((off_pt (R := Rfl T) ⟨by omega, by omega⟩).tr (off_pt (R := Rfl T) ⟨by omega, by omega⟩)).tr (off_pt (R := Rfl T) ⟨by omega, by omega⟩)).tr (off_wup (R := Rfl T) ⟨by omega, by omega⟩)
theorem fa_n {σ : wSt} {T : Nat} {r c k : Int} : gv (fa σ T r c k) (T + 16) 3 = gv σ (T + 16) 3 + 1 := gv_eq
theorem fa_r {σ : wSt} {T : Nat} {r c k i : Int} : rd (fa σ T r c k) (T + 17) 561 i = rd (pt σ (T + 17) 561 (gv σ (T + 16) 3) r) (T + 17) 561 i := by
  unfold fa
  rw [rd_wup (by omega), rd_pt_ne (by omega), rd_pt_ne (by omega)]
theorem fa_c {σ : wSt} {T : Nat} {r c k i : Int} : rd (fa σ T r c k) (T + 19) 561 i = rd (pt σ (T + 19) 561 (gv σ (T + 16) 3) c) (T + 19) 561 i := by
  unfold fa
  rw [rd_wup (by omega), rd_pt_ne (by omega), rd_pt, rd_pt, rd_pt_ne (by omega)]
theorem fa_k {σ : wSt} {T : Nat} {r c k i : Int} : rd (fa σ T r c k) (T + 21) 561 i = rd (pt σ (T + 21) 561 (gv σ (T + 16) 3) k) (T + 21) 561 i := by
  unfold fa
  rw [rd_wup (by omega), rd_pt, rd_pt, rd_pt_ne (by omega), rd_pt_ne (by omega)]
theorem g_add {E : mE} {σ : wSt} {T : Nat} (hE : wE E) (hT : Tb T) {r c k : Int} (hn : kn σ (T + 16) 3) (h1 : 0 ≤ gv σ (T + 16) 3) (h2 : gv σ (T + 16) 3 < 561) : Mv E 1 [wr (T + 16), wi r, wi c, wi k] σ (fa σ T r c k) := by
  refine Fn.of (nL := 4) ?_
  show Bt E 1 0 [wr (T + 16), wi r, wi c, wi k] [] σ _
  refine B_rng 1 rfl (fun ha1 => ?_)
  refine B_rng 2 rfl (fun ha2 => ?_)
  refine B_rng 3 rfl (fun ha3 => ?_)
  refine B_aloadn rfl my_1 rfl ?_
  refine B_int hE.1 rfl my_1 rfl (wn_16_3 hT) hn (fun r1 => ?_)
  refine B_sipush rfl my_1 (n := 561) rfl ?_
  refine B_ic_ge rfl my_1 rfl (tgt := 56) (nx := 10) rfl rfl (fun c2 => ?_) (fun c2 => ?_)
  · refine B_ret rfl my_1 rfl ?_
    exfalso
    omega
  · refine B_aloadn rfl my_1 rfl ?_
    refine B_ref hE.1 rfl my_1 rfl (r := (T + 17)) (wf_16_0 hT) ?_
    refine B_aloadn rfl my_1 rfl ?_
    refine B_int hE.1 rfl my_1 rfl (wn_16_3 hT) hn (fun r3 => ?_)
    refine B_iloadn rfl my_1 rfl ?_
    refine B_cV hE.1 rfl (nm_17 hT).1 cw_1_21 (as := [wi (gv σ (T + 16) 3), wi r]) (rest := []) rfl (Nat.le_of_ble_eq_true rfl) (g_put hE (nm_17 hT) (by decide)) (fun vo s9 hq => ?_)
    obtain ⟨rfl, rfl⟩ := hq
    have we4 := (gv_pt (by omega) : gv (pt σ (T + 17) 561 (gv σ (T + 16) 3) r) (T + 16) 3 = gv σ (T + 16) 3)
    show Bt E 1 22 [wr (T + 16), wi r, wi c, wi k] [] (pt σ (T + 17) 561 (gv σ (T + 16) 3) r) _
    refine B_aloadn rfl my_1 rfl ?_
    refine B_ref hE.1 rfl my_1 rfl (r := (T + 19)) (wf_16_1 hT) ?_
    refine B_aloadn rfl my_1 rfl ?_
    refine B_int hE.1 rfl my_1 rfl (wn_16_3 hT) (kn_pt hn) (fun r5 => ?_)
    refine B_iloadn rfl my_1 rfl ?_
    refine B_cV hE.1 rfl (nm_19 hT).1 cw_1_21 (as := [wi (gv (pt σ (T + 17) 561 (gv σ (T + 16) 3) r) (T + 16) 3), wi c]) (rest := []) rfl (Nat.le_of_ble_eq_true rfl) (g_put hE (nm_19 hT) (by decide)) (fun vo s9 hq => ?_)
    obtain ⟨rfl, rfl⟩ := hq
    have we6 := (gv_pt (by omega) : gv (pt (pt σ (T + 17) 561 (gv σ (T + 16) 3) r) (T + 19) 561 (gv (pt σ (T + 17) 561 (gv σ (T + 16) 3) r) (T + 16) 3) c) (T + 16) 3 = gv (pt σ (T + 17) 561 (gv σ (T + 16) 3) r) (T + 16) 3).trans we4
    show Bt E 1 34 [wr (T + 16), wi r, wi c, wi k] [] (pt (pt σ (T + 17) 561 (gv σ (T + 16) 3) r) (T + 19) 561 (gv (pt σ (T + 17) 561 (gv σ (T + 16) 3) r) (T + 16) 3) c) _
    refine B_aloadn rfl my_1 rfl ?_
    refine B_ref hE.1 rfl my_1 rfl (r := (T + 21)) (wf_16_2 hT) ?_
    refine B_aloadn rfl my_1 rfl ?_
    refine B_int hE.1 rfl my_1 rfl (wn_16_3 hT) (kn_pt (kn_pt hn)) (fun r7 => ?_)
    refine B_iloadn rfl my_1 rfl ?_
    refine B_cV hE.1 rfl (nm_21 hT).1 cw_1_21 (as := [wi (gv (pt (pt σ (T + 17) 561 (gv σ (T + 16) 3) r) (T + 19) 561 (gv (pt σ (T + 17) 561 (gv σ (T + 16) 3) r) (T + 16) 3) c) (T + 16) 3), wi k]) (rest := []) rfl (Nat.le_of_ble_eq_true rfl) (g_put hE (nm_21 hT) (by decide)) (fun vo s9 hq => ?_)
    obtain ⟨rfl, rfl⟩ := hq
    have we8 := (gv_pt (by omega) : gv (pt (pt (pt σ (T + 17) 561 (gv σ (T + 16) 3) r) (T + 19) 561 (gv (pt σ (T + 17) 561 (gv σ (T + 16) 3) r) (T + 16) 3) c) (T + 21) 561 (gv (pt (pt σ (T + 17) 561 (gv σ (T + 16) 3) r) (T + 19) 561 (gv (pt σ (T + 17) 561 (gv σ (T + 16) 3) r) (T + 16) 3) c) (T + 16) 3) k) (T + 16) 3 = gv (pt (pt σ (T + 17) 561 (gv σ (T + 16) 3) r) (T + 19) 561 (gv (pt σ (T + 17) 561 (gv σ (T + 16) 3) r) (T + 16) 3) c) (T + 16) 3).trans we6
    show Bt E 1 46 [wr (T + 16), wi r, wi c, wi k] [] (pt (pt (pt σ (T + 17) 561 (gv σ (T + 16) 3) r) (T + 19) 561 (gv (pt σ (T + 17) 561 (gv σ (T + 16) 3) r) (T + 16) 3) c) (T + 21) 561 (gv (pt (pt σ (T + 17) 561 (gv σ (T + 16) 3) r) (T + 19) 561 (gv (pt σ (T + 17) 561 (gv σ (T + 16) 3) r) (T + 16) 3) c) (T + 16) 3) k) _
    refine B_aloadn rfl my_1 rfl ?_
    refine B_dup rfl my_1 (Nat.le_of_ble_eq_true rfl) ?_
    refine B_int hE.1 rfl my_1 rfl (wn_16_3 hT) (kn_pt (kn_pt (kn_pt hn))) (fun r9 => ?_)
    refine B_iconst rfl my_1 (by decide) ?_
    refine B_iadd rfl my_1 (by omega) (by omega) ?_
    refine B_put hE.1 rfl my_1 rfl (wn_16_3 hT) (Or.inl rfl) ?_
    have we10 : gv (wup (pt (pt (pt σ (T + 17) 561 (gv σ (T + 16) 3) r) (T + 19) 561 (gv (pt σ (T + 17) 561 (gv σ (T + 16) 3) r) (T + 16) 3) c) (T + 21) 561 (gv (pt (pt σ (T + 17) 561 (gv σ (T + 16) 3) r) (T + 19) 561 (gv (pt σ (T + 17) 561 (gv σ (T + 16) 3) r) (T + 16) 3) c) (T + 16) 3) k) (T + 16) 3 ((gv (pt (pt (pt σ (T + 17) 561 (gv σ (T + 16) 3) r) (T + 19) 561 (gv (pt σ (T + 17) 561 (gv σ (T + 16) 3) r) (T + 16) 3) c) (T + 21) 561 (gv (pt (pt σ (T + 17) 561 (gv σ (T + 16) 3) r) (T + 19) 561 (gv (pt σ (T + 17) 561 (gv σ (T + 16) 3) r) (T + 16) 3) c) (T + 16) 3) k) (T + 16) 3) + 1)) (T + 16) 3 = _ := gv_eq
    refine B_ret rfl my_1 rfl ?_
    refine ⟨rfl, ?_⟩
    unfold fa
    simp (disch := omega) only [gv_pt]
/-- a fault is one of a row or of a column's cell -/
def FGd (T : Nat) (σ : wSt) (k : Int) : Prop := (rd σ (T + 19) 561 k = -1 ∧ (rd σ (T + 21) 561 k = 4 ∨ rd σ (T + 21) 561 k = 5)) ∨ (0 ≤ rd σ (T + 19) 561 k ∧ rd σ (T + 19) 561 k < min (gv σ (T + 1) 12) 20 ∧ 1 ≤ rd σ (T + 21) 561 k ∧ rd σ (T + 21) 561 k ≤ 7 ∧ rd σ (T + 21) 561 k ≠ 4 ∧ rd σ (T + 21) 561 k ≠ 5)
/-- the faults up to a row: known, in order, of data -/
def FIv (T : Nat) (σ : wSt) (i : Int) : Prop := kn σ (T + 16) 3 ∧ 0 ≤ gv σ (T + 16) 3 ∧ (∀ k, 0 ≤ k → k < gv σ (T + 16) 3 → (kr σ (T + 17) 561 k ∧ kr σ (T + 19) 561 k ∧ kr σ (T + 21) 561 k) ∧ (gv σ T 10 ≤ rd σ (T + 17) 561 k ∧ rd σ (T + 17) 561 k < i) ∧ FGd T σ k) ∧ ∀ k, 0 < k → k < gv σ (T + 16) 3 → rd σ (T + 17) 561 (k - 1) ≤ rd σ (T + 17) 561 k
theorem fi_add {T : Nat} {σ : wSt} {i c k : Int} (h : FIv T σ (i + 1)) (hn : gv σ (T + 16) 3 < 561) (hh : gv σ T 10 ≤ i) (hc : (c = -1 ∧ (k = 4 ∨ k = 5)) ∨ (0 ≤ c ∧ c < min (gv σ (T + 1) 12) 20 ∧ 1 ≤ k ∧ k ≤ 7 ∧ k ≠ 4 ∧ k ≠ 5)) : FIv T (fa σ T i c k) (i + 1) := by
  obtain ⟨h1, h2, h3, h4⟩ := h
  have eh : gv (fa σ T i c k) T 10 = gv σ T 10 := off_gv fa_off (fun e => by have := e.1; omega)
  have eu : gv (fa σ T i c k) (T + 1) 12 = gv σ (T + 1) 12 := off_gv fa_off (fun e => by have := e.1; omega)
  have kp : ∀ {n m : Nat} {j x : Int} {τ : wSt}, kr τ n 561 j → kr (pt τ m 561 x c) n 561 j := fun h => kr_pt h
  refine ⟨?_, ?_, fun q q1 q2 => ?_, fun q q1 q2 => ?_⟩
  · unfold fa
    exact kn_eq
  · rw [fa_n]; omega
  · rw [fa_n] at q2
    unfold FGd
    rw [fa_r, fa_c, fa_k, eh, eu]
    by_cases e : q = gv σ (T + 16) 3
    · subst e
      rw [rd_pt_eq (by omega) (by omega), rd_pt_eq (by omega) (by omega), rd_pt_eq (by omega) (by omega)]
      unfold fa
      exact ⟨⟨kr_wup (kr_pt (kr_pt kr_pt_eq)), kr_wup (kr_pt kr_pt_eq), kr_wup kr_pt_eq⟩, ⟨hh, by omega⟩, hc⟩
    · rw [rd_pt_nk e, rd_pt_nk e, rd_pt_nk e]
      obtain ⟨g1, g2, g3⟩ := h3 q q1 (by omega)
      unfold fa
      exact ⟨⟨kr_wup (kr_pt (kr_pt (kr_pt g1.1))), kr_wup (kr_pt (kr_pt (kr_pt g1.2.1))), kr_wup (kr_pt (kr_pt (kr_pt g1.2.2)))⟩, g2, g3⟩
  · rw [fa_n] at q2
    rw [fa_r, fa_r, rd_pt_nk (show q - 1 ≠ gv σ (T + 16) 3 by omega)]
    by_cases e : q = gv σ (T + 16) 3
    · subst e
      rw [rd_pt_eq (by omega) (by omega)]
      have := (h3 (gv σ (T + 16) 3 - 1) (by omega) (by omega)).2.1
      omega
    · rw [rd_pt_nk e]
      exact h4 q q1 (by omega)
/-- faults that have come are all of a row; those ahead are as they were -/
def Frw (T : Nat) (σ t : wSt) (r : Int) : Prop := (∀ k, k < gv σ (T + 16) 3 → rd t (T + 17) 561 k = rd σ (T + 17) 561 k) ∧ ∀ k, gv σ (T + 16) 3 ≤ k → k < gv t (T + 16) 3 → rd t (T + 17) 561 k = r
theorem frw_add {T : Nat} {σ s : wSt} {r c k : Int} (h : Frw T σ s r) (h1 : gv σ (T + 16) 3 ≤ gv s (T + 16) 3) (h2 : 0 ≤ gv s (T + 16) 3) (h3 : gv s (T + 16) 3 < 561) : Frw T σ (fa s T r c k) r := by
  refine ⟨fun q q1 => ?_, fun q q1 q2 => ?_⟩
  · rw [fa_r, rd_pt_nk (by omega)]
    exact h.1 q q1
  · rw [fa_n] at q2
    rw [fa_r]
    by_cases e : q = gv s (T + 16) 3
    · subst e
      rw [rd_pt_eq (by omega) (by omega)]
    · rw [rd_pt_nk e]
      exact h.2 q q1 (by omega)
theorem fi_up {T : Nat} {σ : wSt} {i j : Int} (h : FIv T σ i) (hij : i ≤ j) : FIv T σ j := by
  obtain ⟨h1, h2, h3, h4⟩ := h
  refine ⟨h1, h2, fun k k1 k2 => ?_, h4⟩
  obtain ⟨g1, g2, g3⟩ := h3 k k1 k2
  exact ⟨g1, ⟨g2.1, by omega⟩, g3⟩
theorem fi_off {T : Nat} {σ s : wSt} {i : Int} {R : Nat → Prop} (h : FIv T σ i) (ho : Off R σ s) (h0 : gv s T 10 = gv σ T 10) (h1 : ¬ R (T + 1)) (h2 : ∀ a, T + 16 ≤ a → a ≤ T + 22 → ¬ R a) : FIv T s i := by
  obtain ⟨g1, g2, g3, g4⟩ := h
  have e3 : gv s (T + 16) 3 = gv σ (T + 16) 3 := off_gv ho (h2 _ (by omega) (by omega))
  have er : ∀ k, rd s (T + 17) 561 k = rd σ (T + 17) 561 k := fun k => off_rd ho (h2 _ (by omega) (by omega))
  refine ⟨(off_kn ho (h2 _ (by omega) (by omega))).mpr g1, by rw [e3]; exact g2, fun k k1 k2 => ?_, fun k k1 k2 => ?_⟩
  · rw [e3] at k2
    obtain ⟨f1, f2, f3⟩ := g3 k k1 k2
    unfold FGd at f3 ⊢
    rw [er, h0, off_rd ho (h2 _ (by omega) (by omega)), off_rd ho (h2 _ (by omega) (by omega)), off_gv ho h1]
    exact ⟨⟨off_kr ho (h2 _ (by omega) (by omega)) f1.1, off_kr ho (h2 _ (by omega) (by omega)) f1.2.1, off_kr ho (h2 _ (by omega) (by omega)) f1.2.2⟩, f2, f3⟩
  · rw [e3] at k2
    rw [er, er]
    exact g4 k k1 k2
theorem l_findFaults {E : mE} {σ : wSt} {T : Nat} (hE : wE E) (hT : Tb T) (hR : KRd T σ) (hI : RI T σ) (hk : KK T σ) (hck : ∀ c, 0 ≤ c → c < min (gv σ (T + 1) 12) 20 → kr σ (T + 31) 20 c) (hrp : ∀ r c, gv σ T 10 ≤ r → r < gv σ (T + 1) 9 → 0 ≤ c → c < min (gv σ (T + 1) 12) 20 → ca σ T r c ≠ -1 → kr σ (T + 29) 501 (ca σ T r c)) (hrl : ∀ c, kr σ 9 20 c) {r : Int} (hr0 : 0 ≤ r) (hr1 : gv σ T 10 ≤ r) (hr2 : r < gv σ (T + 1) 9) (hfn : gv σ (T + 16) 3 ≤ r + rd σ (T + 12) 60 r) {q : Int} : ∀ (k : Nat) (s : wSt) (i : Int), Off (Rfl T) σ s → FIv T s (r + 1) → gv σ (T + 16) 3 ≤ gv s (T + 16) 3 → gv s (T + 16) 3 ≤ gv σ (T + 16) 3 + 1 + min i (min (rd σ (T + 14) 60 r) 20) → 0 ≤ i → i ≤ 20 → (gv s (T + 16) 3 = gv σ (T + 16) 3 → rd σ (T + 14) 60 r = gv σ (T + 1) 12) → Frw T σ s r → (20 - i).toNat ≤ k → Bt E 49 51 [wr T, wr 6, wi r, wi q, wi i, wx, wx] [] s (fun vo t => vo = none ∧ Off (Rfl T) σ t ∧ FIv T t (r + 1) ∧ gv σ (T + 16) 3 ≤ gv t (T + 16) 3 ∧ gv t (T + 16) 3 ≤ gv σ (T + 16) 3 + 1 + min (rd σ (T + 14) 60 r) 20 ∧ (gv t (T + 16) 3 = gv σ (T + 16) 3 → rd σ (T + 14) 60 r = gv σ (T + 1) 12) ∧ Frw T σ t r) := by
  intro k
  induction k with
  | zero =>
    intro s i h1 h2 h3 h4 h5 h6 h7 h8 hm
    have hRs : KRd T s := krd_off hR h1 (fun a e1 e2 e => by have := e.1; omega)
    have hIs : RI T s := ri_off hI h1 (fun a e1 e2 e => by have := e.1; omega)
    have hca : ca s T r i = ca σ T r i := ca_off h1 (fun a e1 e2 e => by have := e.1; omega)
    have e8 : gv s (T + 1) 8 = gv σ (T + 1) 8 := off_gv h1 (fun e => by have := e.1; omega)
    have e10 : gv s T 10 = gv σ T 10 := off_gv h1 (fun e => by have := e.1; omega)
    have e12 : gv s (T + 1) 12 = gv σ (T + 1) 12 := off_gv h1 (fun e => by have := e.1; omega)
    have hv := ca_c hI (r := r) (c := i)
    have hw := hI.2.1 r hr0 hr2
    have h0 := hI.1
    have hu := hI.uw
    have hfn0 := h2.2.1
    refine B_rng 2 rfl (fun ha2 => ?_)
    refine B_rng 3 rfl (fun ha3 => ?_)
    refine B_rng 4 rfl (fun ha4 => ?_)
    refine B_iload rfl my_49 rfl ?_
    refine B_aloadn rfl my_49 rfl ?_
    refine B_ref hE.1 rfl my_49 rfl (r := (T + 1)) (wf_0_0 hT) ?_
    refine B_cV hE.1 rfl (wc_1 hT) cw_49_33 (as := []) (rest := [wi i]) rfl (Nat.le_of_ble_eq_true rfl) (g_columnCount hE hT hRs) (fun vo s9 hq => ?_)
    obtain ⟨rfl, rfl⟩ := hq
    show Bt E 49 60 [wr T, wr 6, wi r, wi q, wi i, wx, wx] [wi (min (gv s (T + 1) 12) 20), wi i] s _
    refine B_top (fun r1 => ?_)
    refine B_ic_ge rfl my_49 rfl (tgt := 119) (nx := 63) rfl rfl (fun c2 => ?_) (fun c2 => ?_)
    · refine B_ret rfl my_49 rfl ?_
      exact ⟨rfl, h1, h2, by omega, by omega, h7, h8⟩
    · exact absurd hm (by omega)
  | succ k ih =>
    intro s i h1 h2 h3 h4 h5 h6 h7 h8 hm
    have hRs : KRd T s := krd_off hR h1 (fun a e1 e2 e => by have := e.1; omega)
    have hIs : RI T s := ri_off hI h1 (fun a e1 e2 e => by have := e.1; omega)
    have hca : ca s T r i = ca σ T r i := ca_off h1 (fun a e1 e2 e => by have := e.1; omega)
    have e8 : gv s (T + 1) 8 = gv σ (T + 1) 8 := off_gv h1 (fun e => by have := e.1; omega)
    have e10 : gv s T 10 = gv σ T 10 := off_gv h1 (fun e => by have := e.1; omega)
    have e12 : gv s (T + 1) 12 = gv σ (T + 1) 12 := off_gv h1 (fun e => by have := e.1; omega)
    have hv := ca_c hI (r := r) (c := i)
    have hw := hI.2.1 r hr0 hr2
    have h0 := hI.1
    have hu := hI.uw
    have hfn0 := h2.2.1
    refine B_rng 2 rfl (fun ha2 => ?_)
    refine B_rng 3 rfl (fun ha3 => ?_)
    refine B_rng 4 rfl (fun ha4 => ?_)
    refine B_iload rfl my_49 rfl ?_
    refine B_aloadn rfl my_49 rfl ?_
    refine B_ref hE.1 rfl my_49 rfl (r := (T + 1)) (wf_0_0 hT) ?_
    refine B_cV hE.1 rfl (wc_1 hT) cw_49_33 (as := []) (rest := [wi i]) rfl (Nat.le_of_ble_eq_true rfl) (g_columnCount hE hT hRs) (fun vo s9 hq => ?_)
    obtain ⟨rfl, rfl⟩ := hq
    show Bt E 49 60 [wr T, wr 6, wi r, wi q, wi i, wx, wx] [wi (min (gv s (T + 1) 12) 20), wi i] s _
    refine B_top (fun r1 => ?_)
    refine B_ic_ge rfl my_49 rfl (tgt := 119) (nx := 63) rfl rfl (fun c2 => ?_) (fun c2 => ?_)
    · refine B_ret rfl my_49 rfl ?_
      exact ⟨rfl, h1, h2, by omega, by omega, h7, h8⟩
    · refine B_aloadn rfl my_49 rfl ?_
      refine B_ref hE.1 rfl my_49 rfl (r := (T + 1)) (wf_0_0 hT) ?_
      refine B_iloadn rfl my_49 rfl ?_
      refine B_iload rfl my_49 rfl ?_
      refine B_cV hE.1 rfl (wc_1 hT) cw_49_36 (as := [wi r, wi i]) (rest := []) rfl (Nat.le_of_ble_eq_true rfl) (g_cellAt hE hT hRs hIs) (fun vo s9 hq => ?_)
      obtain ⟨rfl, rfl⟩ := hq
      show Bt E 49 73 [wr T, wr 6, wi r, wi q, wi i, wx, wx] [wi (ca s T r i)] s _
      refine B_top (fun r3 => ?_)
      refine B_istore rfl my_49 (by decide) rfl (show _ = [wr T, wr 6, wi r, wi q, wi i, wi (ca s T r i), wx] from rfl) ?_
      refine B_iload rfl my_49 rfl ?_
      refine B_iconst rfl my_49 (by decide) ?_
      refine B_ic_ne rfl my_49 rfl (tgt := 85) (nx := 81) rfl rfl (fun c4 => ?_) (fun c4 => ?_)
      · refine B_aloadn rfl my_49 rfl ?_
        refine B_aloadn rfl my_49 rfl ?_
        refine B_iload rfl my_49 rfl ?_
        refine B_iload rfl my_49 rfl ?_
        refine B_cV hE.1 rfl (wc_0 hT) cw_49_50 (as := [wr 6, wi i, wi (ca s T r i)]) (rest := []) rfl (Nat.le_of_ble_eq_true rfl) (g_faultOfCell hE hT hRs hIs (off_kr h1 (fun e => by have := e.2; omega) (hck _ (by omega) (by omega))) (by rw [hca]; exact off_kr h1 (fun e => by have := e.2; omega) (kr_ca hI hk)) (by rw [hca]; exact off_kr h1 (fun e => by have := e.2; omega) (hrp _ _ (by omega) (by omega) (by omega) (by omega) (by omega))) (off_kr h1 (fun e => by have := e.1; have := e.2; omega) (hrl _)) (by omega) (by omega)) (fun vo s9 hq => ?_)
        obtain ⟨x5, rfl, hz6, rfl⟩ := hq
        show Bt E 49 94 [wr T, wr 6, wi r, wi q, wi i, wi (ca s T r i), wx] [wi x5] s _
        refine B_top (fun r7 => ?_)
        refine B_istore rfl my_49 (by decide) rfl (show _ = [wr T, wr 6, wi r, wi q, wi i, wi (ca s T r i), wi x5] from rfl) ?_
        refine B_iload rfl my_49 rfl ?_
        refine B_if_eq rfl my_49 rfl (tgt := 113) (nx := 101) rfl rfl (fun c8 => ?_) (fun c8 => ?_)
        · refine B_iinc rfl my_49 (by decide) rfl rfl rfl (by omega) (by omega) (show _ = [wr T, wr 6, wi r, wi q, wi (i + 1), wi (ca s T r i), wi x5] from rfl) ?_
          refine B_goto rfl my_49 rfl (tgt := 51) rfl ?_
          refine B_loc (l' := [wr T, wr 6, wi r, wi q, wi (i + 1), wx, wx]) ⟨Or.inl rfl, Or.inl rfl, Or.inl rfl, Or.inl rfl, Or.inl rfl, Or.inr rfl, Or.inr rfl, trivial⟩ ?_
          exact ih _ _ h1 h2 (by omega) (by omega) (by omega) (by omega) h7 h8 (by omega)
        · refine B_aloadn rfl my_49 rfl ?_
          refine B_ref hE.1 rfl my_49 rfl (r := (T + 16)) (wf_0_1 hT) ?_
          refine B_iloadn rfl my_49 rfl ?_
          refine B_iload rfl my_49 rfl ?_
          refine B_iload rfl my_49 rfl ?_
          refine B_cV hE.1 rfl (wc_16 hT) cw_49_1 (as := [wi r, wi i, wi x5]) (rest := []) rfl (Nat.le_of_ble_eq_true rfl) (g_add hE hT h2.1 (by omega) (by omega)) (fun vo s9 hq => ?_)
          obtain ⟨rfl, rfl⟩ := hq
          show Bt E 49 113 [wr T, wr 6, wi r, wi q, wi i, wi (ca s T r i), wi x5] [] (fa s T r i x5) _
          refine B_iinc rfl my_49 (by decide) rfl rfl rfl (by omega) (by omega) (show _ = [wr T, wr 6, wi r, wi q, wi (i + 1), wi (ca s T r i), wi x5] from rfl) ?_
          refine B_goto rfl my_49 rfl (tgt := 51) rfl ?_
          refine B_loc (l' := [wr T, wr 6, wi r, wi q, wi (i + 1), wx, wx]) ⟨Or.inl rfl, Or.inl rfl, Or.inl rfl, Or.inl rfl, Or.inl rfl, Or.inr rfl, Or.inr rfl, trivial⟩ ?_
          refine ih _ _ (h1.tr fa_off) (fi_add h2 (by omega) (by omega) (by omega)) ?_ ?_ (by omega) (by omega) (fun g => ?_) (frw_add h8 (by omega) (by omega) (by omega)) (by omega)
          · rw [fa_n]; omega
          · rw [fa_n]; omega
          · rw [fa_n] at g
            omega
      · refine B_iconst rfl my_49 (by decide) ?_
        refine B_goto rfl my_49 rfl (tgt := 94) rfl ?_
        refine B_istore rfl my_49 (by decide) rfl (show _ = [wr T, wr 6, wi r, wi q, wi i, wi (ca s T r i), wi 0] from rfl) ?_
        refine B_iload rfl my_49 rfl ?_
        refine B_if_eq rfl my_49 rfl (tgt := 113) (nx := 101) rfl rfl (fun _ => ?_) (fun c9 => absurd c9 (by decide))
        show Bt E 49 113 [wr T, wr 6, wi r, wi q, wi i, wi (ca s T r i), wi 0] [] s _
        refine B_iinc rfl my_49 (by decide) rfl rfl rfl (by omega) (by omega) (show _ = [wr T, wr 6, wi r, wi q, wi (i + 1), wi (ca s T r i), wi 0] from rfl) ?_
        refine B_goto rfl my_49 rfl (tgt := 51) rfl ?_
        refine B_loc (l' := [wr T, wr 6, wi r, wi q, wi (i + 1), wx, wx]) ⟨Or.inl rfl, Or.inl rfl, Or.inl rfl, Or.inl rfl, Or.inl rfl, Or.inr rfl, Or.inr rfl, trivial⟩ ?_
        exact ih _ _ h1 h2 (by omega) (by omega) (by omega) (by omega) h7 h8 (by omega)
theorem g_findFaults {E : mE} {σ : wSt} {T : Nat} (hE : wE E) (hT : Tb T) (hR : KRd T σ) (hI : RI T σ) (hk : KK T σ) (hck : ∀ c, 0 ≤ c → c < min (gv σ (T + 1) 12) 20 → kr σ (T + 31) 20 c) (hrp : ∀ r c, gv σ T 10 ≤ r → r < gv σ (T + 1) 9 → 0 ≤ c → c < min (gv σ (T + 1) 12) 20 → ca σ T r c ≠ -1 → kr σ (T + 29) 501 (ca σ T r c)) (hrl : ∀ c, kr σ 9 20 c) {r : Int} (hr0 : 0 ≤ r) (hr1 : gv σ T 10 ≤ r) (hr2 : r < gv σ (T + 1) 9) (hfn : gv σ (T + 16) 3 ≤ r + rd σ (T + 12) 60 r) (hf : FIv T σ r) : Fn E 49 [wr T, wr 6, wi r] σ (fun vo t => vo = none ∧ Off (Rfl T) σ t ∧ FIv T t (r + 1) ∧ gv σ (T + 16) 3 ≤ gv t (T + 16) 3 ∧ gv t (T + 16) 3 ≤ gv σ (T + 16) 3 + 1 + min (rd σ (T + 14) 60 r) 20 ∧ (gv t (T + 16) 3 = gv σ (T + 16) 3 → rd σ (T + 14) 60 r = gv σ (T + 1) 12) ∧ Frw T σ t r) := by
  have h0 := hI.1
  have hw := hI.2.1 r hr0 hr2
  have hf2 := hf.2.1
  have hu := hI.uw
  refine Fn.of (nL := 7) ?_
  show Bt E 49 0 [wr T, wr 6, wi r, wx, wx, wx, wx] [] σ _
  refine B_rng 2 rfl (fun ha2 => ?_)
  refine B_aloadn rfl my_49 rfl ?_
  refine B_ref hE.1 rfl my_49 rfl (r := (T + 1)) (wf_0_0 hT) ?_
  refine B_ref hE.1 rfl my_49 rfl (r := (T + 14)) (wf_1_6 hT) ?_
  refine B_iloadn rfl my_49 rfl ?_
  refine B_cV hE.1 rfl (nm_14 hT).1 cw_49_20 (as := [wi r]) (rest := []) rfl (Nat.le_of_ble_eq_true rfl) (g_at hE (nm_14 hT) (by decide) (kr_of fun _ => hR _ (by omega) (by omega) _)) (fun vo s9 hq => ?_)
  obtain ⟨rfl, rfl⟩ := hq
  show Bt E 49 11 [wr T, wr 6, wi r, wx, wx, wx, wx] [wi (rd σ (T + 14) 60 r)] σ _
  refine B_top (fun r1 => ?_)
  refine B_istoren rfl my_49 (by decide) rfl (show _ = [wr T, wr 6, wi r, wi (rd σ (T + 14) 60 r), wx, wx, wx] from rfl) ?_
  refine B_iloadn rfl my_49 rfl ?_
  refine B_aloadn rfl my_49 rfl ?_
  refine B_ref hE.1 rfl my_49 rfl (r := (T + 1)) (wf_0_0 hT) ?_
  refine B_int hE.1 rfl my_49 rfl (wn_1_12 hT) (hR _ (by omega) (by omega) _) (fun r2 => ?_)
  refine B_ic_eq rfl my_49 rfl (tgt := 48) (nx := 23) rfl rfl (fun c3 => ?_) (fun c3 => ?_)
  · refine B_iconst rfl my_49 (by decide) ?_
    refine B_istore rfl my_49 (by decide) rfl (show _ = [wr T, wr 6, wi r, wi (rd σ (T + 14) 60 r), wi 0, wx, wx] from rfl) ?_
    exact l_findFaults hE hT hR hI hk hck hrp hrl hr0 hr1 hr2 hfn _ σ 0 Off.rf (fi_up hf (by omega)) (by omega) (by omega) (by omega) (by omega) (fun _ => by omega) ⟨fun _ _ => rfl, fun k k1 k2 => by omega⟩ (Nat.le_refl _)
  · refine B_aloadn rfl my_49 rfl ?_
    refine B_ref hE.1 rfl my_49 rfl (r := (T + 16)) (wf_0_1 hT) ?_
    refine B_iloadn rfl my_49 rfl ?_
    refine B_iconst rfl my_49 (by decide) ?_
    refine B_iloadn rfl my_49 rfl ?_
    refine B_aloadn rfl my_49 rfl ?_
    refine B_ref hE.1 rfl my_49 rfl (r := (T + 1)) (wf_0_0 hT) ?_
    refine B_int hE.1 rfl my_49 rfl (wn_1_12 hT) (hR _ (by omega) (by omega) _) (fun r4 => ?_)
    refine B_ic_ge rfl my_49 rfl (tgt := 44) (nx := 40) rfl rfl (fun c5 => ?_) (fun c5 => ?_)
    · refine B_iconst rfl my_49 (by decide) ?_
      refine B_cV hE.1 rfl (wc_16 hT) cw_49_1 (as := [wi r, wi (-1), wi 5]) (rest := []) rfl (Nat.le_of_ble_eq_true rfl) (g_add hE hT hf.1 (by omega) (by omega)) (fun vo s9 hq => ?_)
      obtain ⟨rfl, rfl⟩ := hq
      show Bt E 49 48 [wr T, wr 6, wi r, wi (rd σ (T + 14) 60 r), wx, wx, wx] [] (fa σ T r (-1) 5) _
      refine B_iconst rfl my_49 (by decide) ?_
      refine B_istore rfl my_49 (by decide) rfl (show _ = [wr T, wr 6, wi r, wi (rd σ (T + 14) 60 r), wi 0, wx, wx] from rfl) ?_
      refine l_findFaults hE hT hR hI hk hck hrp hrl hr0 hr1 hr2 hfn _ _ 0 fa_off (fi_add (fi_up hf (by omega)) (by omega) (by omega) (by omega)) ?_ ?_ (by omega) (by omega) (fun g => ?_) (frw_add ⟨fun _ _ => rfl, fun k k1 k2 => by omega⟩ (by omega) (by omega) (by omega)) (Nat.le_refl _)
      · rw [fa_n]; omega
      · rw [fa_n]; omega
      · rw [fa_n] at g
        omega
    · refine B_iconst rfl my_49 (by decide) ?_
      refine B_goto rfl my_49 rfl (tgt := 45) rfl ?_
      refine B_cV hE.1 rfl (wc_16 hT) cw_49_1 (as := [wi r, wi (-1), wi 4]) (rest := []) rfl (Nat.le_of_ble_eq_true rfl) (g_add hE hT hf.1 (by omega) (by omega)) (fun vo s9 hq => ?_)
      obtain ⟨rfl, rfl⟩ := hq
      show Bt E 49 48 [wr T, wr 6, wi r, wi (rd σ (T + 14) 60 r), wx, wx, wx] [] (fa σ T r (-1) 4) _
      refine B_iconst rfl my_49 (by decide) ?_
      refine B_istore rfl my_49 (by decide) rfl (show _ = [wr T, wr 6, wi r, wi (rd σ (T + 14) 60 r), wi 0, wx, wx] from rfl) ?_
      refine l_findFaults hE hT hR hI hk hck hrp hrl hr0 hr1 hr2 hfn _ _ 0 fa_off (fi_add (fi_up hf (by omega)) (by omega) (by omega) (by omega)) ?_ ?_ (by omega) (by omega) (fun g => ?_) (frw_add ⟨fun _ _ => rfl, fun k k1 k2 => by omega⟩ (by omega) (by omega) (by omega)) (Nat.le_refl _)
      · rw [fa_n]; omega
      · rw [fa_n]; omega
      · rw [fa_n] at g
        omega
theorem l_isSameRow {E : mE} {σ : wSt} {T : Nat} (hE : wE E) (hT : Tb T) (hR : KRd T σ) (hI : RI T σ) {a b : Int} : ∀ (k : Nat) (i : Int), 0 ≤ i → i ≤ 20 → (20 - i).toNat ≤ k → Bt E 53 2 [wr T, wi a, wi b, wi i] [] σ (fun vo t => ∃ x, vo = some (wi x) ∧ (x = 0 ∨ x = 1) ∧ σ = t) := by
  intro k
  induction k with
  | zero =>
    intro i h1 h2 hm
    refine B_rng 1 rfl (fun ha1 => ?_)
    refine B_rng 2 rfl (fun ha2 => ?_)
    refine B_rng 3 rfl (fun ha3 => ?_)
    refine B_iloadn rfl my_53 rfl ?_
    refine B_aloadn rfl my_53 rfl ?_
    refine B_ref hE.1 rfl my_53 rfl (r := (T + 1)) (wf_0_0 hT) ?_
    refine B_cV hE.1 rfl (wc_1 hT) cw_53_33 (as := []) (rest := [wi i]) rfl (Nat.le_of_ble_eq_true rfl) (g_columnCount hE hT hR) (fun vo s9 hq => ?_)
    obtain ⟨rfl, rfl⟩ := hq
    show Bt E 53 10 [wr T, wi a, wi b, wi i] [wi (min (gv σ (T + 1) 12) 20), wi i] σ _
    refine B_top (fun r1 => ?_)
    refine B_ic_ge rfl my_53 rfl (tgt := 49) (nx := 13) rfl rfl (fun c2 => ?_) (fun c2 => ?_)
    · refine B_iconst rfl my_53 (by decide) ?_
      refine B_bret rfl my_53 rfl (by omega) ?_
      exact ⟨_, rfl, by omega, rfl⟩
    · exact absurd hm (by omega)
  | succ k ih =>
    intro i h1 h2 hm
    refine B_rng 1 rfl (fun ha1 => ?_)
    refine B_rng 2 rfl (fun ha2 => ?_)
    refine B_rng 3 rfl (fun ha3 => ?_)
    refine B_iloadn rfl my_53 rfl ?_
    refine B_aloadn rfl my_53 rfl ?_
    refine B_ref hE.1 rfl my_53 rfl (r := (T + 1)) (wf_0_0 hT) ?_
    refine B_cV hE.1 rfl (wc_1 hT) cw_53_33 (as := []) (rest := [wi i]) rfl (Nat.le_of_ble_eq_true rfl) (g_columnCount hE hT hR) (fun vo s9 hq => ?_)
    obtain ⟨rfl, rfl⟩ := hq
    show Bt E 53 10 [wr T, wi a, wi b, wi i] [wi (min (gv σ (T + 1) 12) 20), wi i] σ _
    refine B_top (fun r1 => ?_)
    refine B_ic_ge rfl my_53 rfl (tgt := 49) (nx := 13) rfl rfl (fun c2 => ?_) (fun c2 => ?_)
    · refine B_iconst rfl my_53 (by decide) ?_
      refine B_bret rfl my_53 rfl (by omega) ?_
      exact ⟨_, rfl, by omega, rfl⟩
    · refine B_aloadn rfl my_53 rfl ?_
      refine B_ref hE.1 rfl my_53 rfl (r := (T + 1)) (wf_0_0 hT) ?_
      refine B_aloadn rfl my_53 rfl ?_
      refine B_ref hE.1 rfl my_53 rfl (r := (T + 1)) (wf_0_0 hT) ?_
      refine B_iloadn rfl my_53 rfl ?_
      refine B_iloadn rfl my_53 rfl ?_
      refine B_cV hE.1 rfl (wc_1 hT) cw_53_36 (as := [wi a, wi i]) (rest := [wr (T + 1)]) rfl (Nat.le_of_ble_eq_true rfl) (g_cellAt hE hT hR hI) (fun vo s9 hq => ?_)
      obtain ⟨rfl, rfl⟩ := hq
      show Bt E 53 26 [wr T, wi a, wi b, wi i] [wi (ca σ T a i), wr (T + 1)] σ _
      refine B_top (fun r3 => ?_)
      refine B_aloadn rfl my_53 rfl ?_
      refine B_ref hE.1 rfl my_53 rfl (r := (T + 1)) (wf_0_0 hT) ?_
      refine B_iloadn rfl my_53 rfl ?_
      refine B_iloadn rfl my_53 rfl ?_
      refine B_cV hE.1 rfl (wc_1 hT) cw_53_36 (as := [wi b, wi i]) (rest := [wi (ca σ T a i), wr (T + 1)]) rfl (Nat.le_of_ble_eq_true rfl) (g_cellAt hE hT hR hI) (fun vo s9 hq => ?_)
      obtain ⟨rfl, rfl⟩ := hq
      show Bt E 53 35 [wr T, wi a, wi b, wi i] [wi (ca σ T b i), wi (ca σ T a i), wr (T + 1)] σ _
      refine B_top (fun r4 => ?_)
      refine B_cV hE.1 rfl (wc_1 hT) cw_53_37 (as := [wi (ca σ T a i), wi (ca σ T b i)]) (rest := []) rfl (Nat.le_of_ble_eq_true rfl) (g_haveSameSigns hE hT hR) (fun vo s9 hq => ?_)
      obtain ⟨x5, rfl, ⟨hz6, _⟩, rfl⟩ := hq
      show Bt E 53 38 [wr T, wi a, wi b, wi i] [wi x5] σ _
      refine B_top (fun r7 => ?_)
      refine B_if_ne rfl my_53 rfl (tgt := 43) (nx := 41) rfl rfl (fun c8 => ?_) (fun c8 => ?_)
      · refine B_iinc rfl my_53 (by decide) rfl rfl rfl (by omega) (by omega) (show _ = [wr T, wi a, wi b, wi (i + 1)] from rfl) ?_
        refine B_goto rfl my_53 rfl (tgt := 2) rfl ?_
        exact ih _ (by omega) (by omega) (by omega)
      · refine B_iconst rfl my_53 (by decide) ?_
        refine B_bret rfl my_53 rfl (by omega) ?_
        exact ⟨_, rfl, by omega, rfl⟩
theorem g_isSameRow {E : mE} {σ : wSt} {T : Nat} (hE : wE E) (hT : Tb T) (hR : KRd T σ) (hI : RI T σ) {a b : Int} : Ev E 53 [wr T, wi a, wi b] σ (fun x => x = 0 ∨ x = 1) := by
  refine Fn.of (nL := 4) ?_
  show Bt E 53 0 [wr T, wi a, wi b, wx] [] σ _
  refine B_rng 1 rfl (fun ha1 => ?_)
  refine B_rng 2 rfl (fun ha2 => ?_)
  refine B_iconst rfl my_53 (by decide) ?_
  refine B_istoren rfl my_53 (by decide) rfl (show _ = [wr T, wi a, wi b, wi 0] from rfl) ?_
  exact l_isSameRow hE hT hR hI _ 0 (by omega) (by omega) (Nat.le_refl _)
theorem l_keepOnce {E : mE} {σ : wSt} {T : Nat} (hE : wE E) (hT : Tb T) (hR : KRd T σ) (hI : RI T σ) (hkc : kn σ T 11) (hkp : ∀ q, 0 ≤ q → q < gv σ T 11 → kr σ (T + 23) 60 q) (hk0 : 0 ≤ gv σ T 11) (hk6 : gv σ T 11 < 60) {r : Int} : ∀ (k : Nat) (i : Int), 0 ≤ i → (gv σ T 11 - i).toNat ≤ k → Bt E 52 2 [wr T, wi r, wi i] [] σ (fun vo t => vo = none ∧ (σ = t ∨ wup (pt σ (T + 23) 60 (gv σ T 11) r) T 11 (gv σ T 11 + 1) = t)) := by
  intro k
  induction k with
  | zero =>
    intro i h1 hm
    refine B_rng 1 rfl (fun ha1 => ?_)
    refine B_rng 2 rfl (fun ha2 => ?_)
    refine B_iloadn rfl my_52 rfl ?_
    refine B_aloadn rfl my_52 rfl ?_
    refine B_int hE.1 rfl my_52 rfl (wn_0_11 hT) hkc (fun r1 => ?_)
    refine B_ic_ge rfl my_52 rfl (tgt := 33) (nx := 10) rfl rfl (fun c2 => ?_) (fun c2 => ?_)
    · refine B_aloadn rfl my_52 rfl ?_
      refine B_ref hE.1 rfl my_52 rfl (r := (T + 23)) (wf_0_2 hT) ?_
      refine B_aloadn rfl my_52 rfl ?_
      refine B_int hE.1 rfl my_52 rfl (wn_0_11 hT) hkc (fun r3 => ?_)
      refine B_iloadn rfl my_52 rfl ?_
      refine B_cV hE.1 rfl (nm_23 hT).1 cw_52_21 (as := [wi (gv σ T 11), wi r]) (rest := []) rfl (Nat.le_of_ble_eq_true rfl) (g_put hE (nm_23 hT) (by decide)) (fun vo s9 hq => ?_)
      obtain ⟨rfl, rfl⟩ := hq
      have we4 := (gv_pt (by omega) : gv (pt σ (T + 23) 60 (gv σ T 11) r) T 11 = gv σ T 11)
      show Bt E 52 45 [wr T, wi r, wi i] [] (pt σ (T + 23) 60 (gv σ T 11) r) _
      refine B_aloadn rfl my_52 rfl ?_
      refine B_dup rfl my_52 (Nat.le_of_ble_eq_true rfl) ?_
      refine B_int hE.1 rfl my_52 rfl (wn_0_11 hT) (kn_pt hkc) (fun r5 => ?_)
      refine B_iconst rfl my_52 (by decide) ?_
      refine B_iadd rfl my_52 (by omega) (by omega) ?_
      refine B_put hE.1 rfl my_52 rfl (wn_0_11 hT) (Or.inl rfl) ?_
      have we6 : gv (wup (pt σ (T + 23) 60 (gv σ T 11) r) T 11 ((gv (pt σ (T + 23) 60 (gv σ T 11) r) T 11) + 1)) T 11 = _ := gv_eq
      refine B_ret rfl my_52 rfl ?_
      exact ⟨rfl, Or.inr (by rw [gv_pt (by omega)])⟩
    · exact absurd hm (by omega)
  | succ k ih =>
    intro i h1 hm
    refine B_rng 1 rfl (fun ha1 => ?_)
    refine B_rng 2 rfl (fun ha2 => ?_)
    refine B_iloadn rfl my_52 rfl ?_
    refine B_aloadn rfl my_52 rfl ?_
    refine B_int hE.1 rfl my_52 rfl (wn_0_11 hT) hkc (fun r1 => ?_)
    refine B_ic_ge rfl my_52 rfl (tgt := 33) (nx := 10) rfl rfl (fun c2 => ?_) (fun c2 => ?_)
    · refine B_aloadn rfl my_52 rfl ?_
      refine B_ref hE.1 rfl my_52 rfl (r := (T + 23)) (wf_0_2 hT) ?_
      refine B_aloadn rfl my_52 rfl ?_
      refine B_int hE.1 rfl my_52 rfl (wn_0_11 hT) hkc (fun r3 => ?_)
      refine B_iloadn rfl my_52 rfl ?_
      refine B_cV hE.1 rfl (nm_23 hT).1 cw_52_21 (as := [wi (gv σ T 11), wi r]) (rest := []) rfl (Nat.le_of_ble_eq_true rfl) (g_put hE (nm_23 hT) (by decide)) (fun vo s9 hq => ?_)
      obtain ⟨rfl, rfl⟩ := hq
      have we4 := (gv_pt (by omega) : gv (pt σ (T + 23) 60 (gv σ T 11) r) T 11 = gv σ T 11)
      show Bt E 52 45 [wr T, wi r, wi i] [] (pt σ (T + 23) 60 (gv σ T 11) r) _
      refine B_aloadn rfl my_52 rfl ?_
      refine B_dup rfl my_52 (Nat.le_of_ble_eq_true rfl) ?_
      refine B_int hE.1 rfl my_52 rfl (wn_0_11 hT) (kn_pt hkc) (fun r5 => ?_)
      refine B_iconst rfl my_52 (by decide) ?_
      refine B_iadd rfl my_52 (by omega) (by omega) ?_
      refine B_put hE.1 rfl my_52 rfl (wn_0_11 hT) (Or.inl rfl) ?_
      have we6 : gv (wup (pt σ (T + 23) 60 (gv σ T 11) r) T 11 ((gv (pt σ (T + 23) 60 (gv σ T 11) r) T 11) + 1)) T 11 = _ := gv_eq
      refine B_ret rfl my_52 rfl ?_
      exact ⟨rfl, Or.inr (by rw [gv_pt (by omega)])⟩
    · refine B_aloadn rfl my_52 rfl ?_
      refine B_aloadn rfl my_52 rfl ?_
      refine B_ref hE.1 rfl my_52 rfl (r := (T + 23)) (wf_0_2 hT) ?_
      refine B_iloadn rfl my_52 rfl ?_
      refine B_cV hE.1 rfl (nm_23 hT).1 cw_52_20 (as := [wi i]) (rest := [wr T]) rfl (Nat.le_of_ble_eq_true rfl) (g_at hE (nm_23 hT) (by decide) (hkp _ (by omega) (by omega))) (fun vo s9 hq => ?_)
      obtain ⟨rfl, rfl⟩ := hq
      show Bt E 52 19 [wr T, wi r, wi i] [wi (rd σ (T + 23) 60 i), wr T] σ _
      refine B_top (fun r7 => ?_)
      refine B_iloadn rfl my_52 rfl ?_
      refine B_cV hE.1 rfl (wc_0 hT) cw_52_53 (as := [wi (rd σ (T + 23) 60 i), wi r]) (rest := []) rfl (Nat.le_of_ble_eq_true rfl) (g_isSameRow hE hT hR hI) (fun vo s9 hq => ?_)
      obtain ⟨x8, rfl, hz9, rfl⟩ := hq
      show Bt E 52 23 [wr T, wi r, wi i] [wi x8] σ _
      refine B_top (fun r10 => ?_)
      refine B_if_eq rfl my_52 rfl (tgt := 27) (nx := 26) rfl rfl (fun c11 => ?_) (fun c11 => ?_)
      · refine B_iinc rfl my_52 (by decide) rfl rfl rfl (by omega) (by omega) (show _ = [wr T, wi r, wi (i + 1)] from rfl) ?_
        refine B_goto rfl my_52 rfl (tgt := 2) rfl ?_
        exact ih _ (by omega) (by omega)
      · refine B_ret rfl my_52 rfl ?_
        exact ⟨rfl, Or.inl rfl⟩
theorem g_keepOnce {E : mE} {σ : wSt} {T : Nat} (hE : wE E) (hT : Tb T) (hR : KRd T σ) (hI : RI T σ) (hkc : kn σ T 11) (hkp : ∀ q, 0 ≤ q → q < gv σ T 11 → kr σ (T + 23) 60 q) (hk0 : 0 ≤ gv σ T 11) (hk6 : gv σ T 11 < 60) {r : Int} : Fn E 52 [wr T, wi r] σ (fun vo t => vo = none ∧ (σ = t ∨ wup (pt σ (T + 23) 60 (gv σ T 11) r) T 11 (gv σ T 11 + 1) = t)) := by
  refine Fn.of (nL := 3) ?_
  show Bt E 52 0 [wr T, wi r, wx] [] σ _
  refine B_rng 1 rfl (fun ha1 => ?_)
  refine B_iconst rfl my_52 (by decide) ?_
  refine B_istoren rfl my_52 (by decide) rfl (show _ = [wr T, wi r, wi 0] from rfl) ?_
  exact l_keepOnce hE hT hR hI hkc hkp hk0 hk6 _ 0 (by omega) (Nat.le_refl _)
