/-! ===== Tallow is asked, its table settled ===== -/
theorem cw_108_110 : wcV 108 0 110 6 1 1 = true := by decide +kernel
theorem cw_108_111 : wcV 108 0 111 6 0 0 = true := by decide +kernel
theorem cw_108_113 : wcV 108 0 113 6 0 0 = true := by decide +kernel
theorem cw_108_20 : wcV 108 0 20 1 1 1 = true := by decide +kernel
theorem cw_108_40 : wcV 108 0 40 3 1 1 = true := by decide +kernel
theorem cw_109_110 : wcV 109 0 110 6 1 1 = true := by decide +kernel
theorem cw_109_111 : wcV 109 0 111 6 0 0 = true := by decide +kernel
theorem cw_109_40 : wcV 109 0 40 3 1 1 = true := by decide +kernel
theorem cw_84_108 : wcV 84 0 108 6 0 0 = true := by decide +kernel
theorem cw_84_56 : wcV 84 0 56 3 1 1 = true := by decide +kernel
theorem cw_85_106_0 : wcS 85 0 106 1 1 = true := by decide +kernel
theorem cw_85_110 : wcV 85 0 110 6 1 1 = true := by decide +kernel
theorem cw_85_111 : wcV 85 0 111 6 0 0 = true := by decide +kernel
theorem cw_85_34 : wcV 85 0 34 2 0 0 = true := by decide +kernel
theorem cw_86_108 : wcV 86 0 108 6 0 0 = true := by decide +kernel
theorem cw_86_57 : wcV 86 0 57 3 1 1 = true := by decide +kernel
theorem cw_87_108 : wcV 87 0 108 6 0 0 = true := by decide +kernel
theorem cw_87_20 : wcV 87 0 20 1 1 1 = true := by decide +kernel
theorem cw_88_108 : wcV 88 0 108 6 0 0 = true := by decide +kernel
theorem cw_88_36 : wcV 88 0 36 2 2 2 = true := by decide +kernel
theorem cw_88_58 : wcV 88 0 58 3 2 2 = true := by decide +kernel
theorem cw_89_108 : wcV 89 0 108 6 0 0 = true := by decide +kernel
theorem cw_89_20 : wcV 89 0 20 1 1 1 = true := by decide +kernel
theorem cw_89_36 : wcV 89 0 36 2 2 2 = true := by decide +kernel
theorem cw_90_108 : wcV 90 0 108 6 0 0 = true := by decide +kernel
theorem cw_90_54 : wcV 90 0 54 3 1 1 = true := by decide +kernel
theorem cw_90_59 : wcV 90 0 59 3 2 2 = true := by decide +kernel
theorem cw_91_108 : wcV 91 0 108 6 0 0 = true := by decide +kernel
theorem cw_91_54 : wcV 91 0 54 3 1 1 = true := by decide +kernel
theorem cw_91_64 : wcV 91 0 64 3 2 2 = true := by decide +kernel
theorem cw_92_108 : wcV 92 0 108 6 0 0 = true := by decide +kernel
theorem cw_92_54 : wcV 92 0 54 3 1 1 = true := by decide +kernel
theorem cw_92_65 : wcV 92 0 65 3 1 1 = true := by decide +kernel
theorem cw_94_108 : wcV 94 0 108 6 0 0 = true := by decide +kernel
theorem cw_94_2 : wcV 94 0 2 0 2 2 = true := by decide +kernel
theorem cw_95_108 : wcV 95 0 108 6 0 0 = true := by decide +kernel
theorem cw_95_20 : wcV 95 0 20 1 1 1 = true := by decide +kernel
theorem cw_95_55 : wcV 95 0 55 3 1 1 = true := by decide +kernel
theorem cw_96_108 : wcV 96 0 108 6 0 0 = true := by decide +kernel
theorem cw_96_54 : wcV 96 0 54 3 1 1 = true := by decide +kernel
theorem cw_96_55 : wcV 96 0 55 3 1 1 = true := by decide +kernel
theorem cw_96_62 : wcV 96 0 62 3 2 2 = true := by decide +kernel
theorem cw_97_108 : wcV 97 0 108 6 0 0 = true := by decide +kernel
theorem cw_97_54 : wcV 97 0 54 3 1 1 = true := by decide +kernel
theorem cw_97_67 : wcV 97 0 67 3 2 2 = true := by decide +kernel
theorem cw_98_106_0 : wcS 98 0 106 1 1 = true := by decide +kernel
theorem cw_98_109 : wcV 98 0 109 6 1 1 = true := by decide +kernel
theorem cw_99_107_0 : wcS 99 0 107 1 1 = true := by decide +kernel
theorem cw_99_108 : wcV 99 0 108 6 0 0 = true := by decide +kernel
theorem cw_99_44 : wcV 99 0 44 3 2 2 = true := by decide +kernel
theorem cw_99_46 : wcV 99 0 46 3 1 1 = true := by decide +kernel
theorem cw_99_54 : wcV 99 0 54 3 1 1 = true := by decide +kernel
/-- the parter that is used; the text is read, the table of that parter is T, and settled -/
def pn (σ : wSt) : Int := if rd σ 7 3 0 = -1 then gp σ else rd σ 7 3 0
def NWd (σ : wSt) (T : Nat) : Prop := (kn σ 2 6 ∧ gv σ 2 6 = 1) ∧ (∀ U, Tb U → KRd U σ ∧ RI U σ) ∧ (kr σ 7 3 0 ∧ -1 ≤ rd σ 7 3 0 ∧ rd σ 7 3 0 ≤ 3) ∧ T = tof (pn σ) ∧ SIt T σ ∧ (kn σ T 8 ∧ gv σ T 8 = pn σ)
theorem NWd.tb {σ : wSt} {T : Nat} (h : NWd σ T) : Tb T := by
  rw [h.2.2.2.1]
  exact tof_tb _
theorem pn_rng {σ : wSt} (h1 : -1 ≤ rd σ 7 3 0) (h2 : rd σ 7 3 0 ≤ 3) : 0 ≤ pn σ ∧ pn σ ≤ 3 := by
  unfold pn
  split
  · exact gp_rng
  · omega
theorem g_tableNow1 {E : mE} {σ : wSt} {T : Nat} (hE : wE E) (hW : NWd σ T) : Gv E 108 [wr 2] σ (wr T) := by
  have hT : Tb T := hW.tb
  have hS := hW.2.2.2.2.1
  have hI := hS.hI
  have hg := gp_rng (σ := σ)
  have hw3 := hW.2.2.1
  refine Fn.of (nL := 3) ?_
  show Bt E 108 0 [wr 2, wx, wx] [] σ _
  refine B_aloadn rfl my_108 rfl ?_
  refine B_cV hE.1 rfl rfl cw_108_111 (as := []) (rest := []) rfl (Nat.le_of_ble_eq_true rfl) (g_readText1 hE hW.1.1 hW.1.2) (fun vo s9 hq => ?_)
  obtain ⟨rfl, rfl⟩ := hq
  show Bt E 108 4 [wr 2, wx, wx] [] σ _
  refine B_aloadn rfl my_108 rfl ?_
  refine B_ref hE.1 rfl my_108 rfl (r := 6) rfl ?_
  refine B_ref hE.1 rfl my_108 rfl (r := 7) rfl ?_
  refine B_iconst rfl my_108 (by decide) ?_
  refine B_cV hE.1 rfl nmc_7.1 cw_108_20 (as := [wi 0]) (rest := []) rfl (Nat.le_of_ble_eq_true rfl) (g_at hE nmc_7 (by decide) hW.2.2.1.1) (fun vo s9 hq => ?_)
  obtain ⟨rfl, rfl⟩ := hq
  show Bt E 108 15 [wr 2, wx, wx] [wi (rd σ 7 3 0)] σ _
  refine B_top (fun r1 => ?_)
  refine B_istoren rfl my_108 (by decide) rfl (show _ = [wr 2, wi (rd σ 7 3 0), wx] from rfl) ?_
  refine B_aloadn rfl my_108 rfl ?_
  refine B_iloadn rfl my_108 rfl ?_
  refine B_iconst rfl my_108 (by decide) ?_
  refine B_ic_ne rfl my_108 rfl (tgt := 29) (nx := 22) rfl rfl (fun c2 => ?_) (fun c2 => ?_)
  · refine B_iloadn rfl my_108 rfl ?_
    refine B_cV hE.1 rfl rfl cw_108_110 (as := [wi (rd σ 7 3 0)]) (rest := []) rfl (Nat.le_of_ble_eq_true rfl) (g_tableWith hE (by omega) (by omega)) (fun vo s9 hq => ?_)
    obtain ⟨rfl, rfl⟩ := hq
    rw [show tof (rd σ 7 3 0) = T by rw [hW.2.2.2.1]; unfold pn; rw [if_neg (by omega)]]
    show Bt E 108 33 [wr 2, wi (rd σ 7 3 0), wx] [wr T] σ _
    refine B_astoren rfl my_108 (by decide) rfl (show _ = [wr 2, wi (rd σ 7 3 0), wr T] from rfl) ?_
    refine B_aloadn rfl my_108 rfl ?_
    refine B_aloadn rfl my_108 rfl ?_
    refine B_ref hE.1 rfl my_108 rfl (r := 6) rfl ?_
    refine B_cV hE.1 rfl (wc_0 hT) cw_108_40 (as := [wr 6]) (rest := []) rfl (Nat.le_of_ble_eq_true rfl) (g_settle1 hE hT hS.2.1.1.2.2 hS.2.1.2.1) (fun vo s9 hq => ?_)
    obtain ⟨rfl, rfl⟩ := hq
    show Bt E 108 42 [wr 2, wi (rd σ 7 3 0), wr T] [] σ _
    refine B_aloadn rfl my_108 rfl ?_
    refine B_aret rfl my_108 rfl ?_
    exact ⟨rfl, rfl⟩
  · refine B_aloadn rfl my_108 rfl ?_
    refine B_cV hE.1 rfl rfl cw_108_113 (as := []) (rest := [wr 2]) rfl (Nat.le_of_ble_eq_true rfl) (g_guessedParter hE (fun U hU => (hW.2.1 U hU).1) (fun U hU => (hW.2.1 U hU).2)) (fun vo s9 hq => ?_)
    obtain ⟨rfl, rfl⟩ := hq
    show Bt E 108 26 [wr 2, wi (rd σ 7 3 0), wx] [wi (gp σ), wr 2] σ _
    refine B_top (fun r3 => ?_)
    refine B_goto rfl my_108 rfl (tgt := 30) rfl ?_
    refine B_cV hE.1 rfl rfl cw_108_110 (as := [wi (gp σ)]) (rest := []) rfl (Nat.le_of_ble_eq_true rfl) (g_tableWith hE (by omega) (by omega)) (fun vo s9 hq => ?_)
    obtain ⟨rfl, rfl⟩ := hq
    rw [show tof (gp σ) = T by rw [hW.2.2.2.1]; unfold pn; rw [if_pos (by omega)]]
    show Bt E 108 33 [wr 2, wi (rd σ 7 3 0), wx] [wr T] σ _
    refine B_astoren rfl my_108 (by decide) rfl (show _ = [wr 2, wi (rd σ 7 3 0), wr T] from rfl) ?_
    refine B_aloadn rfl my_108 rfl ?_
    refine B_aloadn rfl my_108 rfl ?_
    refine B_ref hE.1 rfl my_108 rfl (r := 6) rfl ?_
    refine B_cV hE.1 rfl (wc_0 hT) cw_108_40 (as := [wr 6]) (rest := []) rfl (Nat.le_of_ble_eq_true rfl) (g_settle1 hE hT hS.2.1.1.2.2 hS.2.1.2.1) (fun vo s9 hq => ?_)
    obtain ⟨rfl, rfl⟩ := hq
    show Bt E 108 42 [wr 2, wi (rd σ 7 3 0), wr T] [] σ _
    refine B_aloadn rfl my_108 rfl ?_
    refine B_aret rfl my_108 rfl ?_
    exact ⟨rfl, rfl⟩
theorem k_used0 {E : mE} {σ : wSt} {T : Nat} (hE : wE E) (hW : NWd σ T) : Gv E 84 [wr 2, wi 0] σ (wi (gv σ T 8)) := by
  have hT : Tb T := hW.tb
  have hS := hW.2.2.2.2.1
  have hI := hS.hI
  refine Fn.of (nL := 2) ?_
  show Bt E 84 0 [wr 2, wi 0] [] σ _
  refine B_rng 1 rfl (fun ha1 => ?_)
  refine B_iloadn rfl my_84 rfl ?_
  refine B_if_lt rfl my_84 rfl (tgt := 9) (nx := 4) rfl rfl (fun c9 => absurd c9 (by decide)) (fun _ => ?_)
  show Bt E 84 4 [wr 2, wi 0] [] σ _
  refine B_iloadn rfl my_84 rfl ?_
  refine B_iconst rfl my_84 (by decide) ?_
  refine B_ic_le rfl my_84 rfl (tgt := 19) (nx := 9) rfl rfl (fun _ => ?_) (fun c9 => absurd c9 (by decide))
  show Bt E 84 19 [wr 2, wi 0] [] σ _
  refine B_aloadn rfl my_84 rfl ?_
  refine B_cV hE.1 rfl rfl cw_84_108 (as := []) (rest := []) rfl (Nat.le_of_ble_eq_true rfl) (g_tableNow1 hE hW) (fun vo s9 hq => ?_)
  obtain ⟨rfl, rfl⟩ := hq
  show Bt E 84 23 [wr 2, wi 0] [wr T] σ _
  refine B_iloadn rfl my_84 rfl ?_
  refine B_cV hE.1 rfl (wc_0 hT) cw_84_56 (as := [wi 0]) (rest := []) rfl (Nat.le_of_ble_eq_true rfl) (g_choice0 hE hT hS hW.2.2.2.2.2.1) (fun vo s9 hq => ?_)
  obtain ⟨rfl, rfl⟩ := hq
  show Bt E 84 27 [wr 2, wi 0] [wi (gv σ T 8)] σ _
  refine B_top (fun r3 => ?_)
  refine B_iret rfl my_84 rfl ?_
  exact ⟨rfl, rfl⟩
theorem k_used2 {E : mE} {σ : wSt} {T : Nat} (hE : wE E) (hW : NWd σ T) : Gv E 84 [wr 2, wi 2] σ (wi (gv σ T 10)) := by
  have hT : Tb T := hW.tb
  have hS := hW.2.2.2.2.1
  have hI := hS.hI
  refine Fn.of (nL := 2) ?_
  show Bt E 84 0 [wr 2, wi 2] [] σ _
  refine B_rng 1 rfl (fun ha1 => ?_)
  refine B_iloadn rfl my_84 rfl ?_
  refine B_if_lt rfl my_84 rfl (tgt := 9) (nx := 4) rfl rfl (fun c9 => absurd c9 (by decide)) (fun _ => ?_)
  show Bt E 84 4 [wr 2, wi 2] [] σ _
  refine B_iloadn rfl my_84 rfl ?_
  refine B_iconst rfl my_84 (by decide) ?_
  refine B_ic_le rfl my_84 rfl (tgt := 19) (nx := 9) rfl rfl (fun _ => ?_) (fun c9 => absurd c9 (by decide))
  show Bt E 84 19 [wr 2, wi 2] [] σ _
  refine B_aloadn rfl my_84 rfl ?_
  refine B_cV hE.1 rfl rfl cw_84_108 (as := []) (rest := []) rfl (Nat.le_of_ble_eq_true rfl) (g_tableNow1 hE hW) (fun vo s9 hq => ?_)
  obtain ⟨rfl, rfl⟩ := hq
  show Bt E 84 23 [wr 2, wi 2] [wr T] σ _
  refine B_iloadn rfl my_84 rfl ?_
  refine B_cV hE.1 rfl (wc_0 hT) cw_84_56 (as := [wi 2]) (rest := []) rfl (Nat.le_of_ble_eq_true rfl) (g_choice2 hE hT hS) (fun vo s9 hq => ?_)
  obtain ⟨rfl, rfl⟩ := hq
  show Bt E 84 27 [wr 2, wi 2] [wi (gv σ T 10)] σ _
  refine B_top (fun r3 => ?_)
  refine B_iret rfl my_84 rfl ?_
  exact ⟨rfl, rfl⟩
theorem k_many1 {E : mE} {σ : wSt} {T : Nat} (hE : wE E) (hW : NWd σ T) : Gv E 86 [wr 2, wi 1] σ (wi (gv σ (T + 1) 9)) := by
  have hT : Tb T := hW.tb
  have hS := hW.2.2.2.2.1
  have hI := hS.hI
  refine Fn.of (nL := 2) ?_
  show Bt E 86 0 [wr 2, wi 1] [] σ _
  refine B_rng 1 rfl (fun ha1 => ?_)
  refine B_iloadn rfl my_86 rfl ?_
  refine B_if_lt rfl my_86 rfl (tgt := 10) (nx := 4) rfl rfl (fun c9 => absurd c9 (by decide)) (fun _ => ?_)
  show Bt E 86 4 [wr 2, wi 1] [] σ _
  refine B_iloadn rfl my_86 rfl ?_
  refine B_bipush rfl my_86 (n := 6) rfl ?_
  refine B_ic_le rfl my_86 rfl (tgt := 20) (nx := 10) rfl rfl (fun _ => ?_) (fun c9 => absurd c9 (by decide))
  show Bt E 86 20 [wr 2, wi 1] [] σ _
  refine B_iloadn rfl my_86 rfl ?_
  refine B_if_ne rfl my_86 rfl (tgt := 34) (nx := 24) rfl rfl (fun _ => ?_) (fun c9 => absurd c9 (by decide))
  show Bt E 86 34 [wr 2, wi 1] [] σ _
  refine B_aloadn rfl my_86 rfl ?_
  refine B_cV hE.1 rfl rfl cw_86_108 (as := []) (rest := []) rfl (Nat.le_of_ble_eq_true rfl) (g_tableNow1 hE hW) (fun vo s9 hq => ?_)
  obtain ⟨rfl, rfl⟩ := hq
  show Bt E 86 38 [wr 2, wi 1] [wr T] σ _
  refine B_iloadn rfl my_86 rfl ?_
  refine B_cV hE.1 rfl (wc_0 hT) cw_86_57 (as := [wi 1]) (rest := []) rfl (Nat.le_of_ble_eq_true rfl) (g_howMany1 hE hT hS) (fun vo s9 hq => ?_)
  obtain ⟨rfl, rfl⟩ := hq
  show Bt E 86 42 [wr 2, wi 1] [wi (gv σ (T + 1) 9)] σ _
  refine B_top (fun r4 => ?_)
  refine B_iret rfl my_86 rfl ?_
  exact ⟨rfl, rfl⟩
theorem k_many2 {E : mE} {σ : wSt} {T : Nat} (hE : wE E) (hW : NWd σ T) : Gv E 86 [wr 2, wi 2] σ (wi (min (gv σ (T + 1) 12) 20)) := by
  have hT : Tb T := hW.tb
  have hS := hW.2.2.2.2.1
  have hI := hS.hI
  refine Fn.of (nL := 2) ?_
  show Bt E 86 0 [wr 2, wi 2] [] σ _
  refine B_rng 1 rfl (fun ha1 => ?_)
  refine B_iloadn rfl my_86 rfl ?_
  refine B_if_lt rfl my_86 rfl (tgt := 10) (nx := 4) rfl rfl (fun c9 => absurd c9 (by decide)) (fun _ => ?_)
  show Bt E 86 4 [wr 2, wi 2] [] σ _
  refine B_iloadn rfl my_86 rfl ?_
  refine B_bipush rfl my_86 (n := 6) rfl ?_
  refine B_ic_le rfl my_86 rfl (tgt := 20) (nx := 10) rfl rfl (fun _ => ?_) (fun c9 => absurd c9 (by decide))
  show Bt E 86 20 [wr 2, wi 2] [] σ _
  refine B_iloadn rfl my_86 rfl ?_
  refine B_if_ne rfl my_86 rfl (tgt := 34) (nx := 24) rfl rfl (fun _ => ?_) (fun c9 => absurd c9 (by decide))
  show Bt E 86 34 [wr 2, wi 2] [] σ _
  refine B_aloadn rfl my_86 rfl ?_
  refine B_cV hE.1 rfl rfl cw_86_108 (as := []) (rest := []) rfl (Nat.le_of_ble_eq_true rfl) (g_tableNow1 hE hW) (fun vo s9 hq => ?_)
  obtain ⟨rfl, rfl⟩ := hq
  show Bt E 86 38 [wr 2, wi 2] [wr T] σ _
  refine B_iloadn rfl my_86 rfl ?_
  refine B_cV hE.1 rfl (wc_0 hT) cw_86_57 (as := [wi 2]) (rest := []) rfl (Nat.le_of_ble_eq_true rfl) (g_howMany2 hE hT hS) (fun vo s9 hq => ?_)
  obtain ⟨rfl, rfl⟩ := hq
  show Bt E 86 42 [wr 2, wi 2] [wi (min (gv σ (T + 1) 12) 20)] σ _
  refine B_top (fun r4 => ?_)
  refine B_iret rfl my_86 rfl ?_
  exact ⟨rfl, rfl⟩
theorem k_many3 {E : mE} {σ : wSt} {T : Nat} (hE : wE E) (hW : NWd σ T) : Gv E 86 [wr 2, wi 3] σ (wi (max 0 (gv σ (T + 1) 9 - gv σ T 10))) := by
  have hT : Tb T := hW.tb
  have hS := hW.2.2.2.2.1
  have hI := hS.hI
  refine Fn.of (nL := 2) ?_
  show Bt E 86 0 [wr 2, wi 3] [] σ _
  refine B_rng 1 rfl (fun ha1 => ?_)
  refine B_iloadn rfl my_86 rfl ?_
  refine B_if_lt rfl my_86 rfl (tgt := 10) (nx := 4) rfl rfl (fun c9 => absurd c9 (by decide)) (fun _ => ?_)
  show Bt E 86 4 [wr 2, wi 3] [] σ _
  refine B_iloadn rfl my_86 rfl ?_
  refine B_bipush rfl my_86 (n := 6) rfl ?_
  refine B_ic_le rfl my_86 rfl (tgt := 20) (nx := 10) rfl rfl (fun _ => ?_) (fun c9 => absurd c9 (by decide))
  show Bt E 86 20 [wr 2, wi 3] [] σ _
  refine B_iloadn rfl my_86 rfl ?_
  refine B_if_ne rfl my_86 rfl (tgt := 34) (nx := 24) rfl rfl (fun _ => ?_) (fun c9 => absurd c9 (by decide))
  show Bt E 86 34 [wr 2, wi 3] [] σ _
  refine B_aloadn rfl my_86 rfl ?_
  refine B_cV hE.1 rfl rfl cw_86_108 (as := []) (rest := []) rfl (Nat.le_of_ble_eq_true rfl) (g_tableNow1 hE hW) (fun vo s9 hq => ?_)
  obtain ⟨rfl, rfl⟩ := hq
  show Bt E 86 38 [wr 2, wi 3] [wr T] σ _
  refine B_iloadn rfl my_86 rfl ?_
  refine B_cV hE.1 rfl (wc_0 hT) cw_86_57 (as := [wi 3]) (rest := []) rfl (Nat.le_of_ble_eq_true rfl) (g_howMany3 hE hT hS) (fun vo s9 hq => ?_)
  obtain ⟨rfl, rfl⟩ := hq
  show Bt E 86 42 [wr 2, wi 3] [wi (max 0 (gv σ (T + 1) 9 - gv σ T 10))] σ _
  refine B_top (fun r4 => ?_)
  refine B_iret rfl my_86 rfl ?_
  exact ⟨rfl, rfl⟩
theorem k_many4 {E : mE} {σ : wSt} {T : Nat} (hE : wE E) (hW : NWd σ T) : Gv E 86 [wr 2, wi 4] σ (wi (gv σ (T + 16) 3)) := by
  have hT : Tb T := hW.tb
  have hS := hW.2.2.2.2.1
  have hI := hS.hI
  refine Fn.of (nL := 2) ?_
  show Bt E 86 0 [wr 2, wi 4] [] σ _
  refine B_rng 1 rfl (fun ha1 => ?_)
  refine B_iloadn rfl my_86 rfl ?_
  refine B_if_lt rfl my_86 rfl (tgt := 10) (nx := 4) rfl rfl (fun c9 => absurd c9 (by decide)) (fun _ => ?_)
  show Bt E 86 4 [wr 2, wi 4] [] σ _
  refine B_iloadn rfl my_86 rfl ?_
  refine B_bipush rfl my_86 (n := 6) rfl ?_
  refine B_ic_le rfl my_86 rfl (tgt := 20) (nx := 10) rfl rfl (fun _ => ?_) (fun c9 => absurd c9 (by decide))
  show Bt E 86 20 [wr 2, wi 4] [] σ _
  refine B_iloadn rfl my_86 rfl ?_
  refine B_if_ne rfl my_86 rfl (tgt := 34) (nx := 24) rfl rfl (fun _ => ?_) (fun c9 => absurd c9 (by decide))
  show Bt E 86 34 [wr 2, wi 4] [] σ _
  refine B_aloadn rfl my_86 rfl ?_
  refine B_cV hE.1 rfl rfl cw_86_108 (as := []) (rest := []) rfl (Nat.le_of_ble_eq_true rfl) (g_tableNow1 hE hW) (fun vo s9 hq => ?_)
  obtain ⟨rfl, rfl⟩ := hq
  show Bt E 86 38 [wr 2, wi 4] [wr T] σ _
  refine B_iloadn rfl my_86 rfl ?_
  refine B_cV hE.1 rfl (wc_0 hT) cw_86_57 (as := [wi 4]) (rest := []) rfl (Nat.le_of_ble_eq_true rfl) (g_howMany4 hE hT hS) (fun vo s9 hq => ?_)
  obtain ⟨rfl, rfl⟩ := hq
  show Bt E 86 42 [wr 2, wi 4] [wi (gv σ (T + 16) 3)] σ _
  refine B_top (fun r4 => ?_)
  refine B_iret rfl my_86 rfl ?_
  exact ⟨rfl, rfl⟩
theorem k_many5 {E : mE} {σ : wSt} {T : Nat} (hE : wE E) (hW : NWd σ T) : Gv E 86 [wr 2, wi 5] σ (wi (gv σ T 11)) := by
  have hT : Tb T := hW.tb
  have hS := hW.2.2.2.2.1
  have hI := hS.hI
  refine Fn.of (nL := 2) ?_
  show Bt E 86 0 [wr 2, wi 5] [] σ _
  refine B_rng 1 rfl (fun ha1 => ?_)
  refine B_iloadn rfl my_86 rfl ?_
  refine B_if_lt rfl my_86 rfl (tgt := 10) (nx := 4) rfl rfl (fun c9 => absurd c9 (by decide)) (fun _ => ?_)
  show Bt E 86 4 [wr 2, wi 5] [] σ _
  refine B_iloadn rfl my_86 rfl ?_
  refine B_bipush rfl my_86 (n := 6) rfl ?_
  refine B_ic_le rfl my_86 rfl (tgt := 20) (nx := 10) rfl rfl (fun _ => ?_) (fun c9 => absurd c9 (by decide))
  show Bt E 86 20 [wr 2, wi 5] [] σ _
  refine B_iloadn rfl my_86 rfl ?_
  refine B_if_ne rfl my_86 rfl (tgt := 34) (nx := 24) rfl rfl (fun _ => ?_) (fun c9 => absurd c9 (by decide))
  show Bt E 86 34 [wr 2, wi 5] [] σ _
  refine B_aloadn rfl my_86 rfl ?_
  refine B_cV hE.1 rfl rfl cw_86_108 (as := []) (rest := []) rfl (Nat.le_of_ble_eq_true rfl) (g_tableNow1 hE hW) (fun vo s9 hq => ?_)
  obtain ⟨rfl, rfl⟩ := hq
  show Bt E 86 38 [wr 2, wi 5] [wr T] σ _
  refine B_iloadn rfl my_86 rfl ?_
  refine B_cV hE.1 rfl (wc_0 hT) cw_86_57 (as := [wi 5]) (rest := []) rfl (Nat.le_of_ble_eq_true rfl) (g_howMany5 hE hT hS) (fun vo s9 hq => ?_)
  obtain ⟨rfl, rfl⟩ := hq
  show Bt E 86 42 [wr 2, wi 5] [wi (gv σ T 11)] σ _
  refine B_top (fun r4 => ?_)
  refine B_iret rfl my_86 rfl ?_
  exact ⟨rfl, rfl⟩
theorem k_width {E : mE} {σ : wSt} {T : Nat} (hE : wE E) (hW : NWd σ T) {r : Int} (hr1 : 0 ≤ r) (hr2 : r < gv σ (T + 1) 9) : Gv E 87 [wr 2, wi r] σ (wi (rd σ (T + 14) 60 r)) := by
  have hT : Tb T := hW.tb
  have hS := hW.2.2.2.2.1
  have hI := hS.hI
  refine Fn.of (nL := 3) ?_
  show Bt E 87 0 [wr 2, wi r, wx] [] σ _
  refine B_rng 1 rfl (fun ha1 => ?_)
  refine B_aloadn rfl my_87 rfl ?_
  refine B_cV hE.1 rfl rfl cw_87_108 (as := []) (rest := []) rfl (Nat.le_of_ble_eq_true rfl) (g_tableNow1 hE hW) (fun vo s9 hq => ?_)
  obtain ⟨rfl, rfl⟩ := hq
  show Bt E 87 4 [wr 2, wi r, wx] [wr T] σ _
  refine B_ref hE.1 rfl my_87 rfl (r := (T + 1)) (wf_0_0 hT) ?_
  refine B_astoren rfl my_87 (by decide) rfl (show _ = [wr 2, wi r, wr (T + 1)] from rfl) ?_
  refine B_iloadn rfl my_87 rfl ?_
  refine B_if_lt rfl my_87 rfl (tgt := 20) (nx := 12) rfl rfl (fun c1 => ?_) (fun c1 => ?_)
  · exfalso
    omega
  · refine B_iloadn rfl my_87 rfl ?_
    refine B_aloadn rfl my_87 rfl ?_
    refine B_int hE.1 rfl my_87 rfl (wn_1_9 hT) (hS.hR _ (by omega) (by omega) _) (fun r2 => ?_)
    refine B_ic_lt rfl my_87 rfl (tgt := 30) (nx := 20) rfl rfl (fun c3 => ?_) (fun c3 => ?_)
    · refine B_aloadn rfl my_87 rfl ?_
      refine B_ref hE.1 rfl my_87 rfl (r := (T + 14)) (wf_1_6 hT) ?_
      refine B_iloadn rfl my_87 rfl ?_
      refine B_cV hE.1 rfl (nm_14 hT).1 cw_87_20 (as := [wi r]) (rest := []) rfl (Nat.le_of_ble_eq_true rfl) (g_at hE (nm_14 hT) (by decide) (kr_of fun _ => hS.hR _ (by omega) (by omega) _)) (fun vo s9 hq => ?_)
      obtain ⟨rfl, rfl⟩ := hq
      show Bt E 87 38 [wr 2, wi r, wr (T + 1)] [wi (rd σ (T + 14) 60 r)] σ _
      refine B_top (fun r4 => ?_)
      refine B_iret rfl my_87 rfl ?_
      exact ⟨rfl, rfl⟩
    · exfalso
      omega
theorem k_cell0 {E : mE} {σ : wSt} {T : Nat} (hE : wE E) (hW : NWd σ T) {r : Int} (hr1 : 0 ≤ r) (hr2 : r < gv σ (T + 1) 9) {c : Int} (hc1 : 0 ≤ c) (hc2 : c < min (rd σ (T + 14) 60 r) 20) : Gv E 88 [wr 2, wi r, wi c, wi 0] σ (wi (rd σ (T + 25) 501 (ca σ T r c))) := by
  have hT : Tb T := hW.tb
  have hS := hW.2.2.2.2.1
  have hI := hS.hI
  have gc := ca_c hS.hI (r := r) (c := c)
  refine Fn.of (nL := 6) ?_
  show Bt E 88 0 [wr 2, wi r, wi c, wi 0, wx, wx] [] σ _
  refine B_rng 1 rfl (fun ha1 => ?_)
  refine B_rng 2 rfl (fun ha2 => ?_)
  refine B_rng 3 rfl (fun ha3 => ?_)
  refine B_aloadn rfl my_88 rfl ?_
  refine B_cV hE.1 rfl rfl cw_88_108 (as := []) (rest := []) rfl (Nat.le_of_ble_eq_true rfl) (g_tableNow1 hE hW) (fun vo s9 hq => ?_)
  obtain ⟨rfl, rfl⟩ := hq
  show Bt E 88 4 [wr 2, wi r, wi c, wi 0, wx, wx] [wr T] σ _
  refine B_astore rfl my_88 (by decide) rfl (show _ = [wr 2, wi r, wi c, wi 0, wr T, wx] from rfl) ?_
  refine B_aload rfl my_88 rfl ?_
  refine B_ref hE.1 rfl my_88 rfl (r := (T + 1)) (wf_0_0 hT) ?_
  refine B_iloadn rfl my_88 rfl ?_
  refine B_iloadn rfl my_88 rfl ?_
  refine B_cV hE.1 rfl (wc_1 hT) cw_88_36 (as := [wi r, wi c]) (rest := []) rfl (Nat.le_of_ble_eq_true rfl) (g_cellAt hE hT hS.hR hS.hI) (fun vo s9 hq => ?_)
  obtain ⟨rfl, rfl⟩ := hq
  show Bt E 88 16 [wr 2, wi r, wi c, wi 0, wr T, wx] [wi (ca σ T r c)] σ _
  refine B_top (fun r1 => ?_)
  refine B_istore rfl my_88 (by decide) rfl (show _ = [wr 2, wi r, wi c, wi 0, wr T, wi (ca σ T r c)] from rfl) ?_
  refine B_iload rfl my_88 rfl ?_
  refine B_iconst rfl my_88 (by decide) ?_
  refine B_ic_ne rfl my_88 rfl (tgt := 34) (nx := 24) rfl rfl (fun c2 => ?_) (fun c2 => ?_)
  · refine B_iloadn rfl my_88 rfl ?_
    refine B_if_lt rfl my_88 rfl (tgt := 43) (nx := 38) rfl rfl (fun c9 => absurd c9 (by decide)) (fun _ => ?_)
    show Bt E 88 38 [wr 2, wi r, wi c, wi 0, wr T, wi (ca σ T r c)] [] σ _
    refine B_iloadn rfl my_88 rfl ?_
    refine B_iconst rfl my_88 (by decide) ?_
    refine B_ic_le rfl my_88 rfl (tgt := 53) (nx := 43) rfl rfl (fun _ => ?_) (fun c9 => absurd c9 (by decide))
    show Bt E 88 53 [wr 2, wi r, wi c, wi 0, wr T, wi (ca σ T r c)] [] σ _
    refine B_aload rfl my_88 rfl ?_
    refine B_iload rfl my_88 rfl ?_
    refine B_iloadn rfl my_88 rfl ?_
    refine B_cV hE.1 rfl (wc_0 hT) cw_88_58 (as := [wi (ca σ T r c), wi 0]) (rest := []) rfl (Nat.le_of_ble_eq_true rfl) (g_factOfCell0 hE hT hS (by omega) (by omega)) (fun vo s9 hq => ?_)
    obtain ⟨rfl, rfl⟩ := hq
    show Bt E 88 61 [wr 2, wi r, wi c, wi 0, wr T, wi (ca σ T r c)] [wi (rd σ (T + 25) 501 (ca σ T r c))] σ _
    refine B_top (fun r5 => ?_)
    refine B_iret rfl my_88 rfl ?_
    exact ⟨rfl, rfl⟩
  · exfalso
    omega
theorem k_cell1 {E : mE} {σ : wSt} {T : Nat} (hE : wE E) (hW : NWd σ T) {r : Int} (hr1 : 0 ≤ r) (hr2 : r < gv σ (T + 1) 9) {c : Int} (hc1 : 0 ≤ c) (hc2 : c < min (rd σ (T + 14) 60 r) 20) : Gv E 88 [wr 2, wi r, wi c, wi 1] σ (wi (rd σ (T + 27) 501 (ca σ T r c))) := by
  have hT : Tb T := hW.tb
  have hS := hW.2.2.2.2.1
  have hI := hS.hI
  have gc := ca_c hS.hI (r := r) (c := c)
  refine Fn.of (nL := 6) ?_
  show Bt E 88 0 [wr 2, wi r, wi c, wi 1, wx, wx] [] σ _
  refine B_rng 1 rfl (fun ha1 => ?_)
  refine B_rng 2 rfl (fun ha2 => ?_)
  refine B_rng 3 rfl (fun ha3 => ?_)
  refine B_aloadn rfl my_88 rfl ?_
  refine B_cV hE.1 rfl rfl cw_88_108 (as := []) (rest := []) rfl (Nat.le_of_ble_eq_true rfl) (g_tableNow1 hE hW) (fun vo s9 hq => ?_)
  obtain ⟨rfl, rfl⟩ := hq
  show Bt E 88 4 [wr 2, wi r, wi c, wi 1, wx, wx] [wr T] σ _
  refine B_astore rfl my_88 (by decide) rfl (show _ = [wr 2, wi r, wi c, wi 1, wr T, wx] from rfl) ?_
  refine B_aload rfl my_88 rfl ?_
  refine B_ref hE.1 rfl my_88 rfl (r := (T + 1)) (wf_0_0 hT) ?_
  refine B_iloadn rfl my_88 rfl ?_
  refine B_iloadn rfl my_88 rfl ?_
  refine B_cV hE.1 rfl (wc_1 hT) cw_88_36 (as := [wi r, wi c]) (rest := []) rfl (Nat.le_of_ble_eq_true rfl) (g_cellAt hE hT hS.hR hS.hI) (fun vo s9 hq => ?_)
  obtain ⟨rfl, rfl⟩ := hq
  show Bt E 88 16 [wr 2, wi r, wi c, wi 1, wr T, wx] [wi (ca σ T r c)] σ _
  refine B_top (fun r1 => ?_)
  refine B_istore rfl my_88 (by decide) rfl (show _ = [wr 2, wi r, wi c, wi 1, wr T, wi (ca σ T r c)] from rfl) ?_
  refine B_iload rfl my_88 rfl ?_
  refine B_iconst rfl my_88 (by decide) ?_
  refine B_ic_ne rfl my_88 rfl (tgt := 34) (nx := 24) rfl rfl (fun c2 => ?_) (fun c2 => ?_)
  · refine B_iloadn rfl my_88 rfl ?_
    refine B_if_lt rfl my_88 rfl (tgt := 43) (nx := 38) rfl rfl (fun c9 => absurd c9 (by decide)) (fun _ => ?_)
    show Bt E 88 38 [wr 2, wi r, wi c, wi 1, wr T, wi (ca σ T r c)] [] σ _
    refine B_iloadn rfl my_88 rfl ?_
    refine B_iconst rfl my_88 (by decide) ?_
    refine B_ic_le rfl my_88 rfl (tgt := 53) (nx := 43) rfl rfl (fun _ => ?_) (fun c9 => absurd c9 (by decide))
    show Bt E 88 53 [wr 2, wi r, wi c, wi 1, wr T, wi (ca σ T r c)] [] σ _
    refine B_aload rfl my_88 rfl ?_
    refine B_iload rfl my_88 rfl ?_
    refine B_iloadn rfl my_88 rfl ?_
    refine B_cV hE.1 rfl (wc_0 hT) cw_88_58 (as := [wi (ca σ T r c), wi 1]) (rest := []) rfl (Nat.le_of_ble_eq_true rfl) (g_factOfCell1 hE hT hS (by omega) (by omega)) (fun vo s9 hq => ?_)
    obtain ⟨rfl, rfl⟩ := hq
    show Bt E 88 61 [wr 2, wi r, wi c, wi 1, wr T, wi (ca σ T r c)] [wi (rd σ (T + 27) 501 (ca σ T r c))] σ _
    refine B_top (fun r5 => ?_)
    refine B_iret rfl my_88 rfl ?_
    exact ⟨rfl, rfl⟩
  · exfalso
    omega
theorem k_cell2 {E : mE} {σ : wSt} {T : Nat} (hE : wE E) (hW : NWd σ T) {r : Int} (hr1 : 0 ≤ r) (hr2 : r < gv σ (T + 1) 9) {c : Int} (hc1 : 0 ≤ c) (hc2 : c < min (rd σ (T + 14) 60 r) 20) : Gv E 88 [wr 2, wi r, wi c, wi 2] σ (wi (rd σ (T + 6) 501 (ca σ T r c))) := by
  have hT : Tb T := hW.tb
  have hS := hW.2.2.2.2.1
  have hI := hS.hI
  have gc := ca_c hS.hI (r := r) (c := c)
  refine Fn.of (nL := 6) ?_
  show Bt E 88 0 [wr 2, wi r, wi c, wi 2, wx, wx] [] σ _
  refine B_rng 1 rfl (fun ha1 => ?_)
  refine B_rng 2 rfl (fun ha2 => ?_)
  refine B_rng 3 rfl (fun ha3 => ?_)
  refine B_aloadn rfl my_88 rfl ?_
  refine B_cV hE.1 rfl rfl cw_88_108 (as := []) (rest := []) rfl (Nat.le_of_ble_eq_true rfl) (g_tableNow1 hE hW) (fun vo s9 hq => ?_)
  obtain ⟨rfl, rfl⟩ := hq
  show Bt E 88 4 [wr 2, wi r, wi c, wi 2, wx, wx] [wr T] σ _
  refine B_astore rfl my_88 (by decide) rfl (show _ = [wr 2, wi r, wi c, wi 2, wr T, wx] from rfl) ?_
  refine B_aload rfl my_88 rfl ?_
  refine B_ref hE.1 rfl my_88 rfl (r := (T + 1)) (wf_0_0 hT) ?_
  refine B_iloadn rfl my_88 rfl ?_
  refine B_iloadn rfl my_88 rfl ?_
  refine B_cV hE.1 rfl (wc_1 hT) cw_88_36 (as := [wi r, wi c]) (rest := []) rfl (Nat.le_of_ble_eq_true rfl) (g_cellAt hE hT hS.hR hS.hI) (fun vo s9 hq => ?_)
  obtain ⟨rfl, rfl⟩ := hq
  show Bt E 88 16 [wr 2, wi r, wi c, wi 2, wr T, wx] [wi (ca σ T r c)] σ _
  refine B_top (fun r1 => ?_)
  refine B_istore rfl my_88 (by decide) rfl (show _ = [wr 2, wi r, wi c, wi 2, wr T, wi (ca σ T r c)] from rfl) ?_
  refine B_iload rfl my_88 rfl ?_
  refine B_iconst rfl my_88 (by decide) ?_
  refine B_ic_ne rfl my_88 rfl (tgt := 34) (nx := 24) rfl rfl (fun c2 => ?_) (fun c2 => ?_)
  · refine B_iloadn rfl my_88 rfl ?_
    refine B_if_lt rfl my_88 rfl (tgt := 43) (nx := 38) rfl rfl (fun c9 => absurd c9 (by decide)) (fun _ => ?_)
    show Bt E 88 38 [wr 2, wi r, wi c, wi 2, wr T, wi (ca σ T r c)] [] σ _
    refine B_iloadn rfl my_88 rfl ?_
    refine B_iconst rfl my_88 (by decide) ?_
    refine B_ic_le rfl my_88 rfl (tgt := 53) (nx := 43) rfl rfl (fun _ => ?_) (fun c9 => absurd c9 (by decide))
    show Bt E 88 53 [wr 2, wi r, wi c, wi 2, wr T, wi (ca σ T r c)] [] σ _
    refine B_aload rfl my_88 rfl ?_
    refine B_iload rfl my_88 rfl ?_
    refine B_iloadn rfl my_88 rfl ?_
    refine B_cV hE.1 rfl (wc_0 hT) cw_88_58 (as := [wi (ca σ T r c), wi 2]) (rest := []) rfl (Nat.le_of_ble_eq_true rfl) (g_factOfCell2 hE hT hS (by omega) (by omega)) (fun vo s9 hq => ?_)
    obtain ⟨rfl, rfl⟩ := hq
    show Bt E 88 61 [wr 2, wi r, wi c, wi 2, wr T, wi (ca σ T r c)] [wi (rd σ (T + 6) 501 (ca σ T r c))] σ _
    refine B_top (fun r5 => ?_)
    refine B_iret rfl my_88 rfl ?_
    exact ⟨rfl, rfl⟩
  · exfalso
    omega
theorem k_cell3 {E : mE} {σ : wSt} {T : Nat} (hE : wE E) (hW : NWd σ T) {r : Int} (hr1 : 0 ≤ r) (hr2 : r < gv σ (T + 1) 9) {c : Int} (hc1 : 0 ≤ c) (hc2 : c < min (rd σ (T + 14) 60 r) 20) : Gv E 88 [wr 2, wi r, wi c, wi 3] σ (wi (rd σ (T + 10) 501 (ca σ T r c))) := by
  have hT : Tb T := hW.tb
  have hS := hW.2.2.2.2.1
  have hI := hS.hI
  have gc := ca_c hS.hI (r := r) (c := c)
  refine Fn.of (nL := 6) ?_
  show Bt E 88 0 [wr 2, wi r, wi c, wi 3, wx, wx] [] σ _
  refine B_rng 1 rfl (fun ha1 => ?_)
  refine B_rng 2 rfl (fun ha2 => ?_)
  refine B_rng 3 rfl (fun ha3 => ?_)
  refine B_aloadn rfl my_88 rfl ?_
  refine B_cV hE.1 rfl rfl cw_88_108 (as := []) (rest := []) rfl (Nat.le_of_ble_eq_true rfl) (g_tableNow1 hE hW) (fun vo s9 hq => ?_)
  obtain ⟨rfl, rfl⟩ := hq
  show Bt E 88 4 [wr 2, wi r, wi c, wi 3, wx, wx] [wr T] σ _
  refine B_astore rfl my_88 (by decide) rfl (show _ = [wr 2, wi r, wi c, wi 3, wr T, wx] from rfl) ?_
  refine B_aload rfl my_88 rfl ?_
  refine B_ref hE.1 rfl my_88 rfl (r := (T + 1)) (wf_0_0 hT) ?_
  refine B_iloadn rfl my_88 rfl ?_
  refine B_iloadn rfl my_88 rfl ?_
  refine B_cV hE.1 rfl (wc_1 hT) cw_88_36 (as := [wi r, wi c]) (rest := []) rfl (Nat.le_of_ble_eq_true rfl) (g_cellAt hE hT hS.hR hS.hI) (fun vo s9 hq => ?_)
  obtain ⟨rfl, rfl⟩ := hq
  show Bt E 88 16 [wr 2, wi r, wi c, wi 3, wr T, wx] [wi (ca σ T r c)] σ _
  refine B_top (fun r1 => ?_)
  refine B_istore rfl my_88 (by decide) rfl (show _ = [wr 2, wi r, wi c, wi 3, wr T, wi (ca σ T r c)] from rfl) ?_
  refine B_iload rfl my_88 rfl ?_
  refine B_iconst rfl my_88 (by decide) ?_
  refine B_ic_ne rfl my_88 rfl (tgt := 34) (nx := 24) rfl rfl (fun c2 => ?_) (fun c2 => ?_)
  · refine B_iloadn rfl my_88 rfl ?_
    refine B_if_lt rfl my_88 rfl (tgt := 43) (nx := 38) rfl rfl (fun c9 => absurd c9 (by decide)) (fun _ => ?_)
    show Bt E 88 38 [wr 2, wi r, wi c, wi 3, wr T, wi (ca σ T r c)] [] σ _
    refine B_iloadn rfl my_88 rfl ?_
    refine B_iconst rfl my_88 (by decide) ?_
    refine B_ic_le rfl my_88 rfl (tgt := 53) (nx := 43) rfl rfl (fun _ => ?_) (fun c9 => absurd c9 (by decide))
    show Bt E 88 53 [wr 2, wi r, wi c, wi 3, wr T, wi (ca σ T r c)] [] σ _
    refine B_aload rfl my_88 rfl ?_
    refine B_iload rfl my_88 rfl ?_
    refine B_iloadn rfl my_88 rfl ?_
    refine B_cV hE.1 rfl (wc_0 hT) cw_88_58 (as := [wi (ca σ T r c), wi 3]) (rest := []) rfl (Nat.le_of_ble_eq_true rfl) (g_factOfCell3 hE hT hS (by omega) (by omega)) (fun vo s9 hq => ?_)
    obtain ⟨rfl, rfl⟩ := hq
    show Bt E 88 61 [wr 2, wi r, wi c, wi 3, wr T, wi (ca σ T r c)] [wi (rd σ (T + 10) 501 (ca σ T r c))] σ _
    refine B_top (fun r5 => ?_)
    refine B_iret rfl my_88 rfl ?_
    exact ⟨rfl, rfl⟩
  · exfalso
    omega
theorem k_cell4 {E : mE} {σ : wSt} {T : Nat} (hE : wE E) (hW : NWd σ T) {r : Int} (hr1 : 0 ≤ r) (hr2 : r < gv σ (T + 1) 9) {c : Int} (hc1 : 0 ≤ c) (hc2 : c < min (rd σ (T + 14) 60 r) 20) : Gv E 88 [wr 2, wi r, wi c, wi 4] σ (wi (rd σ (T + 8) 501 (ca σ T r c))) := by
  have hT : Tb T := hW.tb
  have hS := hW.2.2.2.2.1
  have hI := hS.hI
  have gc := ca_c hS.hI (r := r) (c := c)
  refine Fn.of (nL := 6) ?_
  show Bt E 88 0 [wr 2, wi r, wi c, wi 4, wx, wx] [] σ _
  refine B_rng 1 rfl (fun ha1 => ?_)
  refine B_rng 2 rfl (fun ha2 => ?_)
  refine B_rng 3 rfl (fun ha3 => ?_)
  refine B_aloadn rfl my_88 rfl ?_
  refine B_cV hE.1 rfl rfl cw_88_108 (as := []) (rest := []) rfl (Nat.le_of_ble_eq_true rfl) (g_tableNow1 hE hW) (fun vo s9 hq => ?_)
  obtain ⟨rfl, rfl⟩ := hq
  show Bt E 88 4 [wr 2, wi r, wi c, wi 4, wx, wx] [wr T] σ _
  refine B_astore rfl my_88 (by decide) rfl (show _ = [wr 2, wi r, wi c, wi 4, wr T, wx] from rfl) ?_
  refine B_aload rfl my_88 rfl ?_
  refine B_ref hE.1 rfl my_88 rfl (r := (T + 1)) (wf_0_0 hT) ?_
  refine B_iloadn rfl my_88 rfl ?_
  refine B_iloadn rfl my_88 rfl ?_
  refine B_cV hE.1 rfl (wc_1 hT) cw_88_36 (as := [wi r, wi c]) (rest := []) rfl (Nat.le_of_ble_eq_true rfl) (g_cellAt hE hT hS.hR hS.hI) (fun vo s9 hq => ?_)
  obtain ⟨rfl, rfl⟩ := hq
  show Bt E 88 16 [wr 2, wi r, wi c, wi 4, wr T, wx] [wi (ca σ T r c)] σ _
  refine B_top (fun r1 => ?_)
  refine B_istore rfl my_88 (by decide) rfl (show _ = [wr 2, wi r, wi c, wi 4, wr T, wi (ca σ T r c)] from rfl) ?_
  refine B_iload rfl my_88 rfl ?_
  refine B_iconst rfl my_88 (by decide) ?_
  refine B_ic_ne rfl my_88 rfl (tgt := 34) (nx := 24) rfl rfl (fun c2 => ?_) (fun c2 => ?_)
  · refine B_iloadn rfl my_88 rfl ?_
    refine B_if_lt rfl my_88 rfl (tgt := 43) (nx := 38) rfl rfl (fun c9 => absurd c9 (by decide)) (fun _ => ?_)
    show Bt E 88 38 [wr 2, wi r, wi c, wi 4, wr T, wi (ca σ T r c)] [] σ _
    refine B_iloadn rfl my_88 rfl ?_
    refine B_iconst rfl my_88 (by decide) ?_
    refine B_ic_le rfl my_88 rfl (tgt := 53) (nx := 43) rfl rfl (fun _ => ?_) (fun c9 => absurd c9 (by decide))
    show Bt E 88 53 [wr 2, wi r, wi c, wi 4, wr T, wi (ca σ T r c)] [] σ _
    refine B_aload rfl my_88 rfl ?_
    refine B_iload rfl my_88 rfl ?_
    refine B_iloadn rfl my_88 rfl ?_
    refine B_cV hE.1 rfl (wc_0 hT) cw_88_58 (as := [wi (ca σ T r c), wi 4]) (rest := []) rfl (Nat.le_of_ble_eq_true rfl) (g_factOfCell4 hE hT hS (by omega) (by omega)) (fun vo s9 hq => ?_)
    obtain ⟨rfl, rfl⟩ := hq
    show Bt E 88 61 [wr 2, wi r, wi c, wi 4, wr T, wi (ca σ T r c)] [wi (rd σ (T + 8) 501 (ca σ T r c))] σ _
    refine B_top (fun r5 => ?_)
    refine B_iret rfl my_88 rfl ?_
    exact ⟨rfl, rfl⟩
  · exfalso
    omega
theorem k_signAt {E : mE} {σ : wSt} {T : Nat} (hE : wE E) (hW : NWd σ T) {r : Int} (hr1 : 0 ≤ r) (hr2 : r < gv σ (T + 1) 9) {c : Int} (hc1 : 0 ≤ c) (hc2 : c < min (rd σ (T + 14) 60 r) 20) {q : Int} : Ev E 89 [wr 2, wi r, wi c, wi q] σ (fun x => (rd σ (T + 6) 501 (ca σ T r c) ≤ q → x = -1) ∧ (0 ≤ q → q < rd σ (T + 6) 501 (ca σ T r c) → 0 ≤ x)) := by
  have hT : Tb T := hW.tb
  have hS := hW.2.2.2.2.1
  have hI := hS.hI
  have gc := ca_c hS.hI (r := r) (c := c)
  have gl := hS.hI.2.2.1 (ca σ T r c) (by omega) (by omega)
  have gs : ∀ i, 0 ≤ rd σ (T + 2) 500 i := hS.hI.2.2.2.1.1
  refine Fn.of (nL := 6) ?_
  show Bt E 89 0 [wr 2, wi r, wi c, wi q, wx, wx] [] σ _
  refine B_rng 1 rfl (fun ha1 => ?_)
  refine B_rng 2 rfl (fun ha2 => ?_)
  refine B_rng 3 rfl (fun ha3 => ?_)
  refine B_aloadn rfl my_89 rfl ?_
  refine B_cV hE.1 rfl rfl cw_89_108 (as := []) (rest := []) rfl (Nat.le_of_ble_eq_true rfl) (g_tableNow1 hE hW) (fun vo s9 hq => ?_)
  obtain ⟨rfl, rfl⟩ := hq
  show Bt E 89 4 [wr 2, wi r, wi c, wi q, wx, wx] [wr T] σ _
  refine B_ref hE.1 rfl my_89 rfl (r := (T + 1)) (wf_0_0 hT) ?_
  refine B_astore rfl my_89 (by decide) rfl (show _ = [wr 2, wi r, wi c, wi q, wr (T + 1), wx] from rfl) ?_
  refine B_aload rfl my_89 rfl ?_
  refine B_iloadn rfl my_89 rfl ?_
  refine B_iloadn rfl my_89 rfl ?_
  refine B_cV hE.1 rfl (wc_1 hT) cw_89_36 (as := [wi r, wi c]) (rest := []) rfl (Nat.le_of_ble_eq_true rfl) (g_cellAt hE hT hS.hR hS.hI) (fun vo s9 hq => ?_)
  obtain ⟨rfl, rfl⟩ := hq
  show Bt E 89 16 [wr 2, wi r, wi c, wi q, wr (T + 1), wx] [wi (ca σ T r c)] σ _
  refine B_top (fun r1 => ?_)
  refine B_istore rfl my_89 (by decide) rfl (show _ = [wr 2, wi r, wi c, wi q, wr (T + 1), wi (ca σ T r c)] from rfl) ?_
  refine B_iload rfl my_89 rfl ?_
  refine B_iconst rfl my_89 (by decide) ?_
  refine B_ic_ne rfl my_89 rfl (tgt := 34) (nx := 24) rfl rfl (fun c2 => ?_) (fun c2 => ?_)
  · refine B_iloadn rfl my_89 rfl ?_
    refine B_if_lt rfl my_89 rfl (tgt := 52) (nx := 38) rfl rfl (fun c3 => ?_) (fun c3 => ?_)
    · refine B_iconst rfl my_89 (by decide) ?_
      refine B_iret rfl my_89 rfl ?_
      exact ⟨_, rfl, ⟨fun _ => by omega, fun _ _ => by omega⟩, rfl⟩
    · refine B_iloadn rfl my_89 rfl ?_
      refine B_aload rfl my_89 rfl ?_
      refine B_ref hE.1 rfl my_89 rfl (r := (T + 6)) (wf_1_2 hT) ?_
      refine B_iload rfl my_89 rfl ?_
      refine B_cV hE.1 rfl (nm_6 hT).1 cw_89_20 (as := [wi (ca σ T r c)]) (rest := [wi q]) rfl (Nat.le_of_ble_eq_true rfl) (g_at hE (nm_6 hT) (by decide) (kr_of fun _ => hS.hR _ (by omega) (by omega) _)) (fun vo s9 hq => ?_)
      obtain ⟨rfl, rfl⟩ := hq
      show Bt E 89 49 [wr 2, wi r, wi c, wi q, wr (T + 1), wi (ca σ T r c)] [wi (rd σ (T + 6) 501 (ca σ T r c)), wi q] σ _
      refine B_top (fun r4 => ?_)
      refine B_ic_lt rfl my_89 rfl (tgt := 54) (nx := 52) rfl rfl (fun c5 => ?_) (fun c5 => ?_)
      · refine B_aload rfl my_89 rfl ?_
        refine B_ref hE.1 rfl my_89 rfl (r := (T + 2)) (wf_1_0 hT) ?_
        refine B_aload rfl my_89 rfl ?_
        refine B_ref hE.1 rfl my_89 rfl (r := (T + 4)) (wf_1_1 hT) ?_
        refine B_iload rfl my_89 rfl ?_
        refine B_cV hE.1 rfl (nm_4 hT).1 cw_89_20 (as := [wi (ca σ T r c)]) (rest := [wr (T + 2)]) rfl (Nat.le_of_ble_eq_true rfl) (g_at hE (nm_4 hT) (by decide) (kr_of fun _ => hS.hR _ (by omega) (by omega) _)) (fun vo s9 hq => ?_)
        obtain ⟨rfl, rfl⟩ := hq
        show Bt E 89 69 [wr 2, wi r, wi c, wi q, wr (T + 1), wi (ca σ T r c)] [wi (rd σ (T + 4) 501 (ca σ T r c)), wr (T + 2)] σ _
        refine B_top (fun r6 => ?_)
        refine B_iloadn rfl my_89 rfl ?_
        refine B_iadd rfl my_89 (by omega) (by omega) ?_
        refine B_cV hE.1 rfl (nm_2 hT).1 cw_89_20 (as := [wi ((rd σ (T + 4) 501 (ca σ T r c)) + q)]) (rest := []) rfl (Nat.le_of_ble_eq_true rfl) (g_at hE (nm_2 hT) (by decide) (kr_of fun _ => hS.hR _ (by omega) (by omega) _)) (fun vo s9 hq => ?_)
        obtain ⟨rfl, rfl⟩ := hq
        show Bt E 89 74 [wr 2, wi r, wi c, wi q, wr (T + 1), wi (ca σ T r c)] [wi (rd σ (T + 2) 500 ((rd σ (T + 4) 501 (ca σ T r c)) + q))] σ _
        refine B_top (fun r7 => ?_)
        have := gs (((rd σ (T + 4) 501 (ca σ T r c)) + q))
        refine B_iret rfl my_89 rfl ?_
        exact ⟨_, rfl, ⟨fun _ => by omega, fun _ _ => by omega⟩, rfl⟩
      · refine B_iconst rfl my_89 (by decide) ?_
        refine B_iret rfl my_89 rfl ?_
        exact ⟨_, rfl, ⟨fun _ => by omega, fun _ _ => by omega⟩, rfl⟩
  · exfalso
    omega
theorem k_column0 {E : mE} {σ : wSt} {T : Nat} (hE : wE E) (hW : NWd σ T) {c : Int} (hc1 : 0 ≤ c) (hc2 : c < min (gv σ (T + 1) 12) 20) (hN : NTy T σ) : Gv E 90 [wr 2, wi c, wi 0] σ (wi (rd σ (T + 31) 20 c)) := by
  have hT : Tb T := hW.tb
  have hS := hW.2.2.2.2.1
  have hI := hS.hI
  refine Fn.of (nL := 4) ?_
  show Bt E 90 0 [wr 2, wi c, wi 0, wx] [] σ _
  refine B_rng 1 rfl (fun ha1 => ?_)
  refine B_rng 2 rfl (fun ha2 => ?_)
  refine B_aloadn rfl my_90 rfl ?_
  refine B_cV hE.1 rfl rfl cw_90_108 (as := []) (rest := []) rfl (Nat.le_of_ble_eq_true rfl) (g_tableNow1 hE hW) (fun vo s9 hq => ?_)
  obtain ⟨rfl, rfl⟩ := hq
  show Bt E 90 4 [wr 2, wi c, wi 0, wx] [wr T] σ _
  refine B_astoren rfl my_90 (by decide) rfl (show _ = [wr 2, wi c, wi 0, wr T] from rfl) ?_
  refine B_aloadn rfl my_90 rfl ?_
  refine B_iloadn rfl my_90 rfl ?_
  refine B_cV hE.1 rfl (wc_0 hT) cw_90_54 (as := [wi c]) (rest := []) rfl (Nat.le_of_ble_eq_true rfl) (g_hasColumn hE hT hS) (fun vo s9 hq => ?_)
  obtain ⟨x1, rfl, hz2, rfl⟩ := hq
  show Bt E 90 10 [wr 2, wi c, wi 0, wr T] [wi x1] σ _
  refine B_top (fun r3 => ?_)
  refine B_if_ne rfl my_90 rfl (tgt := 23) (nx := 13) rfl rfl (fun c4 => ?_) (fun c4 => ?_)
  · refine B_iloadn rfl my_90 rfl ?_
    refine B_if_lt rfl my_90 rfl (tgt := 32) (nx := 27) rfl rfl (fun c9 => absurd c9 (by decide)) (fun _ => ?_)
    show Bt E 90 27 [wr 2, wi c, wi 0, wr T] [] σ _
    refine B_iloadn rfl my_90 rfl ?_
    refine B_iconst rfl my_90 (by decide) ?_
    refine B_ic_le rfl my_90 rfl (tgt := 42) (nx := 32) rfl rfl (fun _ => ?_) (fun c9 => absurd c9 (by decide))
    show Bt E 90 42 [wr 2, wi c, wi 0, wr T] [] σ _
    refine B_aloadn rfl my_90 rfl ?_
    refine B_iloadn rfl my_90 rfl ?_
    refine B_iloadn rfl my_90 rfl ?_
    refine B_cV hE.1 rfl (wc_0 hT) cw_90_59 (as := [wi c, wi 0]) (rest := []) rfl (Nat.le_of_ble_eq_true rfl) (g_factOfColumn0 hE hT hS hc1 hc2) (fun vo s9 hq => ?_)
    obtain ⟨rfl, rfl⟩ := hq
    show Bt E 90 48 [wr 2, wi c, wi 0, wr T] [wi (rd σ (T + 31) 20 c)] σ _
    refine B_top (fun r7 => ?_)
    refine B_iret rfl my_90 rfl ?_
    exact ⟨rfl, rfl⟩
  · exfalso
    omega
theorem k_column1 {E : mE} {σ : wSt} {T : Nat} (hE : wE E) (hW : NWd σ T) {c : Int} (hc1 : 0 ≤ c) (hc2 : c < min (gv σ (T + 1) 12) 20) (hN : NTy T σ) : Gv E 90 [wr 2, wi c, wi 1] σ (wi (fln σ T c (gv σ T 10) (gv σ (T + 1) 9 - gv σ T 10).toNat)) := by
  have hT : Tb T := hW.tb
  have hS := hW.2.2.2.2.1
  have hI := hS.hI
  refine Fn.of (nL := 4) ?_
  show Bt E 90 0 [wr 2, wi c, wi 1, wx] [] σ _
  refine B_rng 1 rfl (fun ha1 => ?_)
  refine B_rng 2 rfl (fun ha2 => ?_)
  refine B_aloadn rfl my_90 rfl ?_
  refine B_cV hE.1 rfl rfl cw_90_108 (as := []) (rest := []) rfl (Nat.le_of_ble_eq_true rfl) (g_tableNow1 hE hW) (fun vo s9 hq => ?_)
  obtain ⟨rfl, rfl⟩ := hq
  show Bt E 90 4 [wr 2, wi c, wi 1, wx] [wr T] σ _
  refine B_astoren rfl my_90 (by decide) rfl (show _ = [wr 2, wi c, wi 1, wr T] from rfl) ?_
  refine B_aloadn rfl my_90 rfl ?_
  refine B_iloadn rfl my_90 rfl ?_
  refine B_cV hE.1 rfl (wc_0 hT) cw_90_54 (as := [wi c]) (rest := []) rfl (Nat.le_of_ble_eq_true rfl) (g_hasColumn hE hT hS) (fun vo s9 hq => ?_)
  obtain ⟨x1, rfl, hz2, rfl⟩ := hq
  show Bt E 90 10 [wr 2, wi c, wi 1, wr T] [wi x1] σ _
  refine B_top (fun r3 => ?_)
  refine B_if_ne rfl my_90 rfl (tgt := 23) (nx := 13) rfl rfl (fun c4 => ?_) (fun c4 => ?_)
  · refine B_iloadn rfl my_90 rfl ?_
    refine B_if_lt rfl my_90 rfl (tgt := 32) (nx := 27) rfl rfl (fun c9 => absurd c9 (by decide)) (fun _ => ?_)
    show Bt E 90 27 [wr 2, wi c, wi 1, wr T] [] σ _
    refine B_iloadn rfl my_90 rfl ?_
    refine B_iconst rfl my_90 (by decide) ?_
    refine B_ic_le rfl my_90 rfl (tgt := 42) (nx := 32) rfl rfl (fun _ => ?_) (fun c9 => absurd c9 (by decide))
    show Bt E 90 42 [wr 2, wi c, wi 1, wr T] [] σ _
    refine B_aloadn rfl my_90 rfl ?_
    refine B_iloadn rfl my_90 rfl ?_
    refine B_iloadn rfl my_90 rfl ?_
    refine B_cV hE.1 rfl (wc_0 hT) cw_90_59 (as := [wi c, wi 1]) (rest := []) rfl (Nat.le_of_ble_eq_true rfl) (g_factOfColumn1 hE hT hS hc1 hc2 hN) (fun vo s9 hq => ?_)
    obtain ⟨rfl, rfl⟩ := hq
    show Bt E 90 48 [wr 2, wi c, wi 1, wr T] [wi (fln σ T c (gv σ T 10) (gv σ (T + 1) 9 - gv σ T 10).toNat)] σ _
    refine B_top (fun r7 => ?_)
    refine B_iret rfl my_90 rfl ?_
    exact ⟨rfl, rfl⟩
  · exfalso
    omega
theorem k_column2 {E : mE} {σ : wSt} {T : Nat} (hE : wE E) (hW : NWd σ T) {c : Int} (hc1 : 0 ≤ c) (hc2 : c < min (gv σ (T + 1) 12) 20) (hN : NTy T σ) : Gv E 90 [wr 2, wi c, wi 2] σ (wi (ctn σ T c 0 (gv σ T 10) (gv σ (T + 1) 9 - gv σ T 10).toNat)) := by
  have hT : Tb T := hW.tb
  have hS := hW.2.2.2.2.1
  have hI := hS.hI
  refine Fn.of (nL := 4) ?_
  show Bt E 90 0 [wr 2, wi c, wi 2, wx] [] σ _
  refine B_rng 1 rfl (fun ha1 => ?_)
  refine B_rng 2 rfl (fun ha2 => ?_)
  refine B_aloadn rfl my_90 rfl ?_
  refine B_cV hE.1 rfl rfl cw_90_108 (as := []) (rest := []) rfl (Nat.le_of_ble_eq_true rfl) (g_tableNow1 hE hW) (fun vo s9 hq => ?_)
  obtain ⟨rfl, rfl⟩ := hq
  show Bt E 90 4 [wr 2, wi c, wi 2, wx] [wr T] σ _
  refine B_astoren rfl my_90 (by decide) rfl (show _ = [wr 2, wi c, wi 2, wr T] from rfl) ?_
  refine B_aloadn rfl my_90 rfl ?_
  refine B_iloadn rfl my_90 rfl ?_
  refine B_cV hE.1 rfl (wc_0 hT) cw_90_54 (as := [wi c]) (rest := []) rfl (Nat.le_of_ble_eq_true rfl) (g_hasColumn hE hT hS) (fun vo s9 hq => ?_)
  obtain ⟨x1, rfl, hz2, rfl⟩ := hq
  show Bt E 90 10 [wr 2, wi c, wi 2, wr T] [wi x1] σ _
  refine B_top (fun r3 => ?_)
  refine B_if_ne rfl my_90 rfl (tgt := 23) (nx := 13) rfl rfl (fun c4 => ?_) (fun c4 => ?_)
  · refine B_iloadn rfl my_90 rfl ?_
    refine B_if_lt rfl my_90 rfl (tgt := 32) (nx := 27) rfl rfl (fun c9 => absurd c9 (by decide)) (fun _ => ?_)
    show Bt E 90 27 [wr 2, wi c, wi 2, wr T] [] σ _
    refine B_iloadn rfl my_90 rfl ?_
    refine B_iconst rfl my_90 (by decide) ?_
    refine B_ic_le rfl my_90 rfl (tgt := 42) (nx := 32) rfl rfl (fun _ => ?_) (fun c9 => absurd c9 (by decide))
    show Bt E 90 42 [wr 2, wi c, wi 2, wr T] [] σ _
    refine B_aloadn rfl my_90 rfl ?_
    refine B_iloadn rfl my_90 rfl ?_
    refine B_iloadn rfl my_90 rfl ?_
    refine B_cV hE.1 rfl (wc_0 hT) cw_90_59 (as := [wi c, wi 2]) (rest := []) rfl (Nat.le_of_ble_eq_true rfl) (g_factOfColumn2 hE hT hS hc1 hc2 hN) (fun vo s9 hq => ?_)
    obtain ⟨rfl, rfl⟩ := hq
    show Bt E 90 48 [wr 2, wi c, wi 2, wr T] [wi (ctn σ T c 0 (gv σ T 10) (gv σ (T + 1) 9 - gv σ T 10).toNat)] σ _
    refine B_top (fun r7 => ?_)
    refine B_iret rfl my_90 rfl ?_
    exact ⟨rfl, rfl⟩
  · exfalso
    omega
theorem k_column3 {E : mE} {σ : wSt} {T : Nat} (hE : wE E) (hW : NWd σ T) {c : Int} (hc1 : 0 ≤ c) (hc2 : c < min (gv σ (T + 1) 12) 20) (hN : NTy T σ) : Gv E 90 [wr 2, wi c, wi 3] σ (wi (icn σ T c (gv σ (T + 16) 3).toNat)) := by
  have hT : Tb T := hW.tb
  have hS := hW.2.2.2.2.1
  have hI := hS.hI
  refine Fn.of (nL := 4) ?_
  show Bt E 90 0 [wr 2, wi c, wi 3, wx] [] σ _
  refine B_rng 1 rfl (fun ha1 => ?_)
  refine B_rng 2 rfl (fun ha2 => ?_)
  refine B_aloadn rfl my_90 rfl ?_
  refine B_cV hE.1 rfl rfl cw_90_108 (as := []) (rest := []) rfl (Nat.le_of_ble_eq_true rfl) (g_tableNow1 hE hW) (fun vo s9 hq => ?_)
  obtain ⟨rfl, rfl⟩ := hq
  show Bt E 90 4 [wr 2, wi c, wi 3, wx] [wr T] σ _
  refine B_astoren rfl my_90 (by decide) rfl (show _ = [wr 2, wi c, wi 3, wr T] from rfl) ?_
  refine B_aloadn rfl my_90 rfl ?_
  refine B_iloadn rfl my_90 rfl ?_
  refine B_cV hE.1 rfl (wc_0 hT) cw_90_54 (as := [wi c]) (rest := []) rfl (Nat.le_of_ble_eq_true rfl) (g_hasColumn hE hT hS) (fun vo s9 hq => ?_)
  obtain ⟨x1, rfl, hz2, rfl⟩ := hq
  show Bt E 90 10 [wr 2, wi c, wi 3, wr T] [wi x1] σ _
  refine B_top (fun r3 => ?_)
  refine B_if_ne rfl my_90 rfl (tgt := 23) (nx := 13) rfl rfl (fun c4 => ?_) (fun c4 => ?_)
  · refine B_iloadn rfl my_90 rfl ?_
    refine B_if_lt rfl my_90 rfl (tgt := 32) (nx := 27) rfl rfl (fun c9 => absurd c9 (by decide)) (fun _ => ?_)
    show Bt E 90 27 [wr 2, wi c, wi 3, wr T] [] σ _
    refine B_iloadn rfl my_90 rfl ?_
    refine B_iconst rfl my_90 (by decide) ?_
    refine B_ic_le rfl my_90 rfl (tgt := 42) (nx := 32) rfl rfl (fun _ => ?_) (fun c9 => absurd c9 (by decide))
    show Bt E 90 42 [wr 2, wi c, wi 3, wr T] [] σ _
    refine B_aloadn rfl my_90 rfl ?_
    refine B_iloadn rfl my_90 rfl ?_
    refine B_iloadn rfl my_90 rfl ?_
    refine B_cV hE.1 rfl (wc_0 hT) cw_90_59 (as := [wi c, wi 3]) (rest := []) rfl (Nat.le_of_ble_eq_true rfl) (g_factOfColumn3 hE hT hS hc1 hc2) (fun vo s9 hq => ?_)
    obtain ⟨rfl, rfl⟩ := hq
    show Bt E 90 48 [wr 2, wi c, wi 3, wr T] [wi (icn σ T c (gv σ (T + 16) 3).toNat)] σ _
    refine B_top (fun r7 => ?_)
    refine B_iret rfl my_90 rfl ?_
    exact ⟨rfl, rfl⟩
  · exfalso
    omega
theorem k_column4 {E : mE} {σ : wSt} {T : Nat} (hE : wE E) (hW : NWd σ T) {c : Int} (hc1 : 0 ≤ c) (hc2 : c < min (gv σ (T + 1) 12) 20) (hN : NTy T σ) : Gv E 90 [wr 2, wi c, wi 4] σ (wi (fln σ T c (gv σ T 10) (gv σ (T + 1) 9 - gv σ T 10).toNat - rpn σ T c (gv σ T 10) (gv σ (T + 1) 9 - gv σ T 10).toNat)) := by
  have hT : Tb T := hW.tb
  have hS := hW.2.2.2.2.1
  have hI := hS.hI
  refine Fn.of (nL := 4) ?_
  show Bt E 90 0 [wr 2, wi c, wi 4, wx] [] σ _
  refine B_rng 1 rfl (fun ha1 => ?_)
  refine B_rng 2 rfl (fun ha2 => ?_)
  refine B_aloadn rfl my_90 rfl ?_
  refine B_cV hE.1 rfl rfl cw_90_108 (as := []) (rest := []) rfl (Nat.le_of_ble_eq_true rfl) (g_tableNow1 hE hW) (fun vo s9 hq => ?_)
  obtain ⟨rfl, rfl⟩ := hq
  show Bt E 90 4 [wr 2, wi c, wi 4, wx] [wr T] σ _
  refine B_astoren rfl my_90 (by decide) rfl (show _ = [wr 2, wi c, wi 4, wr T] from rfl) ?_
  refine B_aloadn rfl my_90 rfl ?_
  refine B_iloadn rfl my_90 rfl ?_
  refine B_cV hE.1 rfl (wc_0 hT) cw_90_54 (as := [wi c]) (rest := []) rfl (Nat.le_of_ble_eq_true rfl) (g_hasColumn hE hT hS) (fun vo s9 hq => ?_)
  obtain ⟨x1, rfl, hz2, rfl⟩ := hq
  show Bt E 90 10 [wr 2, wi c, wi 4, wr T] [wi x1] σ _
  refine B_top (fun r3 => ?_)
  refine B_if_ne rfl my_90 rfl (tgt := 23) (nx := 13) rfl rfl (fun c4 => ?_) (fun c4 => ?_)
  · refine B_iloadn rfl my_90 rfl ?_
    refine B_if_lt rfl my_90 rfl (tgt := 32) (nx := 27) rfl rfl (fun c9 => absurd c9 (by decide)) (fun _ => ?_)
    show Bt E 90 27 [wr 2, wi c, wi 4, wr T] [] σ _
    refine B_iloadn rfl my_90 rfl ?_
    refine B_iconst rfl my_90 (by decide) ?_
    refine B_ic_le rfl my_90 rfl (tgt := 42) (nx := 32) rfl rfl (fun _ => ?_) (fun c9 => absurd c9 (by decide))
    show Bt E 90 42 [wr 2, wi c, wi 4, wr T] [] σ _
    refine B_aloadn rfl my_90 rfl ?_
    refine B_iloadn rfl my_90 rfl ?_
    refine B_iloadn rfl my_90 rfl ?_
    refine B_cV hE.1 rfl (wc_0 hT) cw_90_59 (as := [wi c, wi 4]) (rest := []) rfl (Nat.le_of_ble_eq_true rfl) (g_factOfColumn4 hE hT hS hc1 hc2 hN) (fun vo s9 hq => ?_)
    obtain ⟨rfl, rfl⟩ := hq
    show Bt E 90 48 [wr 2, wi c, wi 4, wr T] [wi (fln σ T c (gv σ T 10) (gv σ (T + 1) 9 - gv σ T 10).toNat - rpn σ T c (gv σ T 10) (gv σ (T + 1) 9 - gv σ T 10).toNat)] σ _
    refine B_top (fun r7 => ?_)
    refine B_iret rfl my_90 rfl ?_
    exact ⟨rfl, rfl⟩
  · exfalso
    omega
theorem k_extreme0 {E : mE} {σ : wSt} {T : Nat} (hE : wE E) (hW : NWd σ T) {c : Int} (hc1 : 0 ≤ c) (hc2 : c < min (gv σ (T + 1) 12) 20) : Fn E 91 [wr 2, wi c, wi 0] σ (fun vo t => ∃ x, vo = some (wi x) ∧ (LoB σ T c (gv σ T 11) x ∧ (NFl σ T c (gv σ T 11) → x = 0)) ∧ σ = t) := by
  have hT : Tb T := hW.tb
  have hS := hW.2.2.2.2.1
  have hI := hS.hI
  refine Fn.of (nL := 4) ?_
  show Bt E 91 0 [wr 2, wi c, wi 0, wx] [] σ _
  refine B_rng 1 rfl (fun ha1 => ?_)
  refine B_rng 2 rfl (fun ha2 => ?_)
  refine B_aloadn rfl my_91 rfl ?_
  refine B_cV hE.1 rfl rfl cw_91_108 (as := []) (rest := []) rfl (Nat.le_of_ble_eq_true rfl) (g_tableNow1 hE hW) (fun vo s9 hq => ?_)
  obtain ⟨rfl, rfl⟩ := hq
  show Bt E 91 4 [wr 2, wi c, wi 0, wx] [wr T] σ _
  refine B_astoren rfl my_91 (by decide) rfl (show _ = [wr 2, wi c, wi 0, wr T] from rfl) ?_
  refine B_aloadn rfl my_91 rfl ?_
  refine B_iloadn rfl my_91 rfl ?_
  refine B_cV hE.1 rfl (wc_0 hT) cw_91_54 (as := [wi c]) (rest := []) rfl (Nat.le_of_ble_eq_true rfl) (g_hasColumn hE hT hS) (fun vo s9 hq => ?_)
  obtain ⟨x1, rfl, hz2, rfl⟩ := hq
  show Bt E 91 10 [wr 2, wi c, wi 0, wr T] [wi x1] σ _
  refine B_top (fun r3 => ?_)
  refine B_if_ne rfl my_91 rfl (tgt := 23) (nx := 13) rfl rfl (fun c4 => ?_) (fun c4 => ?_)
  · refine B_iloadn rfl my_91 rfl ?_
    refine B_if_eq rfl my_91 rfl (tgt := 42) (nx := 27) rfl rfl (fun _ => ?_) (fun c9 => absurd c9 (by decide))
    show Bt E 91 42 [wr 2, wi c, wi 0, wr T] [] σ _
    refine B_aloadn rfl my_91 rfl ?_
    refine B_iloadn rfl my_91 rfl ?_
    refine B_iloadn rfl my_91 rfl ?_
    refine B_iconst rfl my_91 (by decide) ?_
    refine B_ic_ne rfl my_91 rfl (tgt := 53) (nx := 49) rfl rfl (fun _ => ?_) (fun c9 => absurd c9 (by decide))
    show Bt E 91 53 [wr 2, wi c, wi 0, wr T] [wi c, wr T] σ _
    refine B_iconst rfl my_91 (by decide) ?_
    refine B_cV hE.1 rfl (wc_0 hT) cw_91_64 (as := [wi c, wi 0]) (rest := []) rfl (Nat.le_of_ble_eq_true rfl) (g_extreme0 hE hT hS hc1 hc2) (fun vo s9 hq => ?_)
    obtain ⟨x, rfl, hx, rfl⟩ := hq
    show Bt E 91 57 [wr 2, wi c, wi 0, wr T] [wi x] σ _
    refine B_top (fun r7 => ?_)
    refine B_iret rfl my_91 rfl ?_
    exact ⟨_, rfl, hx, rfl⟩
  · exfalso
    omega
theorem k_extreme1 {E : mE} {σ : wSt} {T : Nat} (hE : wE E) (hW : NWd σ T) {c : Int} (hc1 : 0 ≤ c) (hc2 : c < min (gv σ (T + 1) 12) 20) : Fn E 91 [wr 2, wi c, wi 1] σ (fun vo t => ∃ x, vo = some (wi x) ∧ (HiB σ T c (gv σ T 11) x ∧ (NFl σ T c (gv σ T 11) → x = 0)) ∧ σ = t) := by
  have hT : Tb T := hW.tb
  have hS := hW.2.2.2.2.1
  have hI := hS.hI
  refine Fn.of (nL := 4) ?_
  show Bt E 91 0 [wr 2, wi c, wi 1, wx] [] σ _
  refine B_rng 1 rfl (fun ha1 => ?_)
  refine B_rng 2 rfl (fun ha2 => ?_)
  refine B_aloadn rfl my_91 rfl ?_
  refine B_cV hE.1 rfl rfl cw_91_108 (as := []) (rest := []) rfl (Nat.le_of_ble_eq_true rfl) (g_tableNow1 hE hW) (fun vo s9 hq => ?_)
  obtain ⟨rfl, rfl⟩ := hq
  show Bt E 91 4 [wr 2, wi c, wi 1, wx] [wr T] σ _
  refine B_astoren rfl my_91 (by decide) rfl (show _ = [wr 2, wi c, wi 1, wr T] from rfl) ?_
  refine B_aloadn rfl my_91 rfl ?_
  refine B_iloadn rfl my_91 rfl ?_
  refine B_cV hE.1 rfl (wc_0 hT) cw_91_54 (as := [wi c]) (rest := []) rfl (Nat.le_of_ble_eq_true rfl) (g_hasColumn hE hT hS) (fun vo s9 hq => ?_)
  obtain ⟨x1, rfl, hz2, rfl⟩ := hq
  show Bt E 91 10 [wr 2, wi c, wi 1, wr T] [wi x1] σ _
  refine B_top (fun r3 => ?_)
  refine B_if_ne rfl my_91 rfl (tgt := 23) (nx := 13) rfl rfl (fun c4 => ?_) (fun c4 => ?_)
  · refine B_iloadn rfl my_91 rfl ?_
    refine B_if_eq rfl my_91 rfl (tgt := 42) (nx := 27) rfl rfl (fun c9 => absurd c9 (by decide)) (fun _ => ?_)
    show Bt E 91 27 [wr 2, wi c, wi 1, wr T] [] σ _
    refine B_iloadn rfl my_91 rfl ?_
    refine B_iconst rfl my_91 (by decide) ?_
    refine B_ic_eq rfl my_91 rfl (tgt := 42) (nx := 32) rfl rfl (fun _ => ?_) (fun c9 => absurd c9 (by decide))
    show Bt E 91 42 [wr 2, wi c, wi 1, wr T] [] σ _
    refine B_aloadn rfl my_91 rfl ?_
    refine B_iloadn rfl my_91 rfl ?_
    refine B_iloadn rfl my_91 rfl ?_
    refine B_iconst rfl my_91 (by decide) ?_
    refine B_ic_ne rfl my_91 rfl (tgt := 53) (nx := 49) rfl rfl (fun c9 => absurd c9 (by decide)) (fun _ => ?_)
    show Bt E 91 49 [wr 2, wi c, wi 1, wr T] [wi c, wr T] σ _
    refine B_iconst rfl my_91 (by decide) ?_
    refine B_goto rfl my_91 rfl (tgt := 54) rfl ?_
    refine B_cV hE.1 rfl (wc_0 hT) cw_91_64 (as := [wi c, wi 1]) (rest := []) rfl (Nat.le_of_ble_eq_true rfl) (g_extreme1 hE hT hS hc1 hc2) (fun vo s9 hq => ?_)
    obtain ⟨x, rfl, hx, rfl⟩ := hq
    show Bt E 91 57 [wr 2, wi c, wi 1, wr T] [wi x] σ _
    refine B_top (fun r8 => ?_)
    refine B_iret rfl my_91 rfl ?_
    exact ⟨_, rfl, hx, rfl⟩
  · exfalso
    omega
theorem k_sum {E : mE} {σ : wSt} {T : Nat} (hE : wE E) (hW : NWd σ T) {c : Int} (hc1 : 0 ≤ c) (hc2 : c < min (gv σ (T + 1) 12) 20) : Fn E 92 [wr 2, wi c] σ (fun vo t => vo = some (wl (sv σ T c (gv σ T 11).toNat)) ∧ σ = t) := by
  have hT : Tb T := hW.tb
  have hS := hW.2.2.2.2.1
  have hI := hS.hI
  refine Fn.of (nL := 3) ?_
  show Bt E 92 0 [wr 2, wi c, wx] [] σ _
  refine B_rng 1 rfl (fun ha1 => ?_)
  refine B_aloadn rfl my_92 rfl ?_
  refine B_cV hE.1 rfl rfl cw_92_108 (as := []) (rest := []) rfl (Nat.le_of_ble_eq_true rfl) (g_tableNow1 hE hW) (fun vo s9 hq => ?_)
  obtain ⟨rfl, rfl⟩ := hq
  show Bt E 92 4 [wr 2, wi c, wx] [wr T] σ _
  refine B_astoren rfl my_92 (by decide) rfl (show _ = [wr 2, wi c, wr T] from rfl) ?_
  refine B_aloadn rfl my_92 rfl ?_
  refine B_iloadn rfl my_92 rfl ?_
  refine B_cV hE.1 rfl (wc_0 hT) cw_92_54 (as := [wi c]) (rest := []) rfl (Nat.le_of_ble_eq_true rfl) (g_hasColumn hE hT hS) (fun vo s9 hq => ?_)
  obtain ⟨x1, rfl, hz2, rfl⟩ := hq
  show Bt E 92 10 [wr 2, wi c, wr T] [wi x1] σ _
  refine B_top (fun r3 => ?_)
  refine B_if_ne rfl my_92 rfl (tgt := 23) (nx := 13) rfl rfl (fun c4 => ?_) (fun c4 => ?_)
  · refine B_aloadn rfl my_92 rfl ?_
    refine B_iloadn rfl my_92 rfl ?_
    refine B_cV hE.1 rfl (wc_0 hT) cw_92_65 (as := [wi c]) (rest := []) rfl (Nat.le_of_ble_eq_true rfl) (g_total hE hT hS hc1 hc2) (fun vo s9 hq => ?_)
    obtain ⟨rfl, hb, rfl⟩ := hq
    show Bt E 92 28 [wr 2, wi c, wr T] [wl (sv σ T c (gv σ T 11).toNat)] σ _
    refine B_lret rfl my_92 rfl ?_
    exact ⟨rfl, rfl⟩
  · exfalso
    omega
theorem k_fault0 {E : mE} {σ : wSt} {T : Nat} (hE : wE E) (hW : NWd σ T) {n : Int} (hn1 : 0 ≤ n) (hn2 : n < gv σ (T + 16) 3) : Gv E 94 [wr 2, wi n, wi 0] σ (wi (rd σ (T + 17) 561 n)) := by
  have hT : Tb T := hW.tb
  have hS := hW.2.2.2.2.1
  have hI := hS.hI
  refine Fn.of (nL := 4) ?_
  show Bt E 94 0 [wr 2, wi n, wi 0, wx] [] σ _
  refine B_rng 1 rfl (fun ha1 => ?_)
  refine B_rng 2 rfl (fun ha2 => ?_)
  refine B_aloadn rfl my_94 rfl ?_
  refine B_cV hE.1 rfl rfl cw_94_108 (as := []) (rest := []) rfl (Nat.le_of_ble_eq_true rfl) (g_tableNow1 hE hW) (fun vo s9 hq => ?_)
  obtain ⟨rfl, rfl⟩ := hq
  show Bt E 94 4 [wr 2, wi n, wi 0, wx] [wr T] σ _
  refine B_ref hE.1 rfl my_94 rfl (r := (T + 16)) (wf_0_1 hT) ?_
  refine B_astoren rfl my_94 (by decide) rfl (show _ = [wr 2, wi n, wi 0, wr (T + 16)] from rfl) ?_
  refine B_iloadn rfl my_94 rfl ?_
  refine B_if_lt rfl my_94 rfl (tgt := 20) (nx := 12) rfl rfl (fun c1 => ?_) (fun c1 => ?_)
  · exfalso
    omega
  · refine B_iloadn rfl my_94 rfl ?_
    refine B_aloadn rfl my_94 rfl ?_
    refine B_int hE.1 rfl my_94 rfl (wn_16_3 hT) hS.2.2.2.2.1.1 (fun r2 => ?_)
    refine B_ic_lt rfl my_94 rfl (tgt := 30) (nx := 20) rfl rfl (fun c3 => ?_) (fun c3 => ?_)
    · refine B_iloadn rfl my_94 rfl ?_
      refine B_if_lt rfl my_94 rfl (tgt := 39) (nx := 34) rfl rfl (fun c9 => absurd c9 (by decide)) (fun _ => ?_)
      show Bt E 94 34 [wr 2, wi n, wi 0, wr (T + 16)] [] σ _
      refine B_iloadn rfl my_94 rfl ?_
      refine B_iconst rfl my_94 (by decide) ?_
      refine B_ic_le rfl my_94 rfl (tgt := 49) (nx := 39) rfl rfl (fun _ => ?_) (fun c9 => absurd c9 (by decide))
      show Bt E 94 49 [wr 2, wi n, wi 0, wr (T + 16)] [] σ _
      refine B_aloadn rfl my_94 rfl ?_
      refine B_iloadn rfl my_94 rfl ?_
      refine B_iloadn rfl my_94 rfl ?_
      refine B_cV hE.1 rfl (wc_16 hT) cw_94_2 (as := [wi n, wi 0]) (rest := []) rfl (Nat.le_of_ble_eq_true rfl) (g_fact0 hE hT hS (by omega) (by omega)) (fun vo s9 hq => ?_)
      obtain ⟨rfl, rfl⟩ := hq
      show Bt E 94 55 [wr 2, wi n, wi 0, wr (T + 16)] [wi (rd σ (T + 17) 561 n)] σ _
      refine B_top (fun r6 => ?_)
      refine B_iret rfl my_94 rfl ?_
      exact ⟨rfl, rfl⟩
    · exfalso
      omega
theorem k_fault1 {E : mE} {σ : wSt} {T : Nat} (hE : wE E) (hW : NWd σ T) {n : Int} (hn1 : 0 ≤ n) (hn2 : n < gv σ (T + 16) 3) : Gv E 94 [wr 2, wi n, wi 1] σ (wi (rd σ (T + 19) 561 n)) := by
  have hT : Tb T := hW.tb
  have hS := hW.2.2.2.2.1
  have hI := hS.hI
  refine Fn.of (nL := 4) ?_
  show Bt E 94 0 [wr 2, wi n, wi 1, wx] [] σ _
  refine B_rng 1 rfl (fun ha1 => ?_)
  refine B_rng 2 rfl (fun ha2 => ?_)
  refine B_aloadn rfl my_94 rfl ?_
  refine B_cV hE.1 rfl rfl cw_94_108 (as := []) (rest := []) rfl (Nat.le_of_ble_eq_true rfl) (g_tableNow1 hE hW) (fun vo s9 hq => ?_)
  obtain ⟨rfl, rfl⟩ := hq
  show Bt E 94 4 [wr 2, wi n, wi 1, wx] [wr T] σ _
  refine B_ref hE.1 rfl my_94 rfl (r := (T + 16)) (wf_0_1 hT) ?_
  refine B_astoren rfl my_94 (by decide) rfl (show _ = [wr 2, wi n, wi 1, wr (T + 16)] from rfl) ?_
  refine B_iloadn rfl my_94 rfl ?_
  refine B_if_lt rfl my_94 rfl (tgt := 20) (nx := 12) rfl rfl (fun c1 => ?_) (fun c1 => ?_)
  · exfalso
    omega
  · refine B_iloadn rfl my_94 rfl ?_
    refine B_aloadn rfl my_94 rfl ?_
    refine B_int hE.1 rfl my_94 rfl (wn_16_3 hT) hS.2.2.2.2.1.1 (fun r2 => ?_)
    refine B_ic_lt rfl my_94 rfl (tgt := 30) (nx := 20) rfl rfl (fun c3 => ?_) (fun c3 => ?_)
    · refine B_iloadn rfl my_94 rfl ?_
      refine B_if_lt rfl my_94 rfl (tgt := 39) (nx := 34) rfl rfl (fun c9 => absurd c9 (by decide)) (fun _ => ?_)
      show Bt E 94 34 [wr 2, wi n, wi 1, wr (T + 16)] [] σ _
      refine B_iloadn rfl my_94 rfl ?_
      refine B_iconst rfl my_94 (by decide) ?_
      refine B_ic_le rfl my_94 rfl (tgt := 49) (nx := 39) rfl rfl (fun _ => ?_) (fun c9 => absurd c9 (by decide))
      show Bt E 94 49 [wr 2, wi n, wi 1, wr (T + 16)] [] σ _
      refine B_aloadn rfl my_94 rfl ?_
      refine B_iloadn rfl my_94 rfl ?_
      refine B_iloadn rfl my_94 rfl ?_
      refine B_cV hE.1 rfl (wc_16 hT) cw_94_2 (as := [wi n, wi 1]) (rest := []) rfl (Nat.le_of_ble_eq_true rfl) (g_fact1 hE hT hS (by omega) (by omega)) (fun vo s9 hq => ?_)
      obtain ⟨rfl, rfl⟩ := hq
      show Bt E 94 55 [wr 2, wi n, wi 1, wr (T + 16)] [wi (rd σ (T + 19) 561 n)] σ _
      refine B_top (fun r6 => ?_)
      refine B_iret rfl my_94 rfl ?_
      exact ⟨rfl, rfl⟩
    · exfalso
      omega
theorem k_fault2 {E : mE} {σ : wSt} {T : Nat} (hE : wE E) (hW : NWd σ T) {n : Int} (hn1 : 0 ≤ n) (hn2 : n < gv σ (T + 16) 3) : Gv E 94 [wr 2, wi n, wi 2] σ (wi (rd σ (T + 21) 561 n)) := by
  have hT : Tb T := hW.tb
  have hS := hW.2.2.2.2.1
  have hI := hS.hI
  refine Fn.of (nL := 4) ?_
  show Bt E 94 0 [wr 2, wi n, wi 2, wx] [] σ _
  refine B_rng 1 rfl (fun ha1 => ?_)
  refine B_rng 2 rfl (fun ha2 => ?_)
  refine B_aloadn rfl my_94 rfl ?_
  refine B_cV hE.1 rfl rfl cw_94_108 (as := []) (rest := []) rfl (Nat.le_of_ble_eq_true rfl) (g_tableNow1 hE hW) (fun vo s9 hq => ?_)
  obtain ⟨rfl, rfl⟩ := hq
  show Bt E 94 4 [wr 2, wi n, wi 2, wx] [wr T] σ _
  refine B_ref hE.1 rfl my_94 rfl (r := (T + 16)) (wf_0_1 hT) ?_
  refine B_astoren rfl my_94 (by decide) rfl (show _ = [wr 2, wi n, wi 2, wr (T + 16)] from rfl) ?_
  refine B_iloadn rfl my_94 rfl ?_
  refine B_if_lt rfl my_94 rfl (tgt := 20) (nx := 12) rfl rfl (fun c1 => ?_) (fun c1 => ?_)
  · exfalso
    omega
  · refine B_iloadn rfl my_94 rfl ?_
    refine B_aloadn rfl my_94 rfl ?_
    refine B_int hE.1 rfl my_94 rfl (wn_16_3 hT) hS.2.2.2.2.1.1 (fun r2 => ?_)
    refine B_ic_lt rfl my_94 rfl (tgt := 30) (nx := 20) rfl rfl (fun c3 => ?_) (fun c3 => ?_)
    · refine B_iloadn rfl my_94 rfl ?_
      refine B_if_lt rfl my_94 rfl (tgt := 39) (nx := 34) rfl rfl (fun c9 => absurd c9 (by decide)) (fun _ => ?_)
      show Bt E 94 34 [wr 2, wi n, wi 2, wr (T + 16)] [] σ _
      refine B_iloadn rfl my_94 rfl ?_
      refine B_iconst rfl my_94 (by decide) ?_
      refine B_ic_le rfl my_94 rfl (tgt := 49) (nx := 39) rfl rfl (fun _ => ?_) (fun c9 => absurd c9 (by decide))
      show Bt E 94 49 [wr 2, wi n, wi 2, wr (T + 16)] [] σ _
      refine B_aloadn rfl my_94 rfl ?_
      refine B_iloadn rfl my_94 rfl ?_
      refine B_iloadn rfl my_94 rfl ?_
      refine B_cV hE.1 rfl (wc_16 hT) cw_94_2 (as := [wi n, wi 2]) (rest := []) rfl (Nat.le_of_ble_eq_true rfl) (g_fact2 hE hT hS (by omega) (by omega)) (fun vo s9 hq => ?_)
      obtain ⟨rfl, rfl⟩ := hq
      show Bt E 94 55 [wr 2, wi n, wi 2, wr (T + 16)] [wi (rd σ (T + 21) 561 n)] σ _
      refine B_top (fun r6 => ?_)
      refine B_iret rfl my_94 rfl ?_
      exact ⟨rfl, rfl⟩
    · exfalso
      omega
theorem k_kept {E : mE} {σ : wSt} {T : Nat} (hE : wE E) (hW : NWd σ T) {q : Int} (hq1 : 0 ≤ q) (hq2 : q < gv σ T 11) : Gv E 95 [wr 2, wi q] σ (wi (rd σ (T + 23) 60 q)) := by
  have hT : Tb T := hW.tb
  have hS := hW.2.2.2.2.1
  have hI := hS.hI
  refine Fn.of (nL := 3) ?_
  show Bt E 95 0 [wr 2, wi q, wx] [] σ _
  refine B_rng 1 rfl (fun ha1 => ?_)
  refine B_aloadn rfl my_95 rfl ?_
  refine B_cV hE.1 rfl rfl cw_95_108 (as := []) (rest := []) rfl (Nat.le_of_ble_eq_true rfl) (g_tableNow1 hE hW) (fun vo s9 hq => ?_)
  obtain ⟨rfl, rfl⟩ := hq
  show Bt E 95 4 [wr 2, wi q, wx] [wr T] σ _
  refine B_astoren rfl my_95 (by decide) rfl (show _ = [wr 2, wi q, wr T] from rfl) ?_
  refine B_aloadn rfl my_95 rfl ?_
  refine B_iloadn rfl my_95 rfl ?_
  refine B_cV hE.1 rfl (wc_0 hT) cw_95_55 (as := [wi q]) (rest := []) rfl (Nat.le_of_ble_eq_true rfl) (g_hasKept hE hT hS) (fun vo s9 hq => ?_)
  obtain ⟨x1, rfl, hz2, rfl⟩ := hq
  show Bt E 95 10 [wr 2, wi q, wr T] [wi x1] σ _
  refine B_top (fun r3 => ?_)
  refine B_if_ne rfl my_95 rfl (tgt := 23) (nx := 13) rfl rfl (fun c4 => ?_) (fun c4 => ?_)
  · refine B_aloadn rfl my_95 rfl ?_
    refine B_ref hE.1 rfl my_95 rfl (r := (T + 23)) (wf_0_2 hT) ?_
    refine B_iloadn rfl my_95 rfl ?_
    refine B_cV hE.1 rfl (nm_23 hT).1 cw_95_20 (as := [wi q]) (rest := []) rfl (Nat.le_of_ble_eq_true rfl) (g_at hE (nm_23 hT) (by decide) (hS.kp hq1 hq2)) (fun vo s9 hq => ?_)
    obtain ⟨rfl, rfl⟩ := hq
    show Bt E 95 31 [wr 2, wi q, wr T] [wi (rd σ (T + 23) 60 q)] σ _
    refine B_top (fun r5 => ?_)
    refine B_iret rfl my_95 rfl ?_
    exact ⟨rfl, rfl⟩
  · exfalso
    omega
theorem k_value {E : mE} {σ : wSt} {T : Nat} (hE : wE E) (hW : NWd σ T) {q : Int} (hq1 : 0 ≤ q) (hq2 : q < gv σ T 11) {c : Int} (hc1 : 0 ≤ c) (hc2 : c < min (gv σ (T + 1) 12) 20) : Gv E 96 [wr 2, wi q, wi c] σ (wi (vi σ T q c)) := by
  have hT : Tb T := hW.tb
  have hS := hW.2.2.2.2.1
  have hI := hS.hI
  refine Fn.of (nL := 4) ?_
  show Bt E 96 0 [wr 2, wi q, wi c, wx] [] σ _
  refine B_rng 1 rfl (fun ha1 => ?_)
  refine B_rng 2 rfl (fun ha2 => ?_)
  refine B_aloadn rfl my_96 rfl ?_
  refine B_cV hE.1 rfl rfl cw_96_108 (as := []) (rest := []) rfl (Nat.le_of_ble_eq_true rfl) (g_tableNow1 hE hW) (fun vo s9 hq => ?_)
  obtain ⟨rfl, rfl⟩ := hq
  show Bt E 96 4 [wr 2, wi q, wi c, wx] [wr T] σ _
  refine B_astoren rfl my_96 (by decide) rfl (show _ = [wr 2, wi q, wi c, wr T] from rfl) ?_
  refine B_aloadn rfl my_96 rfl ?_
  refine B_iloadn rfl my_96 rfl ?_
  refine B_cV hE.1 rfl (wc_0 hT) cw_96_55 (as := [wi q]) (rest := []) rfl (Nat.le_of_ble_eq_true rfl) (g_hasKept hE hT hS) (fun vo s9 hq => ?_)
  obtain ⟨x1, rfl, hz2, rfl⟩ := hq
  show Bt E 96 10 [wr 2, wi q, wi c, wr T] [wi x1] σ _
  refine B_top (fun r3 => ?_)
  refine B_if_eq rfl my_96 rfl (tgt := 21) (nx := 13) rfl rfl (fun c4 => ?_) (fun c4 => ?_)
  · exfalso
    omega
  · refine B_aloadn rfl my_96 rfl ?_
    refine B_iloadn rfl my_96 rfl ?_
    refine B_cV hE.1 rfl (wc_0 hT) cw_96_54 (as := [wi c]) (rest := []) rfl (Nat.le_of_ble_eq_true rfl) (g_hasColumn hE hT hS) (fun vo s9 hq => ?_)
    obtain ⟨x5, rfl, hz6, rfl⟩ := hq
    show Bt E 96 18 [wr 2, wi q, wi c, wr T] [wi x5] σ _
    refine B_top (fun r7 => ?_)
    refine B_if_ne rfl my_96 rfl (tgt := 31) (nx := 21) rfl rfl (fun c8 => ?_) (fun c8 => ?_)
    · refine B_aloadn rfl my_96 rfl ?_
      refine B_iloadn rfl my_96 rfl ?_
      refine B_iloadn rfl my_96 rfl ?_
      refine B_cV hE.1 rfl (wc_0 hT) cw_96_62 (as := [wi q, wi c]) (rest := []) rfl (Nat.le_of_ble_eq_true rfl) (g_valueIn hE hT hS (by omega) (by omega) hc1 hc2) (fun vo s9 hq => ?_)
      obtain ⟨rfl, rfl⟩ := hq
      show Bt E 96 37 [wr 2, wi q, wi c, wr T] [wi (vi σ T q c)] σ _
      refine B_top (fun r9 => ?_)
      refine B_iret rfl my_96 rfl ?_
      exact ⟨rfl, rfl⟩
    · exfalso
      omega
theorem k_find {E : mE} {σ : wSt} {T : Nat} (hE : wE E) (hW : NWd σ T) {c : Int} (hc1 : 0 ≤ c) (hc2 : c < min (gv σ (T + 1) 12) 20) {v : Int} : Ev E 97 [wr 2, wi c, wi v] σ (fun x => FdQ σ T c (gv σ T 11) v x) := by
  have hT : Tb T := hW.tb
  have hS := hW.2.2.2.2.1
  have hI := hS.hI
  refine Fn.of (nL := 4) ?_
  show Bt E 97 0 [wr 2, wi c, wi v, wx] [] σ _
  refine B_rng 1 rfl (fun ha1 => ?_)
  refine B_rng 2 rfl (fun ha2 => ?_)
  refine B_aloadn rfl my_97 rfl ?_
  refine B_cV hE.1 rfl rfl cw_97_108 (as := []) (rest := []) rfl (Nat.le_of_ble_eq_true rfl) (g_tableNow1 hE hW) (fun vo s9 hq => ?_)
  obtain ⟨rfl, rfl⟩ := hq
  show Bt E 97 4 [wr 2, wi c, wi v, wx] [wr T] σ _
  refine B_astoren rfl my_97 (by decide) rfl (show _ = [wr 2, wi c, wi v, wr T] from rfl) ?_
  refine B_aloadn rfl my_97 rfl ?_
  refine B_iloadn rfl my_97 rfl ?_
  refine B_cV hE.1 rfl (wc_0 hT) cw_97_54 (as := [wi c]) (rest := []) rfl (Nat.le_of_ble_eq_true rfl) (g_hasColumn hE hT hS) (fun vo s9 hq => ?_)
  obtain ⟨x1, rfl, hz2, rfl⟩ := hq
  show Bt E 97 10 [wr 2, wi c, wi v, wr T] [wi x1] σ _
  refine B_top (fun r3 => ?_)
  refine B_if_ne rfl my_97 rfl (tgt := 23) (nx := 13) rfl rfl (fun c4 => ?_) (fun c4 => ?_)
  · refine B_aloadn rfl my_97 rfl ?_
    refine B_iloadn rfl my_97 rfl ?_
    refine B_iloadn rfl my_97 rfl ?_
    refine B_cV hE.1 rfl (wc_0 hT) cw_97_67 (as := [wi c, wi v]) (rest := []) rfl (Nat.le_of_ble_eq_true rfl) (g_placeOf hE hT hS hc1 hc2) (fun vo s9 hq => ?_)
    obtain ⟨x5, rfl, hz6, rfl⟩ := hq
    show Bt E 97 29 [wr 2, wi c, wi v, wr T] [wi x5] σ _
    refine B_top (fun r7 => ?_)
    refine B_iret rfl my_97 rfl ?_
    exact ⟨_, rfl, (by assumption), rfl⟩
  · exfalso
    omega
theorem g_settledWith1 {E : mE} {σ : wSt} {T : Nat} (hE : wE E) (hW : NWd σ T) : Gv E 109 [wr 2, wi (pn σ)] σ (wr T) := by
  have hT : Tb T := hW.tb
  have hS := hW.2.2.2.2.1
  have hI := hS.hI
  have hp := pn_rng hW.2.2.1.2.1 hW.2.2.1.2.2
  refine Fn.of (nL := 3) ?_
  show Bt E 109 0 [wr 2, wi (pn σ), wx] [] σ _
  refine B_rng 1 rfl (fun ha1 => ?_)
  refine B_aloadn rfl my_109 rfl ?_
  refine B_cV hE.1 rfl rfl cw_109_111 (as := []) (rest := []) rfl (Nat.le_of_ble_eq_true rfl) (g_readText1 hE hW.1.1 hW.1.2) (fun vo s9 hq => ?_)
  obtain ⟨rfl, rfl⟩ := hq
  show Bt E 109 4 [wr 2, wi (pn σ), wx] [] σ _
  refine B_aloadn rfl my_109 rfl ?_
  refine B_iloadn rfl my_109 rfl ?_
  refine B_cV hE.1 rfl rfl cw_109_110 (as := [wi (pn σ)]) (rest := []) rfl (Nat.le_of_ble_eq_true rfl) (g_tableWith hE (by omega) (by omega)) (fun vo s9 hq => ?_)
  obtain ⟨rfl, rfl⟩ := hq
  rw [show tof (pn σ) = T from hW.2.2.2.1.symm]
  show Bt E 109 9 [wr 2, wi (pn σ), wx] [wr T] σ _
  refine B_astoren rfl my_109 (by decide) rfl (show _ = [wr 2, wi (pn σ), wr T] from rfl) ?_
  refine B_aloadn rfl my_109 rfl ?_
  refine B_aloadn rfl my_109 rfl ?_
  refine B_ref hE.1 rfl my_109 rfl (r := 6) rfl ?_
  refine B_cV hE.1 rfl (wc_0 hT) cw_109_40 (as := [wr 6]) (rest := []) rfl (Nat.le_of_ble_eq_true rfl) (g_settle1 hE hT hS.2.1.1.2.2 hS.2.1.2.1) (fun vo s9 hq => ?_)
  obtain ⟨rfl, rfl⟩ := hq
  show Bt E 109 18 [wr 2, wi (pn σ), wr T] [] σ _
  refine B_aloadn rfl my_109 rfl ?_
  refine B_aret rfl my_109 rfl ?_
  exact ⟨rfl, rfl⟩
theorem k_keptWith {E : mE} {σ : wSt} {T : Nat} (hE : wE E) (hW : NWd σ T) : Gv E 98 [wr 2, wi (pn σ)] σ (wi (gv σ T 11)) := by
  have hT : Tb T := hW.tb
  have hS := hW.2.2.2.2.1
  have hI := hS.hI
  have hp := pn_rng hW.2.2.1.2.1 hW.2.2.1.2.2
  refine Fn.of (nL := 2) ?_
  show Bt E 98 0 [wr 2, wi (pn σ)] [] σ _
  refine B_rng 1 rfl (fun ha1 => ?_)
  refine B_iloadn rfl my_98 rfl ?_
  refine B_cS rfl cw_98_106_0 (as := [wi (pn σ)]) (rest := []) rfl (Nat.le_of_ble_eq_true rfl) (g_isParter hE) (fun vo s9 hq => ?_)
  obtain ⟨x1, rfl, hz2, rfl⟩ := hq
  show Bt E 98 4 [wr 2, wi (pn σ)] [wi x1] σ _
  refine B_top (fun r3 => ?_)
  refine B_if_ne rfl my_98 rfl (tgt := 17) (nx := 7) rfl rfl (fun c4 => ?_) (fun c4 => ?_)
  · refine B_aloadn rfl my_98 rfl ?_
    refine B_iloadn rfl my_98 rfl ?_
    refine B_cV hE.1 rfl rfl cw_98_109 (as := [wi (pn σ)]) (rest := []) rfl (Nat.le_of_ble_eq_true rfl) (g_settledWith1 hE hW) (fun vo s9 hq => ?_)
    obtain ⟨rfl, rfl⟩ := hq
    show Bt E 98 22 [wr 2, wi (pn σ)] [wr T] σ _
    refine B_int hE.1 rfl my_98 rfl (wn_0_11 hT) hS.2.2.2.2.2.1 (fun r5 => ?_)
    refine B_iret rfl my_98 rfl ?_
    exact ⟨rfl, rfl⟩
  · exfalso
    omega
theorem k_kindWith {E : mE} {σ : wSt} {T : Nat} (hE : wE E) (hW : NWd σ T) {c : Int} (hc1 : 0 ≤ c) (hc2 : c < min (gv σ (T + 1) 12) 20) (hN : NTy T σ) : Ev E 99 [wr 2, wi c, wi 1] σ (fun x => (x = 0 ↔ fln σ T c (gv σ T 10) (gv σ (T + 1) 9 - gv σ T 10).toNat = 0)) := by
  have hT : Tb T := hW.tb
  have hS := hW.2.2.2.2.1
  have hI := hS.hI
  have hd := hS.2.1.2.2
  refine Fn.post (Q := fun vo t => ∃ x, vo = some (wi x) ∧ (fun x => (x = 0 ↔ fln σ T c (gv σ T 10) (gv σ (T + 1) 9 - gv σ T 10).toNat = 0)) x ∧ Off (fun a => a = T + 34) σ t) ?_ (fun vo s hq => ⟨σ, nty_sub hN hq.choose_spec.2.2, _, hq.choose_spec.1, hq.choose_spec.2.1, rfl⟩)
  refine Fn.of (nL := 4) ?_
  show Bt E 99 0 [wr 2, wi c, wi 1, wx] [] σ _
  refine B_rng 1 rfl (fun ha1 => ?_)
  refine B_rng 2 rfl (fun ha2 => ?_)
  refine B_aloadn rfl my_99 rfl ?_
  refine B_cV hE.1 rfl rfl cw_99_108 (as := []) (rest := []) rfl (Nat.le_of_ble_eq_true rfl) (g_tableNow1 hE hW) (fun vo s9 hq => ?_)
  obtain ⟨rfl, rfl⟩ := hq
  show Bt E 99 4 [wr 2, wi c, wi 1, wx] [wr T] σ _
  refine B_astoren rfl my_99 (by decide) rfl (show _ = [wr 2, wi c, wi 1, wr T] from rfl) ?_
  refine B_aloadn rfl my_99 rfl ?_
  refine B_iloadn rfl my_99 rfl ?_
  refine B_cV hE.1 rfl (wc_0 hT) cw_99_54 (as := [wi c]) (rest := []) rfl (Nat.le_of_ble_eq_true rfl) (g_hasColumn hE hT hS) (fun vo s9 hq => ?_)
  obtain ⟨x1, rfl, hz2, rfl⟩ := hq
  show Bt E 99 10 [wr 2, wi c, wi 1, wr T] [wi x1] σ _
  refine B_top (fun r3 => ?_)
  refine B_if_ne rfl my_99 rfl (tgt := 23) (nx := 13) rfl rfl (fun c4 => ?_) (fun c4 => ?_)
  · refine B_iloadn rfl my_99 rfl ?_
    refine B_cS rfl cw_99_107_0 (as := [wi 1]) (rest := []) rfl (Nat.le_of_ble_eq_true rfl) (g_isShare hE) (fun vo s9 hq => ?_)
    obtain ⟨x5, rfl, hz6, rfl⟩ := hq
    show Bt E 99 27 [wr 2, wi c, wi 1, wr T] [wi x5] σ _
    refine B_top (fun r7 => ?_)
    refine B_if_ne rfl my_99 rfl (tgt := 40) (nx := 30) rfl rfl (fun c8 => ?_) (fun c8 => ?_)
    · refine B_aloadn rfl my_99 rfl ?_
      refine B_iloadn rfl my_99 rfl ?_
      refine B_aloadn rfl my_99 rfl ?_
      refine B_int hE.1 rfl my_99 rfl (wn_0_10 hT) hS.2.1.1.2.1 (fun r9 => ?_)
      refine B_cV hE.1 rfl (wc_0 hT) cw_99_44 (as := [wi c, wi (gv σ T 10)]) (rest := []) rfl (Nat.le_of_ble_eq_true rfl) (g_tallyKinds hE hT hS.hR hS.hI hS.kk hS.sk (by omega) (by omega)) (fun vo s1 hq => ?_)
      obtain ⟨rfl, ty1⟩ := hq
      have hy1 := ty_yk hS.hI (by omega) ty1
      show Bt E 99 49 [wr 2, wi c, wi 1, wr T] [] s1 _
      refine B_aloadn rfl my_99 rfl ?_
      refine B_iloadn rfl my_99 rfl ?_
      refine B_cV hE.1 rfl (wc_0 hT) cw_99_46 (as := [wi 1]) (rest := []) rfl (Nat.le_of_ble_eq_true rfl) (g_talliedKind hE hT hy1) (fun vo s9 hq => ?_)
      obtain ⟨x10, rfl, hz11, rfl⟩ := hq
      show Bt E 99 54 [wr 2, wi c, wi 1, wr T] [wi x10] s1 _
      refine B_top (fun r12 => ?_)
      refine B_iret rfl my_99 rfl ?_
      refine ⟨_, rfl, ?_, ty1.1⟩
      rw [← fl_ty hS ty1]
      omega
    · exfalso
      omega
  · exfalso
    omega
theorem k_score0 {E : mE} {σ : wSt} (hE : wE E) (hW : (kn σ 2 6 ∧ gv σ 2 6 = 1) ∧ (∀ U, Tb U → KRd U σ ∧ RI U σ)) {n : Int} (h1 : 0 ≤ n) (h2 : n ≤ 3) : Gv E 85 [wr 2, wi n] σ (wi (pts σ (tof n))) := by
  refine Fn.of (nL := 2) ?_
  show Bt E 85 0 [wr 2, wi n] [] σ _
  refine B_rng 1 rfl (fun ha1 => ?_)
  refine B_iloadn rfl my_85 rfl ?_
  refine B_cS rfl cw_85_106_0 (as := [wi n]) (rest := []) rfl (Nat.le_of_ble_eq_true rfl) (g_isParter hE) (fun vo s9 hq => ?_)
  obtain ⟨x1, rfl, hz2, rfl⟩ := hq
  show Bt E 85 4 [wr 2, wi n] [wi x1] σ _
  refine B_top (fun r3 => ?_)
  refine B_if_ne rfl my_85 rfl (tgt := 17) (nx := 7) rfl rfl (fun c4 => ?_) (fun c4 => ?_)
  · refine B_aloadn rfl my_85 rfl ?_
    refine B_cV hE.1 rfl rfl cw_85_111 (as := []) (rest := []) rfl (Nat.le_of_ble_eq_true rfl) (g_readText1 hE hW.1.1 hW.1.2) (fun vo s9 hq => ?_)
    obtain ⟨rfl, rfl⟩ := hq
    show Bt E 85 21 [wr 2, wi n] [] σ _
    refine B_aloadn rfl my_85 rfl ?_
    refine B_iloadn rfl my_85 rfl ?_
    refine B_cV hE.1 rfl rfl cw_85_110 (as := [wi n]) (rest := []) rfl (Nat.le_of_ble_eq_true rfl) (g_tableWith hE h1 h2) (fun vo s9 hq => ?_)
    obtain ⟨rfl, rfl⟩ := hq
    obtain ⟨U, hU⟩ : ∃ U, U = tof n := ⟨_, rfl⟩
    rw [← hU]
    have hUt : Tb U := by rw [hU]; exact tof_tb _
    show Bt E 85 26 [wr 2, wi n] [wr U] σ _
    refine B_ref hE.1 rfl my_85 rfl (r := (U + 1)) (wf_0_0 hUt) ?_
    refine B_cV hE.1 rfl (wc_1 hUt) cw_85_34 (as := []) (rest := []) rfl (Nat.le_of_ble_eq_true rfl) (g_points hE hUt (hW.2 U hUt).1 (hW.2 U hUt).2) (fun vo s9 hq => ?_)
    obtain ⟨rfl, rfl⟩ := hq
    show Bt E 85 32 [wr 2, wi n] [wi (pts σ U)] σ _
    refine B_top (fun r5 => ?_)
    refine B_iret rfl my_85 rfl ?_
    subst hU
    exact ⟨rfl, rfl⟩
  · exfalso
    omega
