/-! ===== the law: columns, faults ===== -/
theorem cw_116_90 : wcV 116 0 90 6 2 2 = true := by decide +kernel
theorem cw_116_94 : wcV 116 0 94 6 2 2 = true := by decide +kernel
theorem cw_116_99 : wcV 116 0 99 6 2 2 = true := by decide +kernel
theorem col_f {σ : wSt} {T : Nat} {c : Int} (hS : SIt T σ) (hc1 : 0 ≤ c) (hc2 : c < min (gv σ (T + 1) 12) 20) : (0 ≤ fln σ T c (gv σ T 10) (gv σ (T + 1) 9 - gv σ T 10).toNat ∧ fln σ T c (gv σ T 10) (gv σ (T + 1) 9 - gv σ T 10).toNat ≤ 60) ∧ (0 ≤ rpn σ T c (gv σ T 10) (gv σ (T + 1) 9 - gv σ T 10).toNat ∧ rpn σ T c (gv σ T 10) (gv σ (T + 1) 9 - gv σ T 10).toNat ≤ fln σ T c (gv σ T 10) (gv σ (T + 1) 9 - gv σ T 10).toNat ∧ (0 < fln σ T c (gv σ T 10) (gv σ (T + 1) 9 - gv σ T 10).toNat → rpn σ T c (gv σ T 10) (gv σ (T + 1) 9 - gv σ T 10).toNat < fln σ T c (gv σ T 10) (gv σ (T + 1) 9 - gv σ T 10).toNat)) ∧ (0 ≤ ctn σ T c 0 (gv σ T 10) (gv σ (T + 1) 9 - gv σ T 10).toNat ∧ ctn σ T c 0 (gv σ T 10) (gv σ (T + 1) 9 - gv σ T 10).toNat ≤ 60) ∧ ctn σ T c 0 (gv σ T 10) (gv σ (T + 1) 9 - gv σ T 10).toNat + fln σ T c (gv σ T 10) (gv σ (T + 1) 9 - gv σ T 10).toNat = nce σ T c (gv σ T 10) (gv σ (T + 1) 9 - gv σ T 10).toNat := by
  have h0 := hS.hI.1
  have hd := hS.2.1.2.2
  have hr := rp_ok hS hc1 hc2
  have hn := nce_rng (σ := σ) (T := T) (c := c) (f := gv σ T 10) (gv σ (T + 1) 9 - gv σ T 10).toNat
  have hk := ctn_le (σ := σ) (T := T) (c := c) (k := 0) (f := gv σ T 10) (gv σ (T + 1) 9 - gv σ T 10).toNat
  have hs := (ctn_sum (c := c) (f := gv σ T 10) hS.hI hS.sk (gv σ (T + 1) 9 - gv σ T 10).toNat).2
  have hq := (fln_rng (σ := σ) (T := T) (c := c) (f := gv σ T 10) (gv σ (T + 1) 9 - gv σ T 10).toNat).1
  exact ⟨⟨hq, hr.2.2.2⟩, ⟨hr.1, hr.2.1, hr.2.2.1⟩, ⟨hk.1, by omega⟩, hs⟩
set_option maxRecDepth 100000 in
theorem t_col {E : mE} {σ : wSt} {T : Nat} (hE : wE E) (hW : NWd σ T) (hN : NTy T σ) {P : Option wV → wSt → Prop} {d a m t f c : Int} (hc1 : 0 ≤ c) (hc2 : c < min (gv σ (T + 1) 12) 20) (ht : 0 ≤ t ∧ t ≤ 1200) (hf : 0 ≤ f ∧ 0 ≤ icn σ T c (gv σ (T + 16) 3).toNat ∧ f + icn σ T c (gv σ (T + 16) 3).toNat < 2147483648) (kont : Bt E 116 721 [wr 0, wr 2, wx, wx, wl d, wx, wi (gv σ (T + 1) 9), wi (min (gv σ (T + 1) 12) 20), wi (max 0 (gv σ (T + 1) 9 - gv σ T 10)), wi (gv σ T 11), wi a, wi m, wi (t + (fln σ T c (gv σ T 10) (gv σ (T + 1) 9 - gv σ T 10).toNat + ctn σ T c 0 (gv σ T 10) (gv σ (T + 1) 9 - gv σ T 10).toNat)), wi (f + icn σ T c (gv σ (T + 16) 3).toNat), wi (c + 1), wx, wx, wx, wx, wx, wx] [] σ P) : Bt E 116 728 [wr 0, wr 2, wx, wx, wl d, wx, wi (gv σ (T + 1) 9), wi (min (gv σ (T + 1) 12) 20), wi (max 0 (gv σ (T + 1) 9 - gv σ T 10)), wi (gv σ T 11), wi a, wi m, wi t, wi f, wi c, wx, wx, wx, wx, wx, wx] [] σ P := by
  have hT : Tb T := hW.tb
  have hS := hW.2.2.2.2.1
  have hu : min (gv σ (T + 1) 12) 20 ≤ 20 := by omega
  have cf := col_f hS hc1 hc2
  refine B_iload rfl my_116 rfl ?_
  refine B_aloadn rfl my_116 rfl ?_
  refine B_iload rfl my_116 rfl ?_
  refine B_iconst rfl my_116 (by decide) ?_
  refine B_cV hE.1 rfl rfl cw_116_90 (as := [wi c, wi 1]) (rest := [wi t]) rfl (Nat.le_of_ble_eq_true rfl) (k_column1 hE hW (by omega) (by omega) hN) (fun vo s9 hq => ?_)
  obtain ⟨rfl, rfl⟩ := hq
  show Bt E 116 737 [wr 0, wr 2, wx, wx, wl d, wx, wi (gv σ (T + 1) 9), wi (min (gv σ (T + 1) 12) 20), wi (max 0 (gv σ (T + 1) 9 - gv σ T 10)), wi (gv σ T 11), wi a, wi m, wi t, wi f, wi c, wx, wx, wx, wx, wx, wx] [wi (fln σ T c (gv σ T 10) (gv σ (T + 1) 9 - gv σ T 10).toNat), wi t] σ _
  refine B_top (fun r1 => ?_)
  refine B_aloadn rfl my_116 rfl ?_
  refine B_iload rfl my_116 rfl ?_
  refine B_iconst rfl my_116 (by decide) ?_
  refine B_cV hE.1 rfl rfl cw_116_90 (as := [wi c, wi 2]) (rest := [wi (fln σ T c (gv σ T 10) (gv σ (T + 1) 9 - gv σ T 10).toNat), wi t]) rfl (Nat.le_of_ble_eq_true rfl) (k_column2 hE hW (by omega) (by omega) hN) (fun vo s9 hq => ?_)
  obtain ⟨rfl, rfl⟩ := hq
  show Bt E 116 744 [wr 0, wr 2, wx, wx, wl d, wx, wi (gv σ (T + 1) 9), wi (min (gv σ (T + 1) 12) 20), wi (max 0 (gv σ (T + 1) 9 - gv σ T 10)), wi (gv σ T 11), wi a, wi m, wi t, wi f, wi c, wx, wx, wx, wx, wx, wx] [wi (ctn σ T c 0 (gv σ T 10) (gv σ (T + 1) 9 - gv σ T 10).toNat), wi (fln σ T c (gv σ T 10) (gv σ (T + 1) 9 - gv σ T 10).toNat), wi t] σ _
  refine B_top (fun r2 => ?_)
  refine B_iadd rfl my_116 (by omega) (by omega) ?_
  refine B_iadd rfl my_116 (by omega) (by omega) ?_
  refine B_istore rfl my_116 (by decide) rfl (show _ = [wr 0, wr 2, wx, wx, wl d, wx, wi (gv σ (T + 1) 9), wi (min (gv σ (T + 1) 12) 20), wi (max 0 (gv σ (T + 1) 9 - gv σ T 10)), wi (gv σ T 11), wi a, wi m, wi (t + ((fln σ T c (gv σ T 10) (gv σ (T + 1) 9 - gv σ T 10).toNat) + (ctn σ T c 0 (gv σ T 10) (gv σ (T + 1) 9 - gv σ T 10).toNat))), wi f, wi c, wx, wx, wx, wx, wx, wx] from rfl) ?_
  refine B_iload rfl my_116 rfl ?_
  refine B_aloadn rfl my_116 rfl ?_
  refine B_iload rfl my_116 rfl ?_
  refine B_iconst rfl my_116 (by decide) ?_
  refine B_cV hE.1 rfl rfl cw_116_90 (as := [wi c, wi 3]) (rest := [wi f]) rfl (Nat.le_of_ble_eq_true rfl) (k_column3 hE hW (by omega) (by omega) hN) (fun vo s9 hq => ?_)
  obtain ⟨rfl, rfl⟩ := hq
  show Bt E 116 757 [wr 0, wr 2, wx, wx, wl d, wx, wi (gv σ (T + 1) 9), wi (min (gv σ (T + 1) 12) 20), wi (max 0 (gv σ (T + 1) 9 - gv σ T 10)), wi (gv σ T 11), wi a, wi m, wi (t + ((fln σ T c (gv σ T 10) (gv σ (T + 1) 9 - gv σ T 10).toNat) + (ctn σ T c 0 (gv σ T 10) (gv σ (T + 1) 9 - gv σ T 10).toNat))), wi f, wi c, wx, wx, wx, wx, wx, wx] [wi (icn σ T c (gv σ (T + 16) 3).toNat), wi f] σ _
  refine B_top (fun r3 => ?_)
  refine B_iadd rfl my_116 (by omega) (by omega) ?_
  refine B_istore rfl my_116 (by decide) rfl (show _ = [wr 0, wr 2, wx, wx, wl d, wx, wi (gv σ (T + 1) 9), wi (min (gv σ (T + 1) 12) 20), wi (max 0 (gv σ (T + 1) 9 - gv σ T 10)), wi (gv σ T 11), wi a, wi m, wi (t + ((fln σ T c (gv σ T 10) (gv σ (T + 1) 9 - gv σ T 10).toNat) + (ctn σ T c 0 (gv σ T 10) (gv σ (T + 1) 9 - gv σ T 10).toNat))), wi (f + (icn σ T c (gv σ (T + 16) 3).toNat)), wi c, wx, wx, wx, wx, wx, wx] from rfl) ?_
  refine B_aloadn rfl my_116 rfl ?_
  refine B_iload rfl my_116 rfl ?_
  refine B_iconst rfl my_116 (by decide) ?_
  refine B_cV hE.1 rfl rfl cw_116_90 (as := [wi c, wi 4]) (rest := []) rfl (Nat.le_of_ble_eq_true rfl) (k_column4 hE hW (by omega) (by omega) hN) (fun vo s9 hq => ?_)
  obtain ⟨rfl, rfl⟩ := hq
  show Bt E 116 767 [wr 0, wr 2, wx, wx, wl d, wx, wi (gv σ (T + 1) 9), wi (min (gv σ (T + 1) 12) 20), wi (max 0 (gv σ (T + 1) 9 - gv σ T 10)), wi (gv σ T 11), wi a, wi m, wi (t + ((fln σ T c (gv σ T 10) (gv σ (T + 1) 9 - gv σ T 10).toNat) + (ctn σ T c 0 (gv σ T 10) (gv σ (T + 1) 9 - gv σ T 10).toNat))), wi (f + (icn σ T c (gv σ (T + 16) 3).toNat)), wi c, wx, wx, wx, wx, wx, wx] [wi (fln σ T c (gv σ T 10) (gv σ (T + 1) 9 - gv σ T 10).toNat - rpn σ T c (gv σ T 10) (gv σ (T + 1) 9 - gv σ T 10).toNat)] σ _
  refine B_top (fun r4 => ?_)
  refine B_aloadn rfl my_116 rfl ?_
  refine B_iload rfl my_116 rfl ?_
  refine B_iconst rfl my_116 (by decide) ?_
  refine B_cV hE.1 rfl rfl cw_116_90 (as := [wi c, wi 1]) (rest := [wi (fln σ T c (gv σ T 10) (gv σ (T + 1) 9 - gv σ T 10).toNat - rpn σ T c (gv σ T 10) (gv σ (T + 1) 9 - gv σ T 10).toNat)]) rfl (Nat.le_of_ble_eq_true rfl) (k_column1 hE hW (by omega) (by omega) hN) (fun vo s9 hq => ?_)
  obtain ⟨rfl, rfl⟩ := hq
  show Bt E 116 774 [wr 0, wr 2, wx, wx, wl d, wx, wi (gv σ (T + 1) 9), wi (min (gv σ (T + 1) 12) 20), wi (max 0 (gv σ (T + 1) 9 - gv σ T 10)), wi (gv σ T 11), wi a, wi m, wi (t + ((fln σ T c (gv σ T 10) (gv σ (T + 1) 9 - gv σ T 10).toNat) + (ctn σ T c 0 (gv σ T 10) (gv σ (T + 1) 9 - gv σ T 10).toNat))), wi (f + (icn σ T c (gv σ (T + 16) 3).toNat)), wi c, wx, wx, wx, wx, wx, wx] [wi (fln σ T c (gv σ T 10) (gv σ (T + 1) 9 - gv σ T 10).toNat), wi (fln σ T c (gv σ T 10) (gv σ (T + 1) 9 - gv σ T 10).toNat - rpn σ T c (gv σ T 10) (gv σ (T + 1) 9 - gv σ T 10).toNat)] σ _
  refine B_top (fun r5 => ?_)
  refine B_ic_gt rfl my_116 rfl (tgt := 831) (nx := 777) rfl rfl (fun c6 => ?_) (fun c6 => ?_)
  · refine B_iconst rfl my_116 (by decide) ?_
    exfalso
    omega
  · refine B_aloadn rfl my_116 rfl ?_
    refine B_iload rfl my_116 rfl ?_
    refine B_iconst rfl my_116 (by decide) ?_
    refine B_cV hE.1 rfl rfl cw_116_90 (as := [wi c, wi 1]) (rest := []) rfl (Nat.le_of_ble_eq_true rfl) (k_column1 hE hW (by omega) (by omega) hN) (fun vo s9 hq => ?_)
    obtain ⟨rfl, rfl⟩ := hq
    show Bt E 116 784 [wr 0, wr 2, wx, wx, wl d, wx, wi (gv σ (T + 1) 9), wi (min (gv σ (T + 1) 12) 20), wi (max 0 (gv σ (T + 1) 9 - gv σ T 10)), wi (gv σ T 11), wi a, wi m, wi (t + ((fln σ T c (gv σ T 10) (gv σ (T + 1) 9 - gv σ T 10).toNat) + (ctn σ T c 0 (gv σ T 10) (gv σ (T + 1) 9 - gv σ T 10).toNat))), wi (f + (icn σ T c (gv σ (T + 16) 3).toNat)), wi c, wx, wx, wx, wx, wx, wx] [wi (fln σ T c (gv σ T 10) (gv σ (T + 1) 9 - gv σ T 10).toNat)] σ _
    refine B_top (fun r7 => ?_)
    refine B_if_le rfl my_116 rfl (tgt := 798) (nx := 787) rfl rfl (fun c8 => ?_) (fun c8 => ?_)
    · refine B_aloadn rfl my_116 rfl ?_
      refine B_iload rfl my_116 rfl ?_
      refine B_iconst rfl my_116 (by decide) ?_
      refine B_cV hE.1 rfl rfl cw_116_99 (as := [wi c, wi 1]) (rest := []) rfl (Nat.le_of_ble_eq_true rfl) (k_kindWith hE hW (by omega) (by omega) hN) (fun vo s9 hq => ?_)
      obtain ⟨x9, rfl, hz10, rfl⟩ := hq
      show Bt E 116 805 [wr 0, wr 2, wx, wx, wl d, wx, wi (gv σ (T + 1) 9), wi (min (gv σ (T + 1) 12) 20), wi (max 0 (gv σ (T + 1) 9 - gv σ T 10)), wi (gv σ T 11), wi a, wi m, wi (t + ((fln σ T c (gv σ T 10) (gv σ (T + 1) 9 - gv σ T 10).toNat) + (ctn σ T c 0 (gv σ T 10) (gv σ (T + 1) 9 - gv σ T 10).toNat))), wi (f + (icn σ T c (gv σ (T + 16) 3).toNat)), wi c, wx, wx, wx, wx, wx, wx] [wi x9] σ _
      refine B_top (fun r11 => ?_)
      refine B_if_ne rfl my_116 rfl (tgt := 812) (nx := 808) rfl rfl (fun c12 => ?_) (fun c12 => ?_)
      · refine B_iconst rfl my_116 (by decide) ?_
        refine B_aloadn rfl my_116 rfl ?_
        refine B_iload rfl my_116 rfl ?_
        refine B_iconst rfl my_116 (by decide) ?_
        refine B_cV hE.1 rfl rfl cw_116_90 (as := [wi c, wi 1]) (rest := [wi 0]) rfl (Nat.le_of_ble_eq_true rfl) (k_column1 hE hW (by omega) (by omega) hN) (fun vo s9 hq => ?_)
        obtain ⟨rfl, rfl⟩ := hq
        show Bt E 116 820 [wr 0, wr 2, wx, wx, wl d, wx, wi (gv σ (T + 1) 9), wi (min (gv σ (T + 1) 12) 20), wi (max 0 (gv σ (T + 1) 9 - gv σ T 10)), wi (gv σ T 11), wi a, wi m, wi (t + ((fln σ T c (gv σ T 10) (gv σ (T + 1) 9 - gv σ T 10).toNat) + (ctn σ T c 0 (gv σ T 10) (gv σ (T + 1) 9 - gv σ T 10).toNat))), wi (f + (icn σ T c (gv σ (T + 16) 3).toNat)), wi c, wx, wx, wx, wx, wx, wx] [wi (fln σ T c (gv σ T 10) (gv σ (T + 1) 9 - gv σ T 10).toNat), wi 0] σ _
        refine B_top (fun r13 => ?_)
        refine B_if_ne rfl my_116 rfl (tgt := 827) (nx := 823) rfl rfl (fun c14 => ?_) (fun c14 => ?_)
        · refine B_iconst rfl my_116 (by decide) ?_
          refine B_ic_eq rfl my_116 rfl (tgt := 833) (nx := 831) rfl rfl (fun _ => ?_) (fun c9 => absurd c9 (by decide))
          show Bt E 116 833 [wr 0, wr 2, wx, wx, wl d, wx, wi (gv σ (T + 1) 9), wi (min (gv σ (T + 1) 12) 20), wi (max 0 (gv σ (T + 1) 9 - gv σ T 10)), wi (gv σ T 11), wi a, wi m, wi (t + ((fln σ T c (gv σ T 10) (gv σ (T + 1) 9 - gv σ T 10).toNat) + (ctn σ T c 0 (gv σ T 10) (gv σ (T + 1) 9 - gv σ T 10).toNat))), wi (f + (icn σ T c (gv σ (T + 16) 3).toNat)), wi c, wx, wx, wx, wx, wx, wx] [] σ _
          refine B_iinc rfl my_116 (by decide) rfl rfl rfl (by omega) (by omega) (show _ = [wr 0, wr 2, wx, wx, wl d, wx, wi (gv σ (T + 1) 9), wi (min (gv σ (T + 1) 12) 20), wi (max 0 (gv σ (T + 1) 9 - gv σ T 10)), wi (gv σ T 11), wi a, wi m, wi (t + ((fln σ T c (gv σ T 10) (gv σ (T + 1) 9 - gv σ T 10).toNat) + (ctn σ T c 0 (gv σ T 10) (gv σ (T + 1) 9 - gv σ T 10).toNat))), wi (f + (icn σ T c (gv σ (T + 16) 3).toNat)), wi (c + 1), wx, wx, wx, wx, wx, wx] from rfl) ?_
          refine B_goto rfl my_116 rfl (tgt := 721) rfl ?_
          exact kont
        · refine B_iconst rfl my_116 (by decide) ?_
          refine B_goto rfl my_116 rfl (tgt := 828) rfl ?_
          refine B_ic_eq rfl my_116 rfl (tgt := 833) (nx := 831) rfl rfl (fun c9 => absurd c9 (by decide)) (fun _ => ?_)
          show Bt E 116 831 [wr 0, wr 2, wx, wx, wl d, wx, wi (gv σ (T + 1) 9), wi (min (gv σ (T + 1) 12) 20), wi (max 0 (gv σ (T + 1) 9 - gv σ T 10)), wi (gv σ T 11), wi a, wi m, wi (t + ((fln σ T c (gv σ T 10) (gv σ (T + 1) 9 - gv σ T 10).toNat) + (ctn σ T c 0 (gv σ T 10) (gv σ (T + 1) 9 - gv σ T 10).toNat))), wi (f + (icn σ T c (gv σ (T + 16) 3).toNat)), wi c, wx, wx, wx, wx, wx, wx] [] σ _
          refine B_iconst rfl my_116 (by decide) ?_
          exfalso
          omega
      · refine B_iconst rfl my_116 (by decide) ?_
        refine B_goto rfl my_116 rfl (tgt := 813) rfl ?_
        refine B_aloadn rfl my_116 rfl ?_
        refine B_iload rfl my_116 rfl ?_
        refine B_iconst rfl my_116 (by decide) ?_
        refine B_cV hE.1 rfl rfl cw_116_90 (as := [wi c, wi 1]) (rest := [wi 1]) rfl (Nat.le_of_ble_eq_true rfl) (k_column1 hE hW (by omega) (by omega) hN) (fun vo s9 hq => ?_)
        obtain ⟨rfl, rfl⟩ := hq
        show Bt E 116 820 [wr 0, wr 2, wx, wx, wl d, wx, wi (gv σ (T + 1) 9), wi (min (gv σ (T + 1) 12) 20), wi (max 0 (gv σ (T + 1) 9 - gv σ T 10)), wi (gv σ T 11), wi a, wi m, wi (t + ((fln σ T c (gv σ T 10) (gv σ (T + 1) 9 - gv σ T 10).toNat) + (ctn σ T c 0 (gv σ T 10) (gv σ (T + 1) 9 - gv σ T 10).toNat))), wi (f + (icn σ T c (gv σ (T + 16) 3).toNat)), wi c, wx, wx, wx, wx, wx, wx] [wi (fln σ T c (gv σ T 10) (gv σ (T + 1) 9 - gv σ T 10).toNat), wi 1] σ _
        refine B_top (fun r17 => ?_)
        refine B_if_ne rfl my_116 rfl (tgt := 827) (nx := 823) rfl rfl (fun c18 => ?_) (fun c18 => ?_)
        · refine B_iconst rfl my_116 (by decide) ?_
          refine B_ic_eq rfl my_116 rfl (tgt := 833) (nx := 831) rfl rfl (fun c9 => absurd c9 (by decide)) (fun _ => ?_)
          show Bt E 116 831 [wr 0, wr 2, wx, wx, wl d, wx, wi (gv σ (T + 1) 9), wi (min (gv σ (T + 1) 12) 20), wi (max 0 (gv σ (T + 1) 9 - gv σ T 10)), wi (gv σ T 11), wi a, wi m, wi (t + ((fln σ T c (gv σ T 10) (gv σ (T + 1) 9 - gv σ T 10).toNat) + (ctn σ T c 0 (gv σ T 10) (gv σ (T + 1) 9 - gv σ T 10).toNat))), wi (f + (icn σ T c (gv σ (T + 16) 3).toNat)), wi c, wx, wx, wx, wx, wx, wx] [] σ _
          refine B_iconst rfl my_116 (by decide) ?_
          exfalso
          omega
        · refine B_iconst rfl my_116 (by decide) ?_
          refine B_goto rfl my_116 rfl (tgt := 828) rfl ?_
          refine B_ic_eq rfl my_116 rfl (tgt := 833) (nx := 831) rfl rfl (fun _ => ?_) (fun c9 => absurd c9 (by decide))
          show Bt E 116 833 [wr 0, wr 2, wx, wx, wl d, wx, wi (gv σ (T + 1) 9), wi (min (gv σ (T + 1) 12) 20), wi (max 0 (gv σ (T + 1) 9 - gv σ T 10)), wi (gv σ T 11), wi a, wi m, wi (t + ((fln σ T c (gv σ T 10) (gv σ (T + 1) 9 - gv σ T 10).toNat) + (ctn σ T c 0 (gv σ T 10) (gv σ (T + 1) 9 - gv σ T 10).toNat))), wi (f + (icn σ T c (gv σ (T + 16) 3).toNat)), wi c, wx, wx, wx, wx, wx, wx] [] σ _
          refine B_iinc rfl my_116 (by decide) rfl rfl rfl (by omega) (by omega) (show _ = [wr 0, wr 2, wx, wx, wl d, wx, wi (gv σ (T + 1) 9), wi (min (gv σ (T + 1) 12) 20), wi (max 0 (gv σ (T + 1) 9 - gv σ T 10)), wi (gv σ T 11), wi a, wi m, wi (t + ((fln σ T c (gv σ T 10) (gv σ (T + 1) 9 - gv σ T 10).toNat) + (ctn σ T c 0 (gv σ T 10) (gv σ (T + 1) 9 - gv σ T 10).toNat))), wi (f + (icn σ T c (gv σ (T + 16) 3).toNat)), wi (c + 1), wx, wx, wx, wx, wx, wx] from rfl) ?_
          refine B_goto rfl my_116 rfl (tgt := 721) rfl ?_
          exact kont
    · refine B_aloadn rfl my_116 rfl ?_
      refine B_iload rfl my_116 rfl ?_
      refine B_iconst rfl my_116 (by decide) ?_
      refine B_cV hE.1 rfl rfl cw_116_90 (as := [wi c, wi 4]) (rest := []) rfl (Nat.le_of_ble_eq_true rfl) (k_column4 hE hW (by omega) (by omega) hN) (fun vo s9 hq => ?_)
      obtain ⟨rfl, rfl⟩ := hq
      show Bt E 116 794 [wr 0, wr 2, wx, wx, wl d, wx, wi (gv σ (T + 1) 9), wi (min (gv σ (T + 1) 12) 20), wi (max 0 (gv σ (T + 1) 9 - gv σ T 10)), wi (gv σ T 11), wi a, wi m, wi (t + ((fln σ T c (gv σ T 10) (gv σ (T + 1) 9 - gv σ T 10).toNat) + (ctn σ T c 0 (gv σ T 10) (gv σ (T + 1) 9 - gv σ T 10).toNat))), wi (f + (icn σ T c (gv σ (T + 16) 3).toNat)), wi c, wx, wx, wx, wx, wx, wx] [wi (fln σ T c (gv σ T 10) (gv σ (T + 1) 9 - gv σ T 10).toNat - rpn σ T c (gv σ T 10) (gv σ (T + 1) 9 - gv σ T 10).toNat)] σ _
      refine B_top (fun r21 => ?_)
      refine B_iconst rfl my_116 (by decide) ?_
      refine B_ic_lt rfl my_116 rfl (tgt := 831) (nx := 798) rfl rfl (fun c22 => ?_) (fun c22 => ?_)
      · refine B_iconst rfl my_116 (by decide) ?_
        exfalso
        omega
      · refine B_aloadn rfl my_116 rfl ?_
        refine B_iload rfl my_116 rfl ?_
        refine B_iconst rfl my_116 (by decide) ?_
        refine B_cV hE.1 rfl rfl cw_116_99 (as := [wi c, wi 1]) (rest := []) rfl (Nat.le_of_ble_eq_true rfl) (k_kindWith hE hW (by omega) (by omega) hN) (fun vo s9 hq => ?_)
        obtain ⟨x23, rfl, hz24, rfl⟩ := hq
        show Bt E 116 805 [wr 0, wr 2, wx, wx, wl d, wx, wi (gv σ (T + 1) 9), wi (min (gv σ (T + 1) 12) 20), wi (max 0 (gv σ (T + 1) 9 - gv σ T 10)), wi (gv σ T 11), wi a, wi m, wi (t + ((fln σ T c (gv σ T 10) (gv σ (T + 1) 9 - gv σ T 10).toNat) + (ctn σ T c 0 (gv σ T 10) (gv σ (T + 1) 9 - gv σ T 10).toNat))), wi (f + (icn σ T c (gv σ (T + 16) 3).toNat)), wi c, wx, wx, wx, wx, wx, wx] [wi x23] σ _
        refine B_top (fun r25 => ?_)
        refine B_if_ne rfl my_116 rfl (tgt := 812) (nx := 808) rfl rfl (fun c26 => ?_) (fun c26 => ?_)
        · refine B_iconst rfl my_116 (by decide) ?_
          refine B_aloadn rfl my_116 rfl ?_
          refine B_iload rfl my_116 rfl ?_
          refine B_iconst rfl my_116 (by decide) ?_
          refine B_cV hE.1 rfl rfl cw_116_90 (as := [wi c, wi 1]) (rest := [wi 0]) rfl (Nat.le_of_ble_eq_true rfl) (k_column1 hE hW (by omega) (by omega) hN) (fun vo s9 hq => ?_)
          obtain ⟨rfl, rfl⟩ := hq
          show Bt E 116 820 [wr 0, wr 2, wx, wx, wl d, wx, wi (gv σ (T + 1) 9), wi (min (gv σ (T + 1) 12) 20), wi (max 0 (gv σ (T + 1) 9 - gv σ T 10)), wi (gv σ T 11), wi a, wi m, wi (t + ((fln σ T c (gv σ T 10) (gv σ (T + 1) 9 - gv σ T 10).toNat) + (ctn σ T c 0 (gv σ T 10) (gv σ (T + 1) 9 - gv σ T 10).toNat))), wi (f + (icn σ T c (gv σ (T + 16) 3).toNat)), wi c, wx, wx, wx, wx, wx, wx] [wi (fln σ T c (gv σ T 10) (gv σ (T + 1) 9 - gv σ T 10).toNat), wi 0] σ _
          refine B_top (fun r27 => ?_)
          refine B_if_ne rfl my_116 rfl (tgt := 827) (nx := 823) rfl rfl (fun c28 => ?_) (fun c28 => ?_)
          · refine B_iconst rfl my_116 (by decide) ?_
            refine B_ic_eq rfl my_116 rfl (tgt := 833) (nx := 831) rfl rfl (fun _ => ?_) (fun c9 => absurd c9 (by decide))
            show Bt E 116 833 [wr 0, wr 2, wx, wx, wl d, wx, wi (gv σ (T + 1) 9), wi (min (gv σ (T + 1) 12) 20), wi (max 0 (gv σ (T + 1) 9 - gv σ T 10)), wi (gv σ T 11), wi a, wi m, wi (t + ((fln σ T c (gv σ T 10) (gv σ (T + 1) 9 - gv σ T 10).toNat) + (ctn σ T c 0 (gv σ T 10) (gv σ (T + 1) 9 - gv σ T 10).toNat))), wi (f + (icn σ T c (gv σ (T + 16) 3).toNat)), wi c, wx, wx, wx, wx, wx, wx] [] σ _
            refine B_iinc rfl my_116 (by decide) rfl rfl rfl (by omega) (by omega) (show _ = [wr 0, wr 2, wx, wx, wl d, wx, wi (gv σ (T + 1) 9), wi (min (gv σ (T + 1) 12) 20), wi (max 0 (gv σ (T + 1) 9 - gv σ T 10)), wi (gv σ T 11), wi a, wi m, wi (t + ((fln σ T c (gv σ T 10) (gv σ (T + 1) 9 - gv σ T 10).toNat) + (ctn σ T c 0 (gv σ T 10) (gv σ (T + 1) 9 - gv σ T 10).toNat))), wi (f + (icn σ T c (gv σ (T + 16) 3).toNat)), wi (c + 1), wx, wx, wx, wx, wx, wx] from rfl) ?_
            refine B_goto rfl my_116 rfl (tgt := 721) rfl ?_
            exact kont
          · refine B_iconst rfl my_116 (by decide) ?_
            refine B_goto rfl my_116 rfl (tgt := 828) rfl ?_
            refine B_ic_eq rfl my_116 rfl (tgt := 833) (nx := 831) rfl rfl (fun c9 => absurd c9 (by decide)) (fun _ => ?_)
            show Bt E 116 831 [wr 0, wr 2, wx, wx, wl d, wx, wi (gv σ (T + 1) 9), wi (min (gv σ (T + 1) 12) 20), wi (max 0 (gv σ (T + 1) 9 - gv σ T 10)), wi (gv σ T 11), wi a, wi m, wi (t + ((fln σ T c (gv σ T 10) (gv σ (T + 1) 9 - gv σ T 10).toNat) + (ctn σ T c 0 (gv σ T 10) (gv σ (T + 1) 9 - gv σ T 10).toNat))), wi (f + (icn σ T c (gv σ (T + 16) 3).toNat)), wi c, wx, wx, wx, wx, wx, wx] [] σ _
            refine B_iconst rfl my_116 (by decide) ?_
            exfalso
            omega
        · refine B_iconst rfl my_116 (by decide) ?_
          refine B_goto rfl my_116 rfl (tgt := 813) rfl ?_
          refine B_aloadn rfl my_116 rfl ?_
          refine B_iload rfl my_116 rfl ?_
          refine B_iconst rfl my_116 (by decide) ?_
          refine B_cV hE.1 rfl rfl cw_116_90 (as := [wi c, wi 1]) (rest := [wi 1]) rfl (Nat.le_of_ble_eq_true rfl) (k_column1 hE hW (by omega) (by omega) hN) (fun vo s9 hq => ?_)
          obtain ⟨rfl, rfl⟩ := hq
          show Bt E 116 820 [wr 0, wr 2, wx, wx, wl d, wx, wi (gv σ (T + 1) 9), wi (min (gv σ (T + 1) 12) 20), wi (max 0 (gv σ (T + 1) 9 - gv σ T 10)), wi (gv σ T 11), wi a, wi m, wi (t + ((fln σ T c (gv σ T 10) (gv σ (T + 1) 9 - gv σ T 10).toNat) + (ctn σ T c 0 (gv σ T 10) (gv σ (T + 1) 9 - gv σ T 10).toNat))), wi (f + (icn σ T c (gv σ (T + 16) 3).toNat)), wi c, wx, wx, wx, wx, wx, wx] [wi (fln σ T c (gv σ T 10) (gv σ (T + 1) 9 - gv σ T 10).toNat), wi 1] σ _
          refine B_top (fun r31 => ?_)
          refine B_if_ne rfl my_116 rfl (tgt := 827) (nx := 823) rfl rfl (fun c32 => ?_) (fun c32 => ?_)
          · refine B_iconst rfl my_116 (by decide) ?_
            refine B_ic_eq rfl my_116 rfl (tgt := 833) (nx := 831) rfl rfl (fun c9 => absurd c9 (by decide)) (fun _ => ?_)
            show Bt E 116 831 [wr 0, wr 2, wx, wx, wl d, wx, wi (gv σ (T + 1) 9), wi (min (gv σ (T + 1) 12) 20), wi (max 0 (gv σ (T + 1) 9 - gv σ T 10)), wi (gv σ T 11), wi a, wi m, wi (t + ((fln σ T c (gv σ T 10) (gv σ (T + 1) 9 - gv σ T 10).toNat) + (ctn σ T c 0 (gv σ T 10) (gv σ (T + 1) 9 - gv σ T 10).toNat))), wi (f + (icn σ T c (gv σ (T + 16) 3).toNat)), wi c, wx, wx, wx, wx, wx, wx] [] σ _
            refine B_iconst rfl my_116 (by decide) ?_
            exfalso
            omega
          · refine B_iconst rfl my_116 (by decide) ?_
            refine B_goto rfl my_116 rfl (tgt := 828) rfl ?_
            refine B_ic_eq rfl my_116 rfl (tgt := 833) (nx := 831) rfl rfl (fun _ => ?_) (fun c9 => absurd c9 (by decide))
            show Bt E 116 833 [wr 0, wr 2, wx, wx, wl d, wx, wi (gv σ (T + 1) 9), wi (min (gv σ (T + 1) 12) 20), wi (max 0 (gv σ (T + 1) 9 - gv σ T 10)), wi (gv σ T 11), wi a, wi m, wi (t + ((fln σ T c (gv σ T 10) (gv σ (T + 1) 9 - gv σ T 10).toNat) + (ctn σ T c 0 (gv σ T 10) (gv σ (T + 1) 9 - gv σ T 10).toNat))), wi (f + (icn σ T c (gv σ (T + 16) 3).toNat)), wi c, wx, wx, wx, wx, wx, wx] [] σ _
            refine B_iinc rfl my_116 (by decide) rfl rfl rfl (by omega) (by omega) (show _ = [wr 0, wr 2, wx, wx, wl d, wx, wi (gv σ (T + 1) 9), wi (min (gv σ (T + 1) 12) 20), wi (max 0 (gv σ (T + 1) 9 - gv σ T 10)), wi (gv σ T 11), wi a, wi m, wi (t + ((fln σ T c (gv σ T 10) (gv σ (T + 1) 9 - gv σ T 10).toNat) + (ctn σ T c 0 (gv σ T 10) (gv σ (T + 1) 9 - gv σ T 10).toNat))), wi (f + (icn σ T c (gv σ (T + 16) 3).toNat)), wi (c + 1), wx, wx, wx, wx, wx, wx] from rfl) ?_
            refine B_goto rfl my_116 rfl (tgt := 721) rfl ?_
            exact kont
set_option maxRecDepth 100000 in
theorem l_col {E : mE} {σ : wSt} {T : Nat} (hE : wE E) (hW : NWd σ T) (hN : NTy T σ) {P : Option wV → wSt → Prop} {d a m : Int} (hfn : wI (gv σ (T + 16) 3)) (kont : ∀ t f, t = tol σ T (min (gv σ (T + 1) 12) 20).toNat → f = icm σ T (gv σ (T + 16) 3).toNat (min (gv σ (T + 1) 12) 20).toNat → Bt E 116 839 [wr 0, wr 2, wx, wx, wl d, wx, wi (gv σ (T + 1) 9), wi (min (gv σ (T + 1) 12) 20), wi (max 0 (gv σ (T + 1) 9 - gv σ T 10)), wi (gv σ T 11), wi a, wi m, wi t, wi f, wx, wx, wx, wx, wx, wx, wx] [] σ P) : ∀ (k : Nat) (t f c : Int), t = tol σ T c.toNat → f = icm σ T (gv σ (T + 16) 3).toNat c.toNat → 0 ≤ c → c ≤ min (gv σ (T + 1) 12) 20 → (20 - c).toNat ≤ k → Bt E 116 721 [wr 0, wr 2, wx, wx, wl d, wx, wi (gv σ (T + 1) 9), wi (min (gv σ (T + 1) 12) 20), wi (max 0 (gv σ (T + 1) 9 - gv σ T 10)), wi (gv σ T 11), wi a, wi m, wi t, wi f, wi c, wx, wx, wx, wx, wx, wx] [] σ P := by
  intro k
  induction k with
  | zero =>
    intro t f c h1 h2 h3 h4 hm
    have hT : Tb T := hW.tb
    have hS := hW.2.2.2.2.1
    have hd := hS.2.1.2.2
    have hf0 := hS.2.2.2.2.1.2.1
    refine B_rng 6 rfl (fun ha6 => ?_)
    refine B_rng 7 rfl (fun ha7 => ?_)
    refine B_rng 8 rfl (fun ha8 => ?_)
    refine B_rng 9 rfl (fun ha9 => ?_)
    refine B_rng 10 rfl (fun ha10 => ?_)
    refine B_rng 11 rfl (fun ha11 => ?_)
    refine B_rng 12 rfl (fun ha12 => ?_)
    refine B_rng 13 rfl (fun ha13 => ?_)
    refine B_rng 14 rfl (fun ha14 => ?_)
    refine B_iload rfl my_116 rfl ?_
    refine B_iload rfl my_116 rfl ?_
    refine B_ic_ge rfl my_116 rfl (tgt := 839) (nx := 728) rfl rfl (fun c1 => ?_) (fun c1 => ?_)
    · have ec : c = min (gv σ (T + 1) 12) 20 := by omega
      refine B_loc (l' := [wr 0, wr 2, wx, wx, wl d, wx, wi (gv σ (T + 1) 9), wi (min (gv σ (T + 1) 12) 20), wi (max 0 (gv σ (T + 1) 9 - gv σ T 10)), wi (gv σ T 11), wi a, wi m, wi t, wi f, wx, wx, wx, wx, wx, wx, wx]) ⟨Or.inl rfl, Or.inl rfl, Or.inl rfl, Or.inl rfl, Or.inl rfl, Or.inl rfl, Or.inl rfl, Or.inl rfl, Or.inl rfl, Or.inl rfl, Or.inl rfl, Or.inl rfl, Or.inl rfl, Or.inl rfl, Or.inr rfl, Or.inl rfl, Or.inl rfl, Or.inl rfl, Or.inl rfl, Or.inl rfl, Or.inl rfl, trivial⟩ ?_
      subst ec
      exact kont _ _ h1 h2
    · exact absurd hm (by omega)
  | succ k ih =>
    intro t f c h1 h2 h3 h4 hm
    have hT : Tb T := hW.tb
    have hS := hW.2.2.2.2.1
    have hd := hS.2.1.2.2
    have hf0 := hS.2.2.2.2.1.2.1
    refine B_rng 6 rfl (fun ha6 => ?_)
    refine B_rng 7 rfl (fun ha7 => ?_)
    refine B_rng 8 rfl (fun ha8 => ?_)
    refine B_rng 9 rfl (fun ha9 => ?_)
    refine B_rng 10 rfl (fun ha10 => ?_)
    refine B_rng 11 rfl (fun ha11 => ?_)
    refine B_rng 12 rfl (fun ha12 => ?_)
    refine B_rng 13 rfl (fun ha13 => ?_)
    refine B_rng 14 rfl (fun ha14 => ?_)
    refine B_iload rfl my_116 rfl ?_
    refine B_iload rfl my_116 rfl ?_
    refine B_ic_ge rfl my_116 rfl (tgt := 839) (nx := 728) rfl rfl (fun c1 => ?_) (fun c1 => ?_)
    · have ec : c = min (gv σ (T + 1) 12) 20 := by omega
      refine B_loc (l' := [wr 0, wr 2, wx, wx, wl d, wx, wi (gv σ (T + 1) 9), wi (min (gv σ (T + 1) 12) 20), wi (max 0 (gv σ (T + 1) 9 - gv σ T 10)), wi (gv σ T 11), wi a, wi m, wi t, wi f, wx, wx, wx, wx, wx, wx, wx]) ⟨Or.inl rfl, Or.inl rfl, Or.inl rfl, Or.inl rfl, Or.inl rfl, Or.inl rfl, Or.inl rfl, Or.inl rfl, Or.inl rfl, Or.inl rfl, Or.inl rfl, Or.inl rfl, Or.inl rfl, Or.inl rfl, Or.inr rfl, Or.inl rfl, Or.inl rfl, Or.inl rfl, Or.inl rfl, Or.inl rfl, Or.inl rfl, trivial⟩ ?_
      subst ec
      exact kont _ _ h1 h2
    · have et : tol σ T (c + 1).toNat = tol σ T c.toNat + nce σ T c (gv σ T 10) (gv σ (T + 1) 9 - gv σ T 10).toNat := by
        rw [show (c + 1).toNat = c.toNat + 1 by omega]
        unfold tol
        simp only [smn]
        rw [show ((c.toNat : Nat) : Int) = c by omega]
      have ei : icm σ T (gv σ (T + 16) 3).toNat (c + 1).toNat = icm σ T (gv σ (T + 16) 3).toNat c.toNat + icn σ T c (gv σ (T + 16) 3).toNat := by
        rw [show (c + 1).toNat = c.toNat + 1 by omega]
        unfold icm
        simp only [smn]
        rw [show ((c.toNat : Nat) : Int) = c by omega]
      have hc2 : c < min (gv σ (T + 1) 12) 20 := by omega
      have cf := col_f hS h3 hc2
      have tr := tol_rng hS.hI hd c.toNat
      have i1 := icm_le (σ := σ) (T := T) (w := c.toNat) (gv σ (T + 16) 3).toNat
      have i2 := icm_le (σ := σ) (T := T) (w := (c + 1).toNat) (gv σ (T + 16) 3).toNat
      have i3 := icn_rng (σ := σ) (T := T) (c := c) (gv σ (T + 16) 3).toNat
      refine t_col hE hW hN h3 hc2 (by omega) (by omega) (ih _ _ _ ?_ ?_ (by omega) (by omega) (by omega))
      · rw [et]
        omega
      · rw [ei]
        omega
set_option maxRecDepth 100000 in
theorem t_sums {E : mE} {σ : wSt} {T : Nat} (hE : wE E) (hW : NWd σ T) (hN : NTy T σ) {P : Option wV → wSt → Prop} {d a m t f : Int} (h1 : t = a) (h2 : min (gv σ (T + 1) 12) 20 ≤ m) (h3 : f ≤ gv σ (T + 16) 3) (kont : Bt E 116 865 [wr 0, wr 2, wx, wx, wl d, wx, wi (gv σ (T + 1) 9), wi (min (gv σ (T + 1) 12) 20), wi (max 0 (gv σ (T + 1) 9 - gv σ T 10)), wi (gv σ T 11), wx, wx, wx, wi f, wx, wx, wx, wx, wx, wx, wx] [] σ P) : Bt E 116 839 [wr 0, wr 2, wx, wx, wl d, wx, wi (gv σ (T + 1) 9), wi (min (gv σ (T + 1) 12) 20), wi (max 0 (gv σ (T + 1) 9 - gv σ T 10)), wi (gv σ T 11), wi a, wi m, wi t, wi f, wx, wx, wx, wx, wx, wx, wx] [] σ P := by
  refine B_iload rfl my_116 rfl ?_
  refine B_iload rfl my_116 rfl ?_
  refine B_ic_ne rfl my_116 rfl (tgt := 863) (nx := 846) rfl rfl (fun c1 => ?_) (fun c1 => ?_)
  · refine B_iconst rfl my_116 (by decide) ?_
    exfalso
    omega
  · refine B_iload rfl my_116 rfl ?_
    refine B_iload rfl my_116 rfl ?_
    refine B_ic_gt rfl my_116 rfl (tgt := 863) (nx := 853) rfl rfl (fun c2 => ?_) (fun c2 => ?_)
    · refine B_iconst rfl my_116 (by decide) ?_
      exfalso
      omega
    · refine B_iload rfl my_116 rfl ?_
      refine B_aloadn rfl my_116 rfl ?_
      refine B_iconst rfl my_116 (by decide) ?_
      refine B_cV hE.1 rfl rfl cw_116_86 (as := [wi 4]) (rest := [wi f]) rfl (Nat.le_of_ble_eq_true rfl) (k_many4 hE hW) (fun vo s9 hq => ?_)
      obtain ⟨rfl, rfl⟩ := hq
      show Bt E 116 860 [wr 0, wr 2, wx, wx, wl d, wx, wi (gv σ (T + 1) 9), wi (min (gv σ (T + 1) 12) 20), wi (max 0 (gv σ (T + 1) 9 - gv σ T 10)), wi (gv σ T 11), wi a, wi m, wi t, wi f, wx, wx, wx, wx, wx, wx, wx] [wi (gv σ (T + 16) 3), wi f] σ _
      refine B_top (fun r3 => ?_)
      refine B_ic_le rfl my_116 rfl (tgt := 865) (nx := 863) rfl rfl (fun c4 => ?_) (fun c4 => ?_)
      · refine B_loc (l' := [wr 0, wr 2, wx, wx, wl d, wx, wi (gv σ (T + 1) 9), wi (min (gv σ (T + 1) 12) 20), wi (max 0 (gv σ (T + 1) 9 - gv σ T 10)), wi (gv σ T 11), wx, wx, wx, wi f, wx, wx, wx, wx, wx, wx, wx]) ⟨Or.inl rfl, Or.inl rfl, Or.inl rfl, Or.inl rfl, Or.inl rfl, Or.inl rfl, Or.inl rfl, Or.inl rfl, Or.inl rfl, Or.inl rfl, Or.inr rfl, Or.inr rfl, Or.inr rfl, Or.inl rfl, Or.inl rfl, Or.inl rfl, Or.inl rfl, Or.inl rfl, Or.inl rfl, Or.inl rfl, Or.inl rfl, trivial⟩ ?_
        exact kont
      · refine B_iconst rfl my_116 (by decide) ?_
        exfalso
        omega
set_option maxRecDepth 100000 in
theorem t_f2 {E : mE} {σ : wSt} {T : Nat} (hE : wE E) (hW : NWd σ T) (hN : NTy T σ) {P : Option wV → wSt → Prop} {d f w l k : Int} (hk1 : 0 ≤ k) (hk2 : k < gv σ (T + 16) 3) (g1 : l ≤ rd σ (T + 17) 561 k) (g2 : gv σ (T + 1) 9 - max 0 (gv σ (T + 1) 9 - gv σ T 10) ≤ rd σ (T + 17) 561 k) (g3 : rd σ (T + 17) 561 k < gv σ (T + 1) 9) (g4 : FGd T σ k) (g5 : 0 ≤ gv σ (T + 1) 9 ∧ gv σ (T + 1) 9 ≤ 60 ∧ 0 ≤ max 0 (gv σ (T + 1) 9 - gv σ T 10) ∧ max 0 (gv σ (T + 1) 9 - gv σ T 10) ≤ 60) (kont : Bt E 116 996 [wr 0, wr 2, wx, wx, wl d, wx, wi (gv σ (T + 1) 9), wi (min (gv σ (T + 1) 12) 20), wi (max 0 (gv σ (T + 1) 9 - gv σ T 10)), wi (gv σ T 11), wx, wx, wx, wi f, wi w, wi l, wi k, wi (rd σ (T + 17) 561 k), wi (rd σ (T + 21) 561 k), wx, wx] [] σ P) : Bt E 116 922 [wr 0, wr 2, wx, wx, wl d, wx, wi (gv σ (T + 1) 9), wi (min (gv σ (T + 1) 12) 20), wi (max 0 (gv σ (T + 1) 9 - gv σ T 10)), wi (gv σ T 11), wx, wx, wx, wi f, wi w, wi l, wi k, wi (rd σ (T + 17) 561 k), wi (rd σ (T + 21) 561 k), wx, wx] [] σ P := by
  unfold FGd at g4
  refine B_iload rfl my_116 rfl ?_
  refine B_iload rfl my_116 rfl ?_
  refine B_ic_lt rfl my_116 rfl (tgt := 994) (nx := 929) rfl rfl (fun c1 => ?_) (fun c1 => ?_)
  · refine B_iconst rfl my_116 (by decide) ?_
    exfalso
    omega
  · refine B_iload rfl my_116 rfl ?_
    refine B_iload rfl my_116 rfl ?_
    refine B_iload rfl my_116 rfl ?_
    refine B_isub rfl my_116 (by omega) (by omega) ?_
    refine B_ic_lt rfl my_116 rfl (tgt := 994) (nx := 939) rfl rfl (fun c2 => ?_) (fun c2 => ?_)
    · refine B_iconst rfl my_116 (by decide) ?_
      exfalso
      omega
    · refine B_iload rfl my_116 rfl ?_
      refine B_iload rfl my_116 rfl ?_
      refine B_ic_ge rfl my_116 rfl (tgt := 994) (nx := 946) rfl rfl (fun c3 => ?_) (fun c3 => ?_)
      · refine B_iconst rfl my_116 (by decide) ?_
        exfalso
        omega
      · refine B_iload rfl my_116 rfl ?_
        refine B_iconst rfl my_116 (by decide) ?_
        refine B_ic_lt rfl my_116 rfl (tgt := 994) (nx := 952) rfl rfl (fun c4 => ?_) (fun c4 => ?_)
        · refine B_iconst rfl my_116 (by decide) ?_
          exfalso
          omega
        · refine B_iload rfl my_116 rfl ?_
          refine B_bipush rfl my_116 (n := 7) rfl ?_
          refine B_ic_gt rfl my_116 rfl (tgt := 994) (nx := 959) rfl rfl (fun c5 => ?_) (fun c5 => ?_)
          · refine B_iconst rfl my_116 (by decide) ?_
            exfalso
            omega
          · refine B_aloadn rfl my_116 rfl ?_
            refine B_iload rfl my_116 rfl ?_
            refine B_iconst rfl my_116 (by decide) ?_
            refine B_cV hE.1 rfl rfl cw_116_94 (as := [wi k, wi 1]) (rest := []) rfl (Nat.le_of_ble_eq_true rfl) (k_fault1 hE hW (by omega) (by omega)) (fun vo s9 hq => ?_)
            obtain ⟨rfl, rfl⟩ := hq
            show Bt E 116 966 [wr 0, wr 2, wx, wx, wl d, wx, wi (gv σ (T + 1) 9), wi (min (gv σ (T + 1) 12) 20), wi (max 0 (gv σ (T + 1) 9 - gv σ T 10)), wi (gv σ T 11), wx, wx, wx, wi f, wi w, wi l, wi k, wi (rd σ (T + 17) 561 k), wi (rd σ (T + 21) 561 k), wx, wx] [wi (rd σ (T + 19) 561 k)] σ _
            refine B_top (fun r6 => ?_)
            refine B_if_ge rfl my_116 rfl (tgt := 973) (nx := 969) rfl rfl (fun c7 => ?_) (fun c7 => ?_)
            · refine B_iconst rfl my_116 (by decide) ?_
              refine B_iload rfl my_116 rfl ?_
              refine B_iconst rfl my_116 (by decide) ?_
              refine B_ic_eq rfl my_116 rfl (tgt := 986) (nx := 980) rfl rfl (fun c8 => ?_) (fun c8 => ?_)
              · refine B_iconst rfl my_116 (by decide) ?_
                refine B_goto rfl my_116 rfl (tgt := 991) rfl ?_
                refine B_ic_eq rfl my_116 rfl (tgt := 996) (nx := 994) rfl rfl (fun c9 => absurd c9 (by decide)) (fun _ => ?_)
                show Bt E 116 994 [wr 0, wr 2, wx, wx, wl d, wx, wi (gv σ (T + 1) 9), wi (min (gv σ (T + 1) 12) 20), wi (max 0 (gv σ (T + 1) 9 - gv σ T 10)), wi (gv σ T 11), wx, wx, wx, wi f, wi w, wi l, wi k, wi (rd σ (T + 17) 561 k), wi (rd σ (T + 21) 561 k), wx, wx] [] σ _
                refine B_iconst rfl my_116 (by decide) ?_
                exfalso
                omega
              · refine B_iload rfl my_116 rfl ?_
                refine B_iconst rfl my_116 (by decide) ?_
                refine B_ic_ne rfl my_116 rfl (tgt := 990) (nx := 986) rfl rfl (fun c10 => ?_) (fun c10 => ?_)
                · refine B_iconst rfl my_116 (by decide) ?_
                  refine B_ic_eq rfl my_116 rfl (tgt := 996) (nx := 994) rfl rfl (fun _ => ?_) (fun c9 => absurd c9 (by decide))
                  show Bt E 116 996 [wr 0, wr 2, wx, wx, wl d, wx, wi (gv σ (T + 1) 9), wi (min (gv σ (T + 1) 12) 20), wi (max 0 (gv σ (T + 1) 9 - gv σ T 10)), wi (gv σ T 11), wx, wx, wx, wi f, wi w, wi l, wi k, wi (rd σ (T + 17) 561 k), wi (rd σ (T + 21) 561 k), wx, wx] [] σ _
                  exact kont
                · refine B_iconst rfl my_116 (by decide) ?_
                  refine B_goto rfl my_116 rfl (tgt := 991) rfl ?_
                  refine B_ic_eq rfl my_116 rfl (tgt := 996) (nx := 994) rfl rfl (fun c9 => absurd c9 (by decide)) (fun _ => ?_)
                  show Bt E 116 994 [wr 0, wr 2, wx, wx, wl d, wx, wi (gv σ (T + 1) 9), wi (min (gv σ (T + 1) 12) 20), wi (max 0 (gv σ (T + 1) 9 - gv σ T 10)), wi (gv σ T 11), wx, wx, wx, wi f, wi w, wi l, wi k, wi (rd σ (T + 17) 561 k), wi (rd σ (T + 21) 561 k), wx, wx] [] σ _
                  refine B_iconst rfl my_116 (by decide) ?_
                  exfalso
                  omega
            · refine B_iconst rfl my_116 (by decide) ?_
              refine B_goto rfl my_116 rfl (tgt := 974) rfl ?_
              refine B_iload rfl my_116 rfl ?_
              refine B_iconst rfl my_116 (by decide) ?_
              refine B_ic_eq rfl my_116 rfl (tgt := 986) (nx := 980) rfl rfl (fun c13 => ?_) (fun c13 => ?_)
              · refine B_iconst rfl my_116 (by decide) ?_
                refine B_goto rfl my_116 rfl (tgt := 991) rfl ?_
                refine B_ic_eq rfl my_116 rfl (tgt := 996) (nx := 994) rfl rfl (fun _ => ?_) (fun c9 => absurd c9 (by decide))
                show Bt E 116 996 [wr 0, wr 2, wx, wx, wl d, wx, wi (gv σ (T + 1) 9), wi (min (gv σ (T + 1) 12) 20), wi (max 0 (gv σ (T + 1) 9 - gv σ T 10)), wi (gv σ T 11), wx, wx, wx, wi f, wi w, wi l, wi k, wi (rd σ (T + 17) 561 k), wi (rd σ (T + 21) 561 k), wx, wx] [] σ _
                exact kont
              · refine B_iload rfl my_116 rfl ?_
                refine B_iconst rfl my_116 (by decide) ?_
                refine B_ic_ne rfl my_116 rfl (tgt := 990) (nx := 986) rfl rfl (fun c15 => ?_) (fun c15 => ?_)
                · refine B_iconst rfl my_116 (by decide) ?_
                  refine B_ic_eq rfl my_116 rfl (tgt := 996) (nx := 994) rfl rfl (fun c9 => absurd c9 (by decide)) (fun _ => ?_)
                  show Bt E 116 994 [wr 0, wr 2, wx, wx, wl d, wx, wi (gv σ (T + 1) 9), wi (min (gv σ (T + 1) 12) 20), wi (max 0 (gv σ (T + 1) 9 - gv σ T 10)), wi (gv σ T 11), wx, wx, wx, wi f, wi w, wi l, wi k, wi (rd σ (T + 17) 561 k), wi (rd σ (T + 21) 561 k), wx, wx] [] σ _
                  refine B_iconst rfl my_116 (by decide) ?_
                  exfalso
                  omega
                · refine B_iconst rfl my_116 (by decide) ?_
                  refine B_goto rfl my_116 rfl (tgt := 991) rfl ?_
                  refine B_ic_eq rfl my_116 rfl (tgt := 996) (nx := 994) rfl rfl (fun _ => ?_) (fun c9 => absurd c9 (by decide))
                  show Bt E 116 996 [wr 0, wr 2, wx, wx, wl d, wx, wi (gv σ (T + 1) 9), wi (min (gv σ (T + 1) 12) 20), wi (max 0 (gv σ (T + 1) 9 - gv σ T 10)), wi (gv σ T 11), wx, wx, wx, wi f, wi w, wi l, wi k, wi (rd σ (T + 17) 561 k), wi (rd σ (T + 21) 561 k), wx, wx] [] σ _
                  exact kont
set_option maxRecDepth 100000 in
theorem t_f1 {E : mE} {σ : wSt} {T : Nat} (hE : wE E) (hW : NWd σ T) (hN : NTy T σ) {P : Option wV → wSt → Prop} {d f w l k : Int} (hk1 : 0 ≤ k) (hk2 : k < gv σ (T + 16) 3) (hw : 0 ≤ w ∧ w < 2147483647) (kont : ∀ b, ((rd σ (T + 19) 561 k < 0 → b = w + 1) ∧ (0 ≤ rd σ (T + 19) 561 k → b = w)) → Bt E 116 922 [wr 0, wr 2, wx, wx, wl d, wx, wi (gv σ (T + 1) 9), wi (min (gv σ (T + 1) 12) 20), wi (max 0 (gv σ (T + 1) 9 - gv σ T 10)), wi (gv σ T 11), wx, wx, wx, wi f, wi b, wi l, wi k, wi (rd σ (T + 17) 561 k), wi (rd σ (T + 21) 561 k), wx, wx] [] σ P) : Bt E 116 884 [wr 0, wr 2, wx, wx, wl d, wx, wi (gv σ (T + 1) 9), wi (min (gv σ (T + 1) 12) 20), wi (max 0 (gv σ (T + 1) 9 - gv σ T 10)), wi (gv σ T 11), wx, wx, wx, wi f, wi w, wi l, wi k, wx, wx, wx, wx] [] σ P := by
  refine B_aloadn rfl my_116 rfl ?_
  refine B_iload rfl my_116 rfl ?_
  refine B_iconst rfl my_116 (by decide) ?_
  refine B_cV hE.1 rfl rfl cw_116_94 (as := [wi k, wi 0]) (rest := []) rfl (Nat.le_of_ble_eq_true rfl) (k_fault0 hE hW (by omega) (by omega)) (fun vo s9 hq => ?_)
  obtain ⟨rfl, rfl⟩ := hq
  show Bt E 116 891 [wr 0, wr 2, wx, wx, wl d, wx, wi (gv σ (T + 1) 9), wi (min (gv σ (T + 1) 12) 20), wi (max 0 (gv σ (T + 1) 9 - gv σ T 10)), wi (gv σ T 11), wx, wx, wx, wi f, wi w, wi l, wi k, wx, wx, wx, wx] [wi (rd σ (T + 17) 561 k)] σ _
  refine B_top (fun r1 => ?_)
  refine B_istore rfl my_116 (by decide) rfl (show _ = [wr 0, wr 2, wx, wx, wl d, wx, wi (gv σ (T + 1) 9), wi (min (gv σ (T + 1) 12) 20), wi (max 0 (gv σ (T + 1) 9 - gv σ T 10)), wi (gv σ T 11), wx, wx, wx, wi f, wi w, wi l, wi k, wi (rd σ (T + 17) 561 k), wx, wx, wx] from rfl) ?_
  refine B_aloadn rfl my_116 rfl ?_
  refine B_iload rfl my_116 rfl ?_
  refine B_iconst rfl my_116 (by decide) ?_
  refine B_cV hE.1 rfl rfl cw_116_94 (as := [wi k, wi 2]) (rest := []) rfl (Nat.le_of_ble_eq_true rfl) (k_fault2 hE hW (by omega) (by omega)) (fun vo s9 hq => ?_)
  obtain ⟨rfl, rfl⟩ := hq
  show Bt E 116 900 [wr 0, wr 2, wx, wx, wl d, wx, wi (gv σ (T + 1) 9), wi (min (gv σ (T + 1) 12) 20), wi (max 0 (gv σ (T + 1) 9 - gv σ T 10)), wi (gv σ T 11), wx, wx, wx, wi f, wi w, wi l, wi k, wi (rd σ (T + 17) 561 k), wx, wx, wx] [wi (rd σ (T + 21) 561 k)] σ _
  refine B_top (fun r2 => ?_)
  refine B_istore rfl my_116 (by decide) rfl (show _ = [wr 0, wr 2, wx, wx, wl d, wx, wi (gv σ (T + 1) 9), wi (min (gv σ (T + 1) 12) 20), wi (max 0 (gv σ (T + 1) 9 - gv σ T 10)), wi (gv σ T 11), wx, wx, wx, wi f, wi w, wi l, wi k, wi (rd σ (T + 17) 561 k), wi (rd σ (T + 21) 561 k), wx, wx] from rfl) ?_
  refine B_iload rfl my_116 rfl ?_
  refine B_aloadn rfl my_116 rfl ?_
  refine B_iload rfl my_116 rfl ?_
  refine B_iconst rfl my_116 (by decide) ?_
  refine B_cV hE.1 rfl rfl cw_116_94 (as := [wi k, wi 1]) (rest := [wi w]) rfl (Nat.le_of_ble_eq_true rfl) (k_fault1 hE hW (by omega) (by omega)) (fun vo s9 hq => ?_)
  obtain ⟨rfl, rfl⟩ := hq
  show Bt E 116 911 [wr 0, wr 2, wx, wx, wl d, wx, wi (gv σ (T + 1) 9), wi (min (gv σ (T + 1) 12) 20), wi (max 0 (gv σ (T + 1) 9 - gv σ T 10)), wi (gv σ T 11), wx, wx, wx, wi f, wi w, wi l, wi k, wi (rd σ (T + 17) 561 k), wi (rd σ (T + 21) 561 k), wx, wx] [wi (rd σ (T + 19) 561 k), wi w] σ _
  refine B_top (fun r3 => ?_)
  refine B_if_ge rfl my_116 rfl (tgt := 918) (nx := 914) rfl rfl (fun c4 => ?_) (fun c4 => ?_)
  · refine B_iconst rfl my_116 (by decide) ?_
    refine B_iadd rfl my_116 (by omega) (by omega) ?_
    refine B_istore rfl my_116 (by decide) rfl (show _ = [wr 0, wr 2, wx, wx, wl d, wx, wi (gv σ (T + 1) 9), wi (min (gv σ (T + 1) 12) 20), wi (max 0 (gv σ (T + 1) 9 - gv σ T 10)), wi (gv σ T 11), wx, wx, wx, wi f, wi (w + 0), wi l, wi k, wi (rd σ (T + 17) 561 k), wi (rd σ (T + 21) 561 k), wx, wx] from rfl) ?_
    exact kont _ (by omega)
  · refine B_iconst rfl my_116 (by decide) ?_
    refine B_goto rfl my_116 rfl (tgt := 919) rfl ?_
    refine B_iadd rfl my_116 (by omega) (by omega) ?_
    refine B_istore rfl my_116 (by decide) rfl (show _ = [wr 0, wr 2, wx, wx, wl d, wx, wi (gv σ (T + 1) 9), wi (min (gv σ (T + 1) 12) 20), wi (max 0 (gv σ (T + 1) 9 - gv σ T 10)), wi (gv σ T 11), wx, wx, wx, wi f, wi (w + 1), wi l, wi k, wi (rd σ (T + 17) 561 k), wi (rd σ (T + 21) 561 k), wx, wx] from rfl) ?_
    exact kont _ (by omega)
set_option maxRecDepth 100000 in
theorem t_f3 {E : mE} {σ : wSt} {T : Nat} (hE : wE E) (hW : NWd σ T) (hN : NTy T σ) {P : Option wV → wSt → Prop} {d f w l k : Int} (hk1 : 0 ≤ k) (hk2 : k < gv σ (T + 16) 3) (hk3 : k < 2147483647) (kont : Bt E 116 874 [wr 0, wr 2, wx, wx, wl d, wx, wi (gv σ (T + 1) 9), wi (min (gv σ (T + 1) 12) 20), wi (max 0 (gv σ (T + 1) 9 - gv σ T 10)), wi (gv σ T 11), wx, wx, wx, wi f, wi w, wi (rd σ (T + 17) 561 k), wi (k + 1), wx, wx, wx, wx] [] σ P) : Bt E 116 996 [wr 0, wr 2, wx, wx, wl d, wx, wi (gv σ (T + 1) 9), wi (min (gv σ (T + 1) 12) 20), wi (max 0 (gv σ (T + 1) 9 - gv σ T 10)), wi (gv σ T 11), wx, wx, wx, wi f, wi w, wi l, wi k, wi (rd σ (T + 17) 561 k), wi (rd σ (T + 21) 561 k), wx, wx] [] σ P := by
  refine B_iload rfl my_116 rfl ?_
  refine B_istore rfl my_116 (by decide) rfl (show _ = [wr 0, wr 2, wx, wx, wl d, wx, wi (gv σ (T + 1) 9), wi (min (gv σ (T + 1) 12) 20), wi (max 0 (gv σ (T + 1) 9 - gv σ T 10)), wi (gv σ T 11), wx, wx, wx, wi f, wi w, wi (rd σ (T + 17) 561 k), wi k, wi (rd σ (T + 17) 561 k), wi (rd σ (T + 21) 561 k), wx, wx] from rfl) ?_
  refine B_iinc rfl my_116 (by decide) rfl rfl rfl (by omega) (by omega) (show _ = [wr 0, wr 2, wx, wx, wl d, wx, wi (gv σ (T + 1) 9), wi (min (gv σ (T + 1) 12) 20), wi (max 0 (gv σ (T + 1) 9 - gv σ T 10)), wi (gv σ T 11), wx, wx, wx, wi f, wi w, wi (rd σ (T + 17) 561 k), wi (k + 1), wi (rd σ (T + 17) 561 k), wi (rd σ (T + 21) 561 k), wx, wx] from rfl) ?_
  refine B_goto rfl my_116 rfl (tgt := 874) rfl ?_
  refine B_loc (l' := [wr 0, wr 2, wx, wx, wl d, wx, wi (gv σ (T + 1) 9), wi (min (gv σ (T + 1) 12) 20), wi (max 0 (gv σ (T + 1) 9 - gv σ T 10)), wi (gv σ T 11), wx, wx, wx, wi f, wi w, wi (rd σ (T + 17) 561 k), wi (k + 1), wx, wx, wx, wx]) ⟨Or.inl rfl, Or.inl rfl, Or.inl rfl, Or.inl rfl, Or.inl rfl, Or.inl rfl, Or.inl rfl, Or.inl rfl, Or.inl rfl, Or.inl rfl, Or.inl rfl, Or.inl rfl, Or.inl rfl, Or.inl rfl, Or.inl rfl, Or.inl rfl, Or.inl rfl, Or.inr rfl, Or.inr rfl, Or.inl rfl, Or.inl rfl, trivial⟩ ?_
  exact kont
set_option maxRecDepth 100000 in
theorem t_fend {E : mE} {σ : wSt} {T : Nat} (hE : wE E) (hW : NWd σ T) (hN : NTy T σ) {P : Option wV → wSt → Prop} {d f w : Int} (h1 : w + f = gv σ (T + 16) 3) (hfn : wI (gv σ (T + 16) 3)) (kont : Bt E 116 1021 [wr 0, wr 2, wx, wx, wl d, wx, wi (gv σ (T + 1) 9), wi (min (gv σ (T + 1) 12) 20), wi (max 0 (gv σ (T + 1) 9 - gv σ T 10)), wi (gv σ T 11), wx, wx, wx, wx, wx, wx, wx, wx, wx, wx, wx] [] σ P) : Bt E 116 1006 [wr 0, wr 2, wx, wx, wl d, wx, wi (gv σ (T + 1) 9), wi (min (gv σ (T + 1) 12) 20), wi (max 0 (gv σ (T + 1) 9 - gv σ T 10)), wi (gv σ T 11), wx, wx, wx, wi f, wi w, wx, wx, wx, wx, wx, wx] [] σ P := by
  refine B_iload rfl my_116 rfl ?_
  refine B_iload rfl my_116 rfl ?_
  refine B_iadd rfl my_116 (by omega) (by omega) ?_
  refine B_aloadn rfl my_116 rfl ?_
  refine B_iconst rfl my_116 (by decide) ?_
  refine B_cV hE.1 rfl rfl cw_116_86 (as := [wi 4]) (rest := [wi (w + f)]) rfl (Nat.le_of_ble_eq_true rfl) (k_many4 hE hW) (fun vo s9 hq => ?_)
  obtain ⟨rfl, rfl⟩ := hq
  show Bt E 116 1016 [wr 0, wr 2, wx, wx, wl d, wx, wi (gv σ (T + 1) 9), wi (min (gv σ (T + 1) 12) 20), wi (max 0 (gv σ (T + 1) 9 - gv σ T 10)), wi (gv σ T 11), wx, wx, wx, wi f, wi w, wx, wx, wx, wx, wx, wx] [wi (gv σ (T + 16) 3), wi (w + f)] σ _
  refine B_top (fun r1 => ?_)
  refine B_ic_eq rfl my_116 rfl (tgt := 1021) (nx := 1019) rfl rfl (fun c2 => ?_) (fun c2 => ?_)
  · refine B_loc (l' := [wr 0, wr 2, wx, wx, wl d, wx, wi (gv σ (T + 1) 9), wi (min (gv σ (T + 1) 12) 20), wi (max 0 (gv σ (T + 1) 9 - gv σ T 10)), wi (gv σ T 11), wx, wx, wx, wx, wx, wx, wx, wx, wx, wx, wx]) ⟨Or.inl rfl, Or.inl rfl, Or.inl rfl, Or.inl rfl, Or.inl rfl, Or.inl rfl, Or.inl rfl, Or.inl rfl, Or.inl rfl, Or.inl rfl, Or.inl rfl, Or.inl rfl, Or.inl rfl, Or.inr rfl, Or.inr rfl, Or.inl rfl, Or.inl rfl, Or.inl rfl, Or.inl rfl, Or.inl rfl, Or.inl rfl, trivial⟩ ?_
    exact kont
  · refine B_iconst rfl my_116 (by decide) ?_
    exfalso
    omega
set_option maxRecDepth 100000 in
theorem l_flt {E : mE} {σ : wSt} {T : Nat} (hE : wE E) (hW : NWd σ T) (hN : NTy T σ) {P : Option wV → wSt → Prop} {d f : Int} (hfn : wI (gv σ (T + 16) 3)) (hf : f = icm σ T (gv σ (T + 16) 3).toNat (min (gv σ (T + 1) 12) 20).toNat) (kont : Bt E 116 1021 [wr 0, wr 2, wx, wx, wl d, wx, wi (gv σ (T + 1) 9), wi (min (gv σ (T + 1) 12) 20), wi (max 0 (gv σ (T + 1) 9 - gv σ T 10)), wi (gv σ T 11), wx, wx, wx, wx, wx, wx, wx, wx, wx, wx, wx] [] σ P) : ∀ (k : Nat) (w l n : Int), w = nwr σ T n.toNat → (n = 0 ∧ l = -1 ∨ 0 < n ∧ l = rd σ (T + 17) 561 (n - 1)) → 0 ≤ n → n ≤ gv σ (T + 16) 3 → (gv σ (T + 16) 3 - n).toNat ≤ k → Bt E 116 874 [wr 0, wr 2, wx, wx, wl d, wx, wi (gv σ (T + 1) 9), wi (min (gv σ (T + 1) 12) 20), wi (max 0 (gv σ (T + 1) 9 - gv σ T 10)), wi (gv σ T 11), wx, wx, wx, wi f, wi w, wi l, wi n, wx, wx, wx, wx] [] σ P := by
  intro k
  induction k with
  | zero =>
    intro w l n h1 h2 h3 h4 hm
    have hT : Tb T := hW.tb
    have hS := hW.2.2.2.2.1
    have hf0 := hS.2.2.2.2.1.2.1
    have hn := nwr_rng (σ := σ) (T := T) n.toNat
    refine B_rng 6 rfl (fun ha6 => ?_)
    refine B_rng 7 rfl (fun ha7 => ?_)
    refine B_rng 8 rfl (fun ha8 => ?_)
    refine B_rng 9 rfl (fun ha9 => ?_)
    refine B_rng 13 rfl (fun ha13 => ?_)
    refine B_rng 14 rfl (fun ha14 => ?_)
    refine B_rng 15 rfl (fun ha15 => ?_)
    refine B_rng 16 rfl (fun ha16 => ?_)
    refine B_iload rfl my_116 rfl ?_
    refine B_aloadn rfl my_116 rfl ?_
    refine B_iconst rfl my_116 (by decide) ?_
    refine B_cV hE.1 rfl rfl cw_116_86 (as := [wi 4]) (rest := [wi n]) rfl (Nat.le_of_ble_eq_true rfl) (k_many4 hE hW) (fun vo s9 hq => ?_)
    obtain ⟨rfl, rfl⟩ := hq
    show Bt E 116 881 [wr 0, wr 2, wx, wx, wl d, wx, wi (gv σ (T + 1) 9), wi (min (gv σ (T + 1) 12) 20), wi (max 0 (gv σ (T + 1) 9 - gv σ T 10)), wi (gv σ T 11), wx, wx, wx, wi f, wi w, wi l, wi n, wx, wx, wx, wx] [wi (gv σ (T + 16) 3), wi n] σ _
    refine B_top (fun r1 => ?_)
    refine B_ic_ge rfl my_116 rfl (tgt := 1006) (nx := 884) rfl rfl (fun c2 => ?_) (fun c2 => ?_)
    · have ek : n = gv σ (T + 16) 3 := by omega
      refine B_loc (l' := [wr 0, wr 2, wx, wx, wl d, wx, wi (gv σ (T + 1) 9), wi (min (gv σ (T + 1) 12) 20), wi (max 0 (gv σ (T + 1) 9 - gv σ T 10)), wi (gv σ T 11), wx, wx, wx, wi f, wi w, wx, wx, wx, wx, wx, wx]) ⟨Or.inl rfl, Or.inl rfl, Or.inl rfl, Or.inl rfl, Or.inl rfl, Or.inl rfl, Or.inl rfl, Or.inl rfl, Or.inl rfl, Or.inl rfl, Or.inl rfl, Or.inl rfl, Or.inl rfl, Or.inl rfl, Or.inl rfl, Or.inr rfl, Or.inr rfl, Or.inl rfl, Or.inl rfl, Or.inl rfl, Or.inl rfl, trivial⟩ ?_
      have hu := hS.hI.uw
      have en := icm_nwr (w := (min (gv σ (T + 1) 12) 20).toNat) hS (by omega) (gv σ (T + 16) 3).toNat (by omega)
      have es : w = nwr σ T (gv σ (T + 16) 3).toNat := by rw [h1, ek]
      exact t_fend hE hW hN (by omega) hfn kont
    · exact absurd hm (by omega)
  | succ k ih =>
    intro w l n h1 h2 h3 h4 hm
    have hT : Tb T := hW.tb
    have hS := hW.2.2.2.2.1
    have hf0 := hS.2.2.2.2.1.2.1
    have hn := nwr_rng (σ := σ) (T := T) n.toNat
    refine B_rng 6 rfl (fun ha6 => ?_)
    refine B_rng 7 rfl (fun ha7 => ?_)
    refine B_rng 8 rfl (fun ha8 => ?_)
    refine B_rng 9 rfl (fun ha9 => ?_)
    refine B_rng 13 rfl (fun ha13 => ?_)
    refine B_rng 14 rfl (fun ha14 => ?_)
    refine B_rng 15 rfl (fun ha15 => ?_)
    refine B_rng 16 rfl (fun ha16 => ?_)
    refine B_iload rfl my_116 rfl ?_
    refine B_aloadn rfl my_116 rfl ?_
    refine B_iconst rfl my_116 (by decide) ?_
    refine B_cV hE.1 rfl rfl cw_116_86 (as := [wi 4]) (rest := [wi n]) rfl (Nat.le_of_ble_eq_true rfl) (k_many4 hE hW) (fun vo s9 hq => ?_)
    obtain ⟨rfl, rfl⟩ := hq
    show Bt E 116 881 [wr 0, wr 2, wx, wx, wl d, wx, wi (gv σ (T + 1) 9), wi (min (gv σ (T + 1) 12) 20), wi (max 0 (gv σ (T + 1) 9 - gv σ T 10)), wi (gv σ T 11), wx, wx, wx, wi f, wi w, wi l, wi n, wx, wx, wx, wx] [wi (gv σ (T + 16) 3), wi n] σ _
    refine B_top (fun r1 => ?_)
    refine B_ic_ge rfl my_116 rfl (tgt := 1006) (nx := 884) rfl rfl (fun c2 => ?_) (fun c2 => ?_)
    · have ek : n = gv σ (T + 16) 3 := by omega
      refine B_loc (l' := [wr 0, wr 2, wx, wx, wl d, wx, wi (gv σ (T + 1) 9), wi (min (gv σ (T + 1) 12) 20), wi (max 0 (gv σ (T + 1) 9 - gv σ T 10)), wi (gv σ T 11), wx, wx, wx, wi f, wi w, wx, wx, wx, wx, wx, wx]) ⟨Or.inl rfl, Or.inl rfl, Or.inl rfl, Or.inl rfl, Or.inl rfl, Or.inl rfl, Or.inl rfl, Or.inl rfl, Or.inl rfl, Or.inl rfl, Or.inl rfl, Or.inl rfl, Or.inl rfl, Or.inl rfl, Or.inl rfl, Or.inr rfl, Or.inr rfl, Or.inl rfl, Or.inl rfl, Or.inl rfl, Or.inl rfl, trivial⟩ ?_
      have hu := hS.hI.uw
      have en := icm_nwr (w := (min (gv σ (T + 1) 12) 20).toNat) hS (by omega) (gv σ (T + 16) 3).toNat (by omega)
      have es : w = nwr σ T (gv σ (T + 16) 3).toNat := by rw [h1, ek]
      exact t_fend hE hW hN (by omega) hfn kont
    · have hk2 : n < gv σ (T + 16) 3 := by omega
      have ew : nwr σ T (n + 1).toNat = nwr σ T n.toNat + (if rd σ (T + 19) 561 n < 0 then 1 else 0) := by
        rw [show (n + 1).toNat = n.toNat + 1 by omega]
        simp only [nwr]
        rw [show ((n.toNat : Nat) : Int) = n by omega]
      have h0 := hS.hI.1
      have hd := hS.2.1.2.2
      have fi := hS.2.2.2.2.1.2.2.1 n h3 hk2
      have fj := hS.2.2.2.2.1.2.2.2 n
      refine t_f1 hE hW hN h3 hk2 (by omega) (fun b hb => t_f2 hE hW hN h3 hk2 ?_ (by have := fi.2.1; omega) fi.2.1.2 fi.2.2 (by omega) (t_f3 hE hW hN h3 hk2 (by omega) (ih _ _ _ ?_ ?_ (by omega) (by omega) (by omega))))
      · rcases h2 with ⟨e1, e2⟩ | ⟨e1, e2⟩
        · have := fi.2.1.1
          omega
        · have := fj e1 hk2
          omega
      · rw [ew]
        by_cases g : rd σ (T + 19) 561 n < 0
        · rw [if_pos g]
          have := hb.1 g
          omega
        · rw [if_neg g]
          have := hb.2 (by omega)
          omega
      · exact Or.inr ⟨by omega, by rw [show n + 1 - 1 = n by omega]⟩
