/-! ===== the law: kept rows, means, the second checksum ===== -/
theorem cw_116_100 : wcV 116 0 100 6 0 0 = true := by decide +kernel
theorem cw_116_91 : wcV 116 0 91 6 2 2 = true := by decide +kernel
theorem cw_116_92 : wcV 116 0 92 6 1 1 = true := by decide +kernel
theorem cw_116_93 : wcV 116 0 93 6 1 1 = true := by decide +kernel
theorem cw_116_95 : wcV 116 0 95 6 1 1 = true := by decide +kernel
theorem cw_116_96 : wcV 116 0 96 6 2 2 = true := by decide +kernel
theorem cw_116_97 : wcV 116 0 97 6 2 2 = true := by decide +kernel
set_option maxRecDepth 100000 in
theorem t_k1 {E : mE} {σ : wSt} {T : Nat} (hE : wE E) (hW : NWd σ T) (hN : NTy T σ) {P : Option wV → wSt → Prop} {d q : Int} (hq1 : 0 ≤ q) (hq2 : q < gv σ T 11) (hq3 : q < 100) (g1 : 0 < q → rd σ (T + 23) 60 (q - 1) < rd σ (T + 23) 60 q) (g2 : gv σ (T + 1) 9 - max 0 (gv σ (T + 1) 9 - gv σ T 10) ≤ rd σ (T + 23) 60 q) (g3 : min 20 (rd σ (T + 14) 60 (rd σ (T + 23) 60 q)) = min (gv σ (T + 1) 12) 20) (g4 : 0 ≤ rd σ (T + 23) 60 q ∧ rd σ (T + 23) 60 q < gv σ (T + 1) 9) (g5 : gv σ (T + 1) 9 ≤ 60 ∧ 0 ≤ max 0 (gv σ (T + 1) 9 - gv σ T 10) ∧ max 0 (gv σ (T + 1) 9 - gv σ T 10) ≤ 60) (kont : Bt E 116 1085 [wr 0, wr 2, wx, wx, wl d, wx, wi (gv σ (T + 1) 9), wi (min (gv σ (T + 1) 12) 20), wi (max 0 (gv σ (T + 1) 9 - gv σ T 10)), wi (gv σ T 11), wx, wx, wx, wx, wx, wx, wi q, wi (rd σ (T + 23) 60 q), wx, wx, wx] [] σ P) : Bt E 116 1031 [wr 0, wr 2, wx, wx, wl d, wx, wi (gv σ (T + 1) 9), wi (min (gv σ (T + 1) 12) 20), wi (max 0 (gv σ (T + 1) 9 - gv σ T 10)), wi (gv σ T 11), wx, wx, wx, wx, wx, wx, wi q, wx, wx, wx, wx] [] σ P := by
  refine B_aloadn rfl my_116 rfl ?_
  refine B_iload rfl my_116 rfl ?_
  refine B_cV hE.1 rfl rfl cw_116_95 (as := [wi q]) (rest := []) rfl (Nat.le_of_ble_eq_true rfl) (k_kept hE hW (by omega) (by omega)) (fun vo s9 hq => ?_)
  obtain ⟨rfl, rfl⟩ := hq
  show Bt E 116 1037 [wr 0, wr 2, wx, wx, wl d, wx, wi (gv σ (T + 1) 9), wi (min (gv σ (T + 1) 12) 20), wi (max 0 (gv σ (T + 1) 9 - gv σ T 10)), wi (gv σ T 11), wx, wx, wx, wx, wx, wx, wi q, wx, wx, wx, wx] [wi (rd σ (T + 23) 60 q)] σ _
  refine B_top (fun r1 => ?_)
  refine B_istore rfl my_116 (by decide) rfl (show _ = [wr 0, wr 2, wx, wx, wl d, wx, wi (gv σ (T + 1) 9), wi (min (gv σ (T + 1) 12) 20), wi (max 0 (gv σ (T + 1) 9 - gv σ T 10)), wi (gv σ T 11), wx, wx, wx, wx, wx, wx, wi q, wi (rd σ (T + 23) 60 q), wx, wx, wx] from rfl) ?_
  refine B_iload rfl my_116 rfl ?_
  refine B_if_le rfl my_116 rfl (tgt := 1057) (nx := 1044) rfl rfl (fun c2 => ?_) (fun c2 => ?_)
  · refine B_iload rfl my_116 rfl ?_
    refine B_iload rfl my_116 rfl ?_
    refine B_iload rfl my_116 rfl ?_
    refine B_isub rfl my_116 (by omega) (by omega) ?_
    refine B_ic_lt rfl my_116 rfl (tgt := 1083) (nx := 1067) rfl rfl (fun c3 => ?_) (fun c3 => ?_)
    · refine B_iconst rfl my_116 (by decide) ?_
      exfalso
      omega
    · refine B_bipush rfl my_116 (n := 20) rfl ?_
      refine B_aloadn rfl my_116 rfl ?_
      refine B_iload rfl my_116 rfl ?_
      refine B_cV hE.1 rfl rfl cw_116_87 (as := [wi (rd σ (T + 23) 60 q)]) (rest := [wi 20]) rfl (Nat.le_of_ble_eq_true rfl) (k_width hE hW (by omega) (by omega)) (fun vo s9 hq => ?_)
      obtain ⟨rfl, rfl⟩ := hq
      show Bt E 116 1075 [wr 0, wr 2, wx, wx, wl d, wx, wi (gv σ (T + 1) 9), wi (min (gv σ (T + 1) 12) 20), wi (max 0 (gv σ (T + 1) 9 - gv σ T 10)), wi (gv σ T 11), wx, wx, wx, wx, wx, wx, wi q, wi (rd σ (T + 23) 60 q), wx, wx, wx] [wi (rd σ (T + 14) 60 (rd σ (T + 23) 60 q)), wi 20] σ _
      refine B_top (fun r4 => ?_)
      refine B_min rfl (show wsp 116 0 = true from by decide +kernel) ?_
      refine B_iload rfl my_116 rfl ?_
      refine B_ic_eq rfl my_116 rfl (tgt := 1085) (nx := 1083) rfl rfl (fun c5 => ?_) (fun c5 => ?_)
      · exact kont
      · refine B_iconst rfl my_116 (by decide) ?_
        exfalso
        omega
  · refine B_iload rfl my_116 rfl ?_
    refine B_aloadn rfl my_116 rfl ?_
    refine B_iload rfl my_116 rfl ?_
    refine B_iconst rfl my_116 (by decide) ?_
    refine B_isub rfl my_116 (by omega) (by omega) ?_
    refine B_cV hE.1 rfl rfl cw_116_95 (as := [wi (q - 1)]) (rest := [wi (rd σ (T + 23) 60 q)]) rfl (Nat.le_of_ble_eq_true rfl) (k_kept hE hW (by omega) (by omega)) (fun vo s9 hq => ?_)
    obtain ⟨rfl, rfl⟩ := hq
    show Bt E 116 1054 [wr 0, wr 2, wx, wx, wl d, wx, wi (gv σ (T + 1) 9), wi (min (gv σ (T + 1) 12) 20), wi (max 0 (gv σ (T + 1) 9 - gv σ T 10)), wi (gv σ T 11), wx, wx, wx, wx, wx, wx, wi q, wi (rd σ (T + 23) 60 q), wx, wx, wx] [wi (rd σ (T + 23) 60 (q - 1)), wi (rd σ (T + 23) 60 q)] σ _
    refine B_top (fun r6 => ?_)
    refine B_ic_le rfl my_116 rfl (tgt := 1083) (nx := 1057) rfl rfl (fun c7 => ?_) (fun c7 => ?_)
    · refine B_iconst rfl my_116 (by decide) ?_
      exfalso
      omega
    · refine B_iload rfl my_116 rfl ?_
      refine B_iload rfl my_116 rfl ?_
      refine B_iload rfl my_116 rfl ?_
      refine B_isub rfl my_116 (by omega) (by omega) ?_
      refine B_ic_lt rfl my_116 rfl (tgt := 1083) (nx := 1067) rfl rfl (fun c8 => ?_) (fun c8 => ?_)
      · refine B_iconst rfl my_116 (by decide) ?_
        exfalso
        omega
      · refine B_bipush rfl my_116 (n := 20) rfl ?_
        refine B_aloadn rfl my_116 rfl ?_
        refine B_iload rfl my_116 rfl ?_
        refine B_cV hE.1 rfl rfl cw_116_87 (as := [wi (rd σ (T + 23) 60 q)]) (rest := [wi 20]) rfl (Nat.le_of_ble_eq_true rfl) (k_width hE hW (by omega) (by omega)) (fun vo s9 hq => ?_)
        obtain ⟨rfl, rfl⟩ := hq
        show Bt E 116 1075 [wr 0, wr 2, wx, wx, wl d, wx, wi (gv σ (T + 1) 9), wi (min (gv σ (T + 1) 12) 20), wi (max 0 (gv σ (T + 1) 9 - gv σ T 10)), wi (gv σ T 11), wx, wx, wx, wx, wx, wx, wi q, wi (rd σ (T + 23) 60 q), wx, wx, wx] [wi (rd σ (T + 14) 60 (rd σ (T + 23) 60 q)), wi 20] σ _
        refine B_top (fun r9 => ?_)
        refine B_min rfl (show wsp 116 0 = true from by decide +kernel) ?_
        refine B_iload rfl my_116 rfl ?_
        refine B_ic_eq rfl my_116 rfl (tgt := 1085) (nx := 1083) rfl rfl (fun c10 => ?_) (fun c10 => ?_)
        · exact kont
        · refine B_iconst rfl my_116 (by decide) ?_
          exfalso
          omega
set_option maxRecDepth 100000 in
theorem l_kf {E : mE} {σ : wSt} {T : Nat} (hE : wE E) (hW : NWd σ T) (hN : NTy T σ) {P : Option wV → wSt → Prop} {d q : Int} (hq1 : 0 ≤ q) (hq2 : q < gv σ T 11) (g5 : ∀ k, 0 ≤ k → k < gv σ (T + 16) 3 → rd σ (T + 17) 561 k ≠ rd σ (T + 23) 60 q) (kont : Bt E 116 1118 [wr 0, wr 2, wx, wx, wl d, wx, wi (gv σ (T + 1) 9), wi (min (gv σ (T + 1) 12) 20), wi (max 0 (gv σ (T + 1) 9 - gv σ T 10)), wi (gv σ T 11), wx, wx, wx, wx, wx, wx, wi q, wi (rd σ (T + 23) 60 q), wx, wx, wx] [] σ P) : ∀ (k : Nat) (n : Int), 0 ≤ n → (gv σ (T + 16) 3 - n).toNat ≤ k → Bt E 116 1088 [wr 0, wr 2, wx, wx, wl d, wx, wi (gv σ (T + 1) 9), wi (min (gv σ (T + 1) 12) 20), wi (max 0 (gv σ (T + 1) 9 - gv σ T 10)), wi (gv σ T 11), wx, wx, wx, wx, wx, wx, wi q, wi (rd σ (T + 23) 60 q), wi n, wx, wx] [] σ P := by
  intro k
  induction k with
  | zero =>
    intro n h1 hm
    have hT : Tb T := hW.tb
    have hS := hW.2.2.2.2.1
    refine B_rng 6 rfl (fun ha6 => ?_)
    refine B_rng 7 rfl (fun ha7 => ?_)
    refine B_rng 8 rfl (fun ha8 => ?_)
    refine B_rng 9 rfl (fun ha9 => ?_)
    refine B_rng 16 rfl (fun ha16 => ?_)
    refine B_rng 17 rfl (fun ha17 => ?_)
    refine B_rng 18 rfl (fun ha18 => ?_)
    refine B_iload rfl my_116 rfl ?_
    refine B_aloadn rfl my_116 rfl ?_
    refine B_iconst rfl my_116 (by decide) ?_
    refine B_cV hE.1 rfl rfl cw_116_86 (as := [wi 4]) (rest := [wi n]) rfl (Nat.le_of_ble_eq_true rfl) (k_many4 hE hW) (fun vo s9 hq => ?_)
    obtain ⟨rfl, rfl⟩ := hq
    show Bt E 116 1095 [wr 0, wr 2, wx, wx, wl d, wx, wi (gv σ (T + 1) 9), wi (min (gv σ (T + 1) 12) 20), wi (max 0 (gv σ (T + 1) 9 - gv σ T 10)), wi (gv σ T 11), wx, wx, wx, wx, wx, wx, wi q, wi (rd σ (T + 23) 60 q), wi n, wx, wx] [wi (gv σ (T + 16) 3), wi n] σ _
    refine B_top (fun r1 => ?_)
    refine B_ic_ge rfl my_116 rfl (tgt := 1118) (nx := 1098) rfl rfl (fun c2 => ?_) (fun c2 => ?_)
    · refine B_loc (l' := [wr 0, wr 2, wx, wx, wl d, wx, wi (gv σ (T + 1) 9), wi (min (gv σ (T + 1) 12) 20), wi (max 0 (gv σ (T + 1) 9 - gv σ T 10)), wi (gv σ T 11), wx, wx, wx, wx, wx, wx, wi q, wi (rd σ (T + 23) 60 q), wx, wx, wx]) ⟨Or.inl rfl, Or.inl rfl, Or.inl rfl, Or.inl rfl, Or.inl rfl, Or.inl rfl, Or.inl rfl, Or.inl rfl, Or.inl rfl, Or.inl rfl, Or.inl rfl, Or.inl rfl, Or.inl rfl, Or.inl rfl, Or.inl rfl, Or.inl rfl, Or.inl rfl, Or.inl rfl, Or.inr rfl, Or.inl rfl, Or.inl rfl, trivial⟩ ?_
      exact kont
    · exact absurd hm (by omega)
  | succ k ih =>
    intro n h1 hm
    have hT : Tb T := hW.tb
    have hS := hW.2.2.2.2.1
    refine B_rng 6 rfl (fun ha6 => ?_)
    refine B_rng 7 rfl (fun ha7 => ?_)
    refine B_rng 8 rfl (fun ha8 => ?_)
    refine B_rng 9 rfl (fun ha9 => ?_)
    refine B_rng 16 rfl (fun ha16 => ?_)
    refine B_rng 17 rfl (fun ha17 => ?_)
    refine B_rng 18 rfl (fun ha18 => ?_)
    refine B_iload rfl my_116 rfl ?_
    refine B_aloadn rfl my_116 rfl ?_
    refine B_iconst rfl my_116 (by decide) ?_
    refine B_cV hE.1 rfl rfl cw_116_86 (as := [wi 4]) (rest := [wi n]) rfl (Nat.le_of_ble_eq_true rfl) (k_many4 hE hW) (fun vo s9 hq => ?_)
    obtain ⟨rfl, rfl⟩ := hq
    show Bt E 116 1095 [wr 0, wr 2, wx, wx, wl d, wx, wi (gv σ (T + 1) 9), wi (min (gv σ (T + 1) 12) 20), wi (max 0 (gv σ (T + 1) 9 - gv σ T 10)), wi (gv σ T 11), wx, wx, wx, wx, wx, wx, wi q, wi (rd σ (T + 23) 60 q), wi n, wx, wx] [wi (gv σ (T + 16) 3), wi n] σ _
    refine B_top (fun r1 => ?_)
    refine B_ic_ge rfl my_116 rfl (tgt := 1118) (nx := 1098) rfl rfl (fun c2 => ?_) (fun c2 => ?_)
    · refine B_loc (l' := [wr 0, wr 2, wx, wx, wl d, wx, wi (gv σ (T + 1) 9), wi (min (gv σ (T + 1) 12) 20), wi (max 0 (gv σ (T + 1) 9 - gv σ T 10)), wi (gv σ T 11), wx, wx, wx, wx, wx, wx, wi q, wi (rd σ (T + 23) 60 q), wx, wx, wx]) ⟨Or.inl rfl, Or.inl rfl, Or.inl rfl, Or.inl rfl, Or.inl rfl, Or.inl rfl, Or.inl rfl, Or.inl rfl, Or.inl rfl, Or.inl rfl, Or.inl rfl, Or.inl rfl, Or.inl rfl, Or.inl rfl, Or.inl rfl, Or.inl rfl, Or.inl rfl, Or.inl rfl, Or.inr rfl, Or.inl rfl, Or.inl rfl, trivial⟩ ?_
      exact kont
    · refine B_aloadn rfl my_116 rfl ?_
      refine B_iload rfl my_116 rfl ?_
      refine B_iconst rfl my_116 (by decide) ?_
      refine B_cV hE.1 rfl rfl cw_116_94 (as := [wi n, wi 0]) (rest := []) rfl (Nat.le_of_ble_eq_true rfl) (k_fault0 hE hW (by omega) (by omega)) (fun vo s9 hq => ?_)
      obtain ⟨rfl, rfl⟩ := hq
      show Bt E 116 1105 [wr 0, wr 2, wx, wx, wl d, wx, wi (gv σ (T + 1) 9), wi (min (gv σ (T + 1) 12) 20), wi (max 0 (gv σ (T + 1) 9 - gv σ T 10)), wi (gv σ T 11), wx, wx, wx, wx, wx, wx, wi q, wi (rd σ (T + 23) 60 q), wi n, wx, wx] [wi (rd σ (T + 17) 561 n)] σ _
      refine B_top (fun r3 => ?_)
      refine B_iload rfl my_116 rfl ?_
      refine B_ic_ne rfl my_116 rfl (tgt := 1112) (nx := 1110) rfl rfl (fun c4 => ?_) (fun c4 => ?_)
      · refine B_iinc rfl my_116 (by decide) rfl rfl rfl (by omega) (by omega) (show _ = [wr 0, wr 2, wx, wx, wl d, wx, wi (gv σ (T + 1) 9), wi (min (gv σ (T + 1) 12) 20), wi (max 0 (gv σ (T + 1) 9 - gv σ T 10)), wi (gv σ T 11), wx, wx, wx, wx, wx, wx, wi q, wi (rd σ (T + 23) 60 q), wi (n + 1), wx, wx] from rfl) ?_
        refine B_goto rfl my_116 rfl (tgt := 1088) rfl ?_
        exact ih _ (by omega) (by omega)
      · refine B_iconst rfl my_116 (by decide) ?_
        have g9 := g5 n h1 (by omega)
        exfalso
        omega
set_option maxRecDepth 100000 in
theorem t_kf {E : mE} {σ : wSt} {T : Nat} (hE : wE E) (hW : NWd σ T) (hN : NTy T σ) {P : Option wV → wSt → Prop} {d q : Int} (hq1 : 0 ≤ q) (hq2 : q < gv σ T 11) (g5 : ∀ k, 0 ≤ k → k < gv σ (T + 16) 3 → rd σ (T + 17) 561 k ≠ rd σ (T + 23) 60 q) (kont : Bt E 116 1118 [wr 0, wr 2, wx, wx, wl d, wx, wi (gv σ (T + 1) 9), wi (min (gv σ (T + 1) 12) 20), wi (max 0 (gv σ (T + 1) 9 - gv σ T 10)), wi (gv σ T 11), wx, wx, wx, wx, wx, wx, wi q, wi (rd σ (T + 23) 60 q), wx, wx, wx] [] σ P) : Bt E 116 1085 [wr 0, wr 2, wx, wx, wl d, wx, wi (gv σ (T + 1) 9), wi (min (gv σ (T + 1) 12) 20), wi (max 0 (gv σ (T + 1) 9 - gv σ T 10)), wi (gv σ T 11), wx, wx, wx, wx, wx, wx, wi q, wi (rd σ (T + 23) 60 q), wx, wx, wx] [] σ P := by
  refine B_iconst rfl my_116 (by decide) ?_
  refine B_istore rfl my_116 (by decide) rfl (show _ = [wr 0, wr 2, wx, wx, wl d, wx, wi (gv σ (T + 1) 9), wi (min (gv σ (T + 1) 12) 20), wi (max 0 (gv σ (T + 1) 9 - gv σ T 10)), wi (gv σ T 11), wx, wx, wx, wx, wx, wx, wi q, wi (rd σ (T + 23) 60 q), wi 0, wx, wx] from rfl) ?_
  exact l_kf hE hW hN hq1 hq2 g5 kont _ 0 (by omega) (Nat.le_refl _)
set_option maxRecDepth 100000 in
theorem t_kc {E : mE} {σ : wSt} {T : Nat} (hE : wE E) (hW : NWd σ T) (hN : NTy T σ) {P : Option wV → wSt → Prop} {d q : Int} (hq1 : 0 ≤ q) (hq2 : q < gv σ T 11) {c : Int} (hc1 : 0 ≤ c) (hc2 : c < min (gv σ (T + 1) 12) 20) (hr1 : 0 ≤ rd σ (T + 23) 60 q) (hr2 : rd σ (T + 23) 60 q < gv σ (T + 1) 9) (hc3 : c < min (rd σ (T + 14) 60 (rd σ (T + 23) 60 q)) 20) (kz : rd σ (T + 6) 501 (ca σ T (rd σ (T + 23) 60 q) c) = 0 → vi σ T q c = 0) (kf : rd σ (T + 6) 501 (ca σ T (rd σ (T + 23) 60 q) c) ≠ 0 → fil σ T q c) (kont : Bt E 116 1121 [wr 0, wr 2, wx, wx, wl d, wx, wi (gv σ (T + 1) 9), wi (min (gv σ (T + 1) 12) 20), wi (max 0 (gv σ (T + 1) 9 - gv σ T 10)), wi (gv σ T 11), wx, wx, wx, wx, wx, wx, wi q, wi (rd σ (T + 23) 60 q), wi (c + 1), wx, wx] [] σ P) : Bt E 116 1128 [wr 0, wr 2, wx, wx, wl d, wx, wi (gv σ (T + 1) 9), wi (min (gv σ (T + 1) 12) 20), wi (max 0 (gv σ (T + 1) 9 - gv σ T 10)), wi (gv σ T 11), wx, wx, wx, wx, wx, wx, wi q, wi (rd σ (T + 23) 60 q), wi c, wx, wx] [] σ P := by
  have hw20 : min (gv σ (T + 1) 12) 20 ≤ 20 := by omega
  refine B_aloadn rfl my_116 rfl ?_
  refine B_iload rfl my_116 rfl ?_
  refine B_iload rfl my_116 rfl ?_
  refine B_cV hE.1 rfl rfl cw_116_96 (as := [wi q, wi c]) (rest := []) rfl (Nat.le_of_ble_eq_true rfl) (k_value hE hW (by omega) (by omega) (by omega) (by omega)) (fun vo s9 hq => ?_)
  obtain ⟨rfl, rfl⟩ := hq
  show Bt E 116 1136 [wr 0, wr 2, wx, wx, wl d, wx, wi (gv σ (T + 1) 9), wi (min (gv σ (T + 1) 12) 20), wi (max 0 (gv σ (T + 1) 9 - gv σ T 10)), wi (gv σ T 11), wx, wx, wx, wx, wx, wx, wi q, wi (rd σ (T + 23) 60 q), wi c, wx, wx] [wi (vi σ T q c)] σ _
  refine B_top (fun r1 => ?_)
  refine B_istore rfl my_116 (by decide) rfl (show _ = [wr 0, wr 2, wx, wx, wl d, wx, wi (gv σ (T + 1) 9), wi (min (gv σ (T + 1) 12) 20), wi (max 0 (gv σ (T + 1) 9 - gv σ T 10)), wi (gv σ T 11), wx, wx, wx, wx, wx, wx, wi q, wi (rd σ (T + 23) 60 q), wi c, wi (vi σ T q c), wx] from rfl) ?_
  refine B_aloadn rfl my_116 rfl ?_
  refine B_iload rfl my_116 rfl ?_
  refine B_iload rfl my_116 rfl ?_
  refine B_iconst rfl my_116 (by decide) ?_
  refine B_cV hE.1 rfl rfl cw_116_88 (as := [wi (rd σ (T + 23) 60 q), wi c, wi 2]) (rest := []) rfl (Nat.le_of_ble_eq_true rfl) (k_cell2 hE hW hr1 hr2 hc1 hc3) (fun vo s9 hq => ?_)
  obtain ⟨rfl, rfl⟩ := hq
  show Bt E 116 1147 [wr 0, wr 2, wx, wx, wl d, wx, wi (gv σ (T + 1) 9), wi (min (gv σ (T + 1) 12) 20), wi (max 0 (gv σ (T + 1) 9 - gv σ T 10)), wi (gv σ T 11), wx, wx, wx, wx, wx, wx, wi q, wi (rd σ (T + 23) 60 q), wi c, wi (vi σ T q c), wx] [wi (rd σ (T + 6) 501 (ca σ T (rd σ (T + 23) 60 q) c))] σ _
  refine B_top (fun r2 => ?_)
  refine B_if_ne rfl my_116 rfl (tgt := 1154) (nx := 1150) rfl rfl (fun c3 => ?_) (fun c3 => ?_)
  · refine B_iconst rfl my_116 (by decide) ?_
    refine B_istore rfl my_116 (by decide) rfl (show _ = [wr 0, wr 2, wx, wx, wl d, wx, wi (gv σ (T + 1) 9), wi (min (gv σ (T + 1) 12) 20), wi (max 0 (gv σ (T + 1) 9 - gv σ T 10)), wi (gv σ T 11), wx, wx, wx, wx, wx, wx, wi q, wi (rd σ (T + 23) 60 q), wi c, wi (vi σ T q c), wi 0] from rfl) ?_
    refine B_iload rfl my_116 rfl ?_
    refine B_if_eq rfl my_116 rfl (tgt := 1170) (nx := 1162) rfl rfl (fun _ => ?_) (fun c9 => absurd c9 (by decide))
    show Bt E 116 1170 [wr 0, wr 2, wx, wx, wl d, wx, wi (gv σ (T + 1) 9), wi (min (gv σ (T + 1) 12) 20), wi (max 0 (gv σ (T + 1) 9 - gv σ T 10)), wi (gv σ T 11), wx, wx, wx, wx, wx, wx, wi q, wi (rd σ (T + 23) 60 q), wi c, wi (vi σ T q c), wi 0] [] σ _
    refine B_iload rfl my_116 rfl ?_
    refine B_aloadn rfl my_116 rfl ?_
    refine B_iload rfl my_116 rfl ?_
    refine B_iconst rfl my_116 (by decide) ?_
    refine B_cV hE.1 rfl rfl cw_116_91 (as := [wi c, wi 0]) (rest := [wi (vi σ T q c)]) rfl (Nat.le_of_ble_eq_true rfl) (k_extreme0 hE hW (by omega) (by omega)) (fun vo s9 hq => ?_)
    obtain ⟨e1, rfl, he1, rfl⟩ := hq
    have hx1 := he1.1 q hq1 hq2 (kf (by omega))
    show Bt E 116 1179 [wr 0, wr 2, wx, wx, wl d, wx, wi (gv σ (T + 1) 9), wi (min (gv σ (T + 1) 12) 20), wi (max 0 (gv σ (T + 1) 9 - gv σ T 10)), wi (gv σ T 11), wx, wx, wx, wx, wx, wx, wi q, wi (rd σ (T + 23) 60 q), wi c, wi (vi σ T q c), wi 0] [wi e1, wi (vi σ T q c)] σ _
    refine B_top (fun r5 => ?_)
    refine B_ic_lt rfl my_116 rfl (tgt := 1218) (nx := 1182) rfl rfl (fun c6 => ?_) (fun c6 => ?_)
    · refine B_iconst rfl my_116 (by decide) ?_
      exfalso
      omega
    · refine B_iload rfl my_116 rfl ?_
      refine B_aloadn rfl my_116 rfl ?_
      refine B_iload rfl my_116 rfl ?_
      refine B_iconst rfl my_116 (by decide) ?_
      refine B_cV hE.1 rfl rfl cw_116_91 (as := [wi c, wi 1]) (rest := [wi (vi σ T q c)]) rfl (Nat.le_of_ble_eq_true rfl) (k_extreme1 hE hW (by omega) (by omega)) (fun vo s9 hq => ?_)
      obtain ⟨e2, rfl, he2, rfl⟩ := hq
      have hx2 := he2.1 q hq1 hq2 (kf (by omega))
      show Bt E 116 1191 [wr 0, wr 2, wx, wx, wl d, wx, wi (gv σ (T + 1) 9), wi (min (gv σ (T + 1) 12) 20), wi (max 0 (gv σ (T + 1) 9 - gv σ T 10)), wi (gv σ T 11), wx, wx, wx, wx, wx, wx, wi q, wi (rd σ (T + 23) 60 q), wi c, wi (vi σ T q c), wi 0] [wi e2, wi (vi σ T q c)] σ _
      refine B_top (fun r7 => ?_)
      refine B_ic_gt rfl my_116 rfl (tgt := 1218) (nx := 1194) rfl rfl (fun c8 => ?_) (fun c8 => ?_)
      · refine B_iconst rfl my_116 (by decide) ?_
        exfalso
        omega
      · refine B_aloadn rfl my_116 rfl ?_
        refine B_iload rfl my_116 rfl ?_
        refine B_iload rfl my_116 rfl ?_
        refine B_cV hE.1 rfl rfl cw_116_97 (as := [wi c, wi (vi σ T q c)]) (rest := []) rfl (Nat.le_of_ble_eq_true rfl) (k_find hE hW (by omega) (by omega)) (fun vo s9 hq => ?_)
        obtain ⟨x9, rfl, hz10, rfl⟩ := hq
        show Bt E 116 1202 [wr 0, wr 2, wx, wx, wl d, wx, wi (gv σ (T + 1) 9), wi (min (gv σ (T + 1) 12) 20), wi (max 0 (gv σ (T + 1) 9 - gv σ T 10)), wi (gv σ T 11), wx, wx, wx, wx, wx, wx, wi q, wi (rd σ (T + 23) 60 q), wi c, wi (vi σ T q c), wi 0] [wi x9] σ _
        refine B_top (fun r11 => ?_)
        have hy12 := hz10 q hq1 hq2 (kf (by omega)) rfl
        refine B_if_lt rfl my_116 rfl (tgt := 1218) (nx := 1205) rfl rfl (fun c13 => ?_) (fun c13 => ?_)
        · refine B_iconst rfl my_116 (by decide) ?_
          exfalso
          omega
        · refine B_aloadn rfl my_116 rfl ?_
          refine B_iload rfl my_116 rfl ?_
          refine B_iload rfl my_116 rfl ?_
          refine B_cV hE.1 rfl rfl cw_116_97 (as := [wi c, wi (vi σ T q c)]) (rest := []) rfl (Nat.le_of_ble_eq_true rfl) (k_find hE hW (by omega) (by omega)) (fun vo s9 hq => ?_)
          obtain ⟨x14, rfl, hz15, rfl⟩ := hq
          show Bt E 116 1213 [wr 0, wr 2, wx, wx, wl d, wx, wi (gv σ (T + 1) 9), wi (min (gv σ (T + 1) 12) 20), wi (max 0 (gv σ (T + 1) 9 - gv σ T 10)), wi (gv σ T 11), wx, wx, wx, wx, wx, wx, wi q, wi (rd σ (T + 23) 60 q), wi c, wi (vi σ T q c), wi 0] [wi x14] σ _
          refine B_top (fun r16 => ?_)
          have hy17 := hz15 q hq1 hq2 (kf (by omega)) rfl
          refine B_iload rfl my_116 rfl ?_
          refine B_ic_le rfl my_116 rfl (tgt := 1220) (nx := 1218) rfl rfl (fun c18 => ?_) (fun c18 => ?_)
          · refine B_iinc rfl my_116 (by decide) rfl rfl rfl (by omega) (by omega) (show _ = [wr 0, wr 2, wx, wx, wl d, wx, wi (gv σ (T + 1) 9), wi (min (gv σ (T + 1) 12) 20), wi (max 0 (gv σ (T + 1) 9 - gv σ T 10)), wi (gv σ T 11), wx, wx, wx, wx, wx, wx, wi q, wi (rd σ (T + 23) 60 q), wi (c + 1), wi (vi σ T q c), wi 0] from rfl) ?_
            refine B_goto rfl my_116 rfl (tgt := 1121) rfl ?_
            refine B_loc (l' := [wr 0, wr 2, wx, wx, wl d, wx, wi (gv σ (T + 1) 9), wi (min (gv σ (T + 1) 12) 20), wi (max 0 (gv σ (T + 1) 9 - gv σ T 10)), wi (gv σ T 11), wx, wx, wx, wx, wx, wx, wi q, wi (rd σ (T + 23) 60 q), wi (c + 1), wx, wx]) ⟨Or.inl rfl, Or.inl rfl, Or.inl rfl, Or.inl rfl, Or.inl rfl, Or.inl rfl, Or.inl rfl, Or.inl rfl, Or.inl rfl, Or.inl rfl, Or.inl rfl, Or.inl rfl, Or.inl rfl, Or.inl rfl, Or.inl rfl, Or.inl rfl, Or.inl rfl, Or.inl rfl, Or.inl rfl, Or.inr rfl, Or.inr rfl, trivial⟩ ?_
            exact kont
          · refine B_iconst rfl my_116 (by decide) ?_
            exfalso
            omega
  · refine B_iconst rfl my_116 (by decide) ?_
    refine B_goto rfl my_116 rfl (tgt := 1155) rfl ?_
    refine B_istore rfl my_116 (by decide) rfl (show _ = [wr 0, wr 2, wx, wx, wl d, wx, wi (gv σ (T + 1) 9), wi (min (gv σ (T + 1) 12) 20), wi (max 0 (gv σ (T + 1) 9 - gv σ T 10)), wi (gv σ T 11), wx, wx, wx, wx, wx, wx, wi q, wi (rd σ (T + 23) 60 q), wi c, wi (vi σ T q c), wi 1] from rfl) ?_
    refine B_iload rfl my_116 rfl ?_
    refine B_if_eq rfl my_116 rfl (tgt := 1170) (nx := 1162) rfl rfl (fun c9 => absurd c9 (by decide)) (fun _ => ?_)
    show Bt E 116 1162 [wr 0, wr 2, wx, wx, wl d, wx, wi (gv σ (T + 1) 9), wi (min (gv σ (T + 1) 12) 20), wi (max 0 (gv σ (T + 1) 9 - gv σ T 10)), wi (gv σ T 11), wx, wx, wx, wx, wx, wx, wi q, wi (rd σ (T + 23) 60 q), wi c, wi (vi σ T q c), wi 1] [] σ _
    refine B_iload rfl my_116 rfl ?_
    refine B_if_eq rfl my_116 rfl (tgt := 1220) (nx := 1167) rfl rfl (fun c20 => ?_) (fun c20 => ?_)
    · refine B_iinc rfl my_116 (by decide) rfl rfl rfl (by omega) (by omega) (show _ = [wr 0, wr 2, wx, wx, wl d, wx, wi (gv σ (T + 1) 9), wi (min (gv σ (T + 1) 12) 20), wi (max 0 (gv σ (T + 1) 9 - gv σ T 10)), wi (gv σ T 11), wx, wx, wx, wx, wx, wx, wi q, wi (rd σ (T + 23) 60 q), wi (c + 1), wi (vi σ T q c), wi 1] from rfl) ?_
      refine B_goto rfl my_116 rfl (tgt := 1121) rfl ?_
      refine B_loc (l' := [wr 0, wr 2, wx, wx, wl d, wx, wi (gv σ (T + 1) 9), wi (min (gv σ (T + 1) 12) 20), wi (max 0 (gv σ (T + 1) 9 - gv σ T 10)), wi (gv σ T 11), wx, wx, wx, wx, wx, wx, wi q, wi (rd σ (T + 23) 60 q), wi (c + 1), wx, wx]) ⟨Or.inl rfl, Or.inl rfl, Or.inl rfl, Or.inl rfl, Or.inl rfl, Or.inl rfl, Or.inl rfl, Or.inl rfl, Or.inl rfl, Or.inl rfl, Or.inl rfl, Or.inl rfl, Or.inl rfl, Or.inl rfl, Or.inl rfl, Or.inl rfl, Or.inl rfl, Or.inl rfl, Or.inl rfl, Or.inr rfl, Or.inr rfl, trivial⟩ ?_
      exact kont
    · refine B_goto rfl my_116 rfl (tgt := 1218) rfl ?_
      refine B_iconst rfl my_116 (by decide) ?_
      exfalso
      omega
set_option maxRecDepth 100000 in
theorem l_kc {E : mE} {σ : wSt} {T : Nat} (hE : wE E) (hW : NWd σ T) (hN : NTy T σ) {P : Option wV → wSt → Prop} {d q : Int} (hq1 : 0 ≤ q) (hq2 : q < gv σ T 11) (hr1 : 0 ≤ rd σ (T + 23) 60 q) (hr2 : rd σ (T + 23) 60 q < gv σ (T + 1) 9) (hw : rd σ (T + 14) 60 (rd σ (T + 23) 60 q) = gv σ (T + 1) 12) (kont : Bt E 116 1226 [wr 0, wr 2, wx, wx, wl d, wx, wi (gv σ (T + 1) 9), wi (min (gv σ (T + 1) 12) 20), wi (max 0 (gv σ (T + 1) 9 - gv σ T 10)), wi (gv σ T 11), wx, wx, wx, wx, wx, wx, wi q, wi (rd σ (T + 23) 60 q), wx, wx, wx] [] σ P) : ∀ (k : Nat) (c : Int), 0 ≤ c → (20 - c).toNat ≤ k → Bt E 116 1121 [wr 0, wr 2, wx, wx, wl d, wx, wi (gv σ (T + 1) 9), wi (min (gv σ (T + 1) 12) 20), wi (max 0 (gv σ (T + 1) 9 - gv σ T 10)), wi (gv σ T 11), wx, wx, wx, wx, wx, wx, wi q, wi (rd σ (T + 23) 60 q), wi c, wx, wx] [] σ P := by
  intro k
  induction k with
  | zero =>
    intro c h1 hm
    have hT : Tb T := hW.tb
    have hS := hW.2.2.2.2.1
    refine B_rng 6 rfl (fun ha6 => ?_)
    refine B_rng 7 rfl (fun ha7 => ?_)
    refine B_rng 8 rfl (fun ha8 => ?_)
    refine B_rng 9 rfl (fun ha9 => ?_)
    refine B_rng 16 rfl (fun ha16 => ?_)
    refine B_rng 17 rfl (fun ha17 => ?_)
    refine B_rng 18 rfl (fun ha18 => ?_)
    refine B_iload rfl my_116 rfl ?_
    refine B_iload rfl my_116 rfl ?_
    refine B_ic_ge rfl my_116 rfl (tgt := 1226) (nx := 1128) rfl rfl (fun c1 => ?_) (fun c1 => ?_)
    · refine B_loc (l' := [wr 0, wr 2, wx, wx, wl d, wx, wi (gv σ (T + 1) 9), wi (min (gv σ (T + 1) 12) 20), wi (max 0 (gv σ (T + 1) 9 - gv σ T 10)), wi (gv σ T 11), wx, wx, wx, wx, wx, wx, wi q, wi (rd σ (T + 23) 60 q), wx, wx, wx]) ⟨Or.inl rfl, Or.inl rfl, Or.inl rfl, Or.inl rfl, Or.inl rfl, Or.inl rfl, Or.inl rfl, Or.inl rfl, Or.inl rfl, Or.inl rfl, Or.inl rfl, Or.inl rfl, Or.inl rfl, Or.inl rfl, Or.inl rfl, Or.inl rfl, Or.inl rfl, Or.inl rfl, Or.inr rfl, Or.inl rfl, Or.inl rfl, trivial⟩ ?_
      exact kont
    · exact absurd hm (by omega)
  | succ k ih =>
    intro c h1 hm
    have hT : Tb T := hW.tb
    have hS := hW.2.2.2.2.1
    refine B_rng 6 rfl (fun ha6 => ?_)
    refine B_rng 7 rfl (fun ha7 => ?_)
    refine B_rng 8 rfl (fun ha8 => ?_)
    refine B_rng 9 rfl (fun ha9 => ?_)
    refine B_rng 16 rfl (fun ha16 => ?_)
    refine B_rng 17 rfl (fun ha17 => ?_)
    refine B_rng 18 rfl (fun ha18 => ?_)
    refine B_iload rfl my_116 rfl ?_
    refine B_iload rfl my_116 rfl ?_
    refine B_ic_ge rfl my_116 rfl (tgt := 1226) (nx := 1128) rfl rfl (fun c1 => ?_) (fun c1 => ?_)
    · refine B_loc (l' := [wr 0, wr 2, wx, wx, wl d, wx, wi (gv σ (T + 1) 9), wi (min (gv σ (T + 1) 12) 20), wi (max 0 (gv σ (T + 1) 9 - gv σ T 10)), wi (gv σ T 11), wx, wx, wx, wx, wx, wx, wi q, wi (rd σ (T + 23) 60 q), wx, wx, wx]) ⟨Or.inl rfl, Or.inl rfl, Or.inl rfl, Or.inl rfl, Or.inl rfl, Or.inl rfl, Or.inl rfl, Or.inl rfl, Or.inl rfl, Or.inl rfl, Or.inl rfl, Or.inl rfl, Or.inl rfl, Or.inl rfl, Or.inl rfl, Or.inl rfl, Or.inl rfl, Or.inl rfl, Or.inr rfl, Or.inl rfl, Or.inl rfl, trivial⟩ ?_
      exact kont
    · have hc2 : c < min (gv σ (T + 1) 12) 20 := by omega
      have hc3 : c < min (rd σ (T + 14) 60 (rd σ (T + 23) 60 q)) 20 := by omega
      have gk := kp_ca hS h1 hc2 hq1 hq2
      have gc := ca_c hS.hI (r := rd σ (T + 23) 60 q) (c := c)
      have sk := hS.sk (ca σ T (rd σ (T + 23) 60 q) c) (by omega) (by omega)
      refine t_kc hE hW hN hq1 hq2 h1 hc2 hr1 hr2 hc3 (fun z => vi_empty hS (fun e => e (sk.2.2.2 z)) gk) (fun z e => z (sk.2.2.1 e)) (ih _ (by omega) (by omega))
set_option maxRecDepth 100000 in
theorem t_kcc {E : mE} {σ : wSt} {T : Nat} (hE : wE E) (hW : NWd σ T) (hN : NTy T σ) {P : Option wV → wSt → Prop} {d q : Int} (hq1 : 0 ≤ q) (hq2 : q < gv σ T 11) (hr1 : 0 ≤ rd σ (T + 23) 60 q) (hr2 : rd σ (T + 23) 60 q < gv σ (T + 1) 9) (hw : rd σ (T + 14) 60 (rd σ (T + 23) 60 q) = gv σ (T + 1) 12) (kont : Bt E 116 1226 [wr 0, wr 2, wx, wx, wl d, wx, wi (gv σ (T + 1) 9), wi (min (gv σ (T + 1) 12) 20), wi (max 0 (gv σ (T + 1) 9 - gv σ T 10)), wi (gv σ T 11), wx, wx, wx, wx, wx, wx, wi q, wi (rd σ (T + 23) 60 q), wx, wx, wx] [] σ P) : Bt E 116 1118 [wr 0, wr 2, wx, wx, wl d, wx, wi (gv σ (T + 1) 9), wi (min (gv σ (T + 1) 12) 20), wi (max 0 (gv σ (T + 1) 9 - gv σ T 10)), wi (gv σ T 11), wx, wx, wx, wx, wx, wx, wi q, wi (rd σ (T + 23) 60 q), wx, wx, wx] [] σ P := by
  refine B_iconst rfl my_116 (by decide) ?_
  refine B_istore rfl my_116 (by decide) rfl (show _ = [wr 0, wr 2, wx, wx, wl d, wx, wi (gv σ (T + 1) 9), wi (min (gv σ (T + 1) 12) 20), wi (max 0 (gv σ (T + 1) 9 - gv σ T 10)), wi (gv σ T 11), wx, wx, wx, wx, wx, wx, wi q, wi (rd σ (T + 23) 60 q), wi 0, wx, wx] from rfl) ?_
  exact l_kc hE hW hN hq1 hq2 hr1 hr2 hw kont _ 0 (by omega) (Nat.le_refl _)
set_option maxRecDepth 100000 in
theorem t_knext {E : mE} {σ : wSt} {T : Nat} (hE : wE E) (hW : NWd σ T) (hN : NTy T σ) {P : Option wV → wSt → Prop} {d q : Int} (hq1 : 0 ≤ q) (hq2 : q < gv σ T 11) (hq3 : q < 100) (kont : Bt E 116 1024 [wr 0, wr 2, wx, wx, wl d, wx, wi (gv σ (T + 1) 9), wi (min (gv σ (T + 1) 12) 20), wi (max 0 (gv σ (T + 1) 9 - gv σ T 10)), wi (gv σ T 11), wx, wx, wx, wx, wx, wx, wi (q + 1), wx, wx, wx, wx] [] σ P) : Bt E 116 1226 [wr 0, wr 2, wx, wx, wl d, wx, wi (gv σ (T + 1) 9), wi (min (gv σ (T + 1) 12) 20), wi (max 0 (gv σ (T + 1) 9 - gv σ T 10)), wi (gv σ T 11), wx, wx, wx, wx, wx, wx, wi q, wi (rd σ (T + 23) 60 q), wx, wx, wx] [] σ P := by
  refine B_iinc rfl my_116 (by decide) rfl rfl rfl (by omega) (by omega) (show _ = [wr 0, wr 2, wx, wx, wl d, wx, wi (gv σ (T + 1) 9), wi (min (gv σ (T + 1) 12) 20), wi (max 0 (gv σ (T + 1) 9 - gv σ T 10)), wi (gv σ T 11), wx, wx, wx, wx, wx, wx, wi (q + 1), wi (rd σ (T + 23) 60 q), wx, wx, wx] from rfl) ?_
  refine B_goto rfl my_116 rfl (tgt := 1024) rfl ?_
  refine B_loc (l' := [wr 0, wr 2, wx, wx, wl d, wx, wi (gv σ (T + 1) 9), wi (min (gv σ (T + 1) 12) 20), wi (max 0 (gv σ (T + 1) 9 - gv σ T 10)), wi (gv σ T 11), wx, wx, wx, wx, wx, wx, wi (q + 1), wx, wx, wx, wx]) ⟨Or.inl rfl, Or.inl rfl, Or.inl rfl, Or.inl rfl, Or.inl rfl, Or.inl rfl, Or.inl rfl, Or.inl rfl, Or.inl rfl, Or.inl rfl, Or.inl rfl, Or.inl rfl, Or.inl rfl, Or.inl rfl, Or.inl rfl, Or.inl rfl, Or.inl rfl, Or.inr rfl, Or.inl rfl, Or.inl rfl, Or.inl rfl, trivial⟩ ?_
  exact kont
set_option maxRecDepth 100000 in
theorem l_kept {E : mE} {σ : wSt} {T : Nat} (hE : wE E) (hW : NWd σ T) (hN : NTy T σ) {P : Option wV → wSt → Prop} {d : Int} (kont : Bt E 116 1232 [wr 0, wr 2, wx, wx, wl d, wx, wi (gv σ (T + 1) 9), wi (min (gv σ (T + 1) 12) 20), wi (max 0 (gv σ (T + 1) 9 - gv σ T 10)), wi (gv σ T 11), wx, wx, wx, wx, wx, wx, wx, wx, wx, wx, wx] [] σ P) : ∀ (k : Nat) (q : Int), 0 ≤ q → (gv σ T 11 - q).toNat ≤ k → Bt E 116 1024 [wr 0, wr 2, wx, wx, wl d, wx, wi (gv σ (T + 1) 9), wi (min (gv σ (T + 1) 12) 20), wi (max 0 (gv σ (T + 1) 9 - gv σ T 10)), wi (gv σ T 11), wx, wx, wx, wx, wx, wx, wi q, wx, wx, wx, wx] [] σ P := by
  intro k
  induction k with
  | zero =>
    intro q h1 hm
    have hT : Tb T := hW.tb
    have hS := hW.2.2.2.2.1
    refine B_rng 6 rfl (fun ha6 => ?_)
    refine B_rng 7 rfl (fun ha7 => ?_)
    refine B_rng 8 rfl (fun ha8 => ?_)
    refine B_rng 9 rfl (fun ha9 => ?_)
    refine B_rng 16 rfl (fun ha16 => ?_)
    refine B_iload rfl my_116 rfl ?_
    refine B_iload rfl my_116 rfl ?_
    refine B_ic_ge rfl my_116 rfl (tgt := 1232) (nx := 1031) rfl rfl (fun c1 => ?_) (fun c1 => ?_)
    · refine B_loc (l' := [wr 0, wr 2, wx, wx, wl d, wx, wi (gv σ (T + 1) 9), wi (min (gv σ (T + 1) 12) 20), wi (max 0 (gv σ (T + 1) 9 - gv σ T 10)), wi (gv σ T 11), wx, wx, wx, wx, wx, wx, wx, wx, wx, wx, wx]) ⟨Or.inl rfl, Or.inl rfl, Or.inl rfl, Or.inl rfl, Or.inl rfl, Or.inl rfl, Or.inl rfl, Or.inl rfl, Or.inl rfl, Or.inl rfl, Or.inl rfl, Or.inl rfl, Or.inl rfl, Or.inl rfl, Or.inl rfl, Or.inl rfl, Or.inr rfl, Or.inl rfl, Or.inl rfl, Or.inl rfl, Or.inl rfl, trivial⟩ ?_
      exact kont
    · exact absurd hm (by omega)
  | succ k ih =>
    intro q h1 hm
    have hT : Tb T := hW.tb
    have hS := hW.2.2.2.2.1
    refine B_rng 6 rfl (fun ha6 => ?_)
    refine B_rng 7 rfl (fun ha7 => ?_)
    refine B_rng 8 rfl (fun ha8 => ?_)
    refine B_rng 9 rfl (fun ha9 => ?_)
    refine B_rng 16 rfl (fun ha16 => ?_)
    refine B_iload rfl my_116 rfl ?_
    refine B_iload rfl my_116 rfl ?_
    refine B_ic_ge rfl my_116 rfl (tgt := 1232) (nx := 1031) rfl rfl (fun c1 => ?_) (fun c1 => ?_)
    · refine B_loc (l' := [wr 0, wr 2, wx, wx, wl d, wx, wi (gv σ (T + 1) 9), wi (min (gv σ (T + 1) 12) 20), wi (max 0 (gv σ (T + 1) 9 - gv σ T 10)), wi (gv σ T 11), wx, wx, wx, wx, wx, wx, wx, wx, wx, wx, wx]) ⟨Or.inl rfl, Or.inl rfl, Or.inl rfl, Or.inl rfl, Or.inl rfl, Or.inl rfl, Or.inl rfl, Or.inl rfl, Or.inl rfl, Or.inl rfl, Or.inl rfl, Or.inl rfl, Or.inl rfl, Or.inl rfl, Or.inl rfl, Or.inl rfl, Or.inr rfl, Or.inl rfl, Or.inl rfl, Or.inl rfl, Or.inl rfl, trivial⟩ ?_
      exact kont
    · have hq2 : q < gv σ T 11 := by omega
      have h0 := hS.hI.1
      have hd := hS.2.1.2.2
      obtain ⟨k1, k2, k3, k4, k5⟩ := hS.2.2.2.2.2
      obtain ⟨ka, ⟨kb, kc, kd⟩, ke⟩ := k4 q h1 hq2
      have hr1 : 0 ≤ rd σ (T + 23) 60 q := by omega
      have kcn := kp_cnt hS
      refine t_k1 hE hW hN h1 hq2 (by omega) (fun g => k5 q g hq2) (by omega) (by rw [kd]; omega) ⟨hr1, kc⟩ (by omega) (t_kf hE hW hN h1 hq2 ke (t_kcc hE hW hN h1 hq2 hr1 kc kd (t_knext hE hW hN h1 hq2 (by omega) (ih _ (by omega) (by omega)))))
set_option maxRecDepth 100000 in
theorem t_kept {E : mE} {σ : wSt} {T : Nat} (hE : wE E) (hW : NWd σ T) (hN : NTy T σ) {P : Option wV → wSt → Prop} {d : Int} (kont : Bt E 116 1232 [wr 0, wr 2, wx, wx, wl d, wx, wi (gv σ (T + 1) 9), wi (min (gv σ (T + 1) 12) 20), wi (max 0 (gv σ (T + 1) 9 - gv σ T 10)), wi (gv σ T 11), wx, wx, wx, wx, wx, wx, wx, wx, wx, wx, wx] [] σ P) : Bt E 116 1021 [wr 0, wr 2, wx, wx, wl d, wx, wi (gv σ (T + 1) 9), wi (min (gv σ (T + 1) 12) 20), wi (max 0 (gv σ (T + 1) 9 - gv σ T 10)), wi (gv σ T 11), wx, wx, wx, wx, wx, wx, wx, wx, wx, wx, wx] [] σ P := by
  refine B_iconst rfl my_116 (by decide) ?_
  refine B_istore rfl my_116 (by decide) rfl (show _ = [wr 0, wr 2, wx, wx, wl d, wx, wi (gv σ (T + 1) 9), wi (min (gv σ (T + 1) 12) 20), wi (max 0 (gv σ (T + 1) 9 - gv σ T 10)), wi (gv σ T 11), wx, wx, wx, wx, wx, wx, wi 0, wx, wx, wx, wx] from rfl) ?_
  exact l_kept hE hW hN kont _ 0 (by omega) (Nat.le_refl _)
set_option maxRecDepth 100000 in
theorem t_mn {E : mE} {σ : wSt} {T : Nat} (hE : wE E) (hW : NWd σ T) (hN : NTy T σ) {P : Option wV → wSt → Prop} {d c : Int} (hc1 : 0 ≤ c) (hc2 : c < min (gv σ (T + 1) 12) 20) (hsv : gv σ T 11 = 0 → sv σ T c (gv σ T 11).toNat = 0) (kont : Bt E 116 1235 [wr 0, wr 2, wx, wx, wl d, wx, wi (gv σ (T + 1) 9), wi (min (gv σ (T + 1) 12) 20), wi (max 0 (gv σ (T + 1) 9 - gv σ T 10)), wi (gv σ T 11), wx, wx, wx, wx, wx, wx, wi (c + 1), wx, wx, wx, wx] [] σ P) : Bt E 116 1242 [wr 0, wr 2, wx, wx, wl d, wx, wi (gv σ (T + 1) 9), wi (min (gv σ (T + 1) 12) 20), wi (max 0 (gv σ (T + 1) 9 - gv σ T 10)), wi (gv σ T 11), wx, wx, wx, wx, wx, wx, wi c, wx, wx, wx, wx] [] σ P := by
  have hw20 : min (gv σ (T + 1) 12) 20 ≤ 20 := by omega
  refine B_aloadn rfl my_116 rfl ?_
  refine B_iload rfl my_116 rfl ?_
  refine B_cV hE.1 rfl rfl cw_116_93 (as := [wi c]) (rest := []) rfl (Nat.le_of_ble_eq_true rfl) (k_mean hE hW (by omega) (by omega)) (fun vo s9 hq => ?_)
  obtain ⟨m1, rfl, hm1, rfl⟩ := hq
  show Bt E 116 1248 [wr 0, wr 2, wx, wx, wl d, wx, wi (gv σ (T + 1) 9), wi (min (gv σ (T + 1) 12) 20), wi (max 0 (gv σ (T + 1) 9 - gv σ T 10)), wi (gv σ T 11), wx, wx, wx, wx, wx, wx, wi c, wx, wx, wx, wx] [wd m1] σ _
  refine B_aloadn rfl my_116 rfl ?_
  refine B_iload rfl my_116 rfl ?_
  refine B_iconst rfl my_116 (by decide) ?_
  refine B_cV hE.1 rfl rfl cw_116_91 (as := [wi c, wi 0]) (rest := [wd m1]) rfl (Nat.le_of_ble_eq_true rfl) (k_extreme0 hE hW (by omega) (by omega)) (fun vo s9 hq => ?_)
  obtain ⟨e2, rfl, he2, rfl⟩ := hq
  show Bt E 116 1255 [wr 0, wr 2, wx, wx, wl d, wx, wi (gv σ (T + 1) 9), wi (min (gv σ (T + 1) 12) 20), wi (max 0 (gv σ (T + 1) 9 - gv σ T 10)), wi (gv σ T 11), wx, wx, wx, wx, wx, wx, wi c, wx, wx, wx, wx] [wi e2, wd m1] σ _
  refine B_top (fun r1 => ?_)
  refine B_i2d rfl my_116 ?_
  refine B_dcmp rfl my_116 ?_
  have hg2 := hm1.1 e2 .g (by omega) he2.1 he2.2
  refine B_if_lt rfl my_116 rfl (tgt := 1294) (nx := 1260) rfl rfl (fun c3 => ?_) (fun c3 => ?_)
  · refine B_iconst rfl my_116 (by decide) ?_
    exfalso
    omega
  · refine B_aloadn rfl my_116 rfl ?_
    refine B_iload rfl my_116 rfl ?_
    refine B_cV hE.1 rfl rfl cw_116_93 (as := [wi c]) (rest := []) rfl (Nat.le_of_ble_eq_true rfl) (k_mean hE hW (by omega) (by omega)) (fun vo s9 hq => ?_)
    obtain ⟨m3, rfl, hm3, rfl⟩ := hq
    show Bt E 116 1266 [wr 0, wr 2, wx, wx, wl d, wx, wi (gv σ (T + 1) 9), wi (min (gv σ (T + 1) 12) 20), wi (max 0 (gv σ (T + 1) 9 - gv σ T 10)), wi (gv σ T 11), wx, wx, wx, wx, wx, wx, wi c, wx, wx, wx, wx] [wd m3] σ _
    refine B_aloadn rfl my_116 rfl ?_
    refine B_iload rfl my_116 rfl ?_
    refine B_iconst rfl my_116 (by decide) ?_
    refine B_cV hE.1 rfl rfl cw_116_91 (as := [wi c, wi 1]) (rest := [wd m3]) rfl (Nat.le_of_ble_eq_true rfl) (k_extreme1 hE hW (by omega) (by omega)) (fun vo s9 hq => ?_)
    obtain ⟨e4, rfl, he4, rfl⟩ := hq
    show Bt E 116 1273 [wr 0, wr 2, wx, wx, wl d, wx, wi (gv σ (T + 1) 9), wi (min (gv σ (T + 1) 12) 20), wi (max 0 (gv σ (T + 1) 9 - gv σ T 10)), wi (gv σ T 11), wx, wx, wx, wx, wx, wx, wi c, wx, wx, wx, wx] [wi e4, wd m3] σ _
    refine B_top (fun r4 => ?_)
    refine B_i2d rfl my_116 ?_
    refine B_dcmp rfl my_116 ?_
    have hg5 := hm3.2 e4 .l (by omega) he4.1 he4.2
    refine B_if_gt rfl my_116 rfl (tgt := 1294) (nx := 1278) rfl rfl (fun c6 => ?_) (fun c6 => ?_)
    · refine B_iconst rfl my_116 (by decide) ?_
      exfalso
      omega
    · refine B_iload rfl my_116 rfl ?_
      refine B_if_ne rfl my_116 rfl (tgt := 1296) (nx := 1283) rfl rfl (fun c7 => ?_) (fun c7 => ?_)
      · refine B_iinc rfl my_116 (by decide) rfl rfl rfl (by omega) (by omega) (show _ = [wr 0, wr 2, wx, wx, wl d, wx, wi (gv σ (T + 1) 9), wi (min (gv σ (T + 1) 12) 20), wi (max 0 (gv σ (T + 1) 9 - gv σ T 10)), wi (gv σ T 11), wx, wx, wx, wx, wx, wx, wi (c + 1), wx, wx, wx, wx] from rfl) ?_
        refine B_goto rfl my_116 rfl (tgt := 1235) rfl ?_
        exact kont
      · refine B_aloadn rfl my_116 rfl ?_
        refine B_iload rfl my_116 rfl ?_
        refine B_cV hE.1 rfl rfl cw_116_92 (as := [wi c]) (rest := []) rfl (Nat.le_of_ble_eq_true rfl) (k_sum hE hW (by omega) (by omega)) (fun vo s9 hq => ?_)
        obtain ⟨rfl, rfl⟩ := hq
        show Bt E 116 1289 [wr 0, wr 2, wx, wx, wl d, wx, wi (gv σ (T + 1) 9), wi (min (gv σ (T + 1) 12) 20), wi (max 0 (gv σ (T + 1) 9 - gv σ T 10)), wi (gv σ T 11), wx, wx, wx, wx, wx, wx, wi c, wx, wx, wx, wx] [wl (sv σ T c (gv σ T 11).toNat)] σ _
        refine B_lconst rfl my_116 (n := 0) rfl ?_
        refine B_lcmp rfl my_116 (fun r8 => ?_)
        refine B_if_eq rfl my_116 rfl (tgt := 1296) (nx := 1294) rfl rfl (fun c9 => ?_) (fun c9 => ?_)
        · refine B_iinc rfl my_116 (by decide) rfl rfl rfl (by omega) (by omega) (show _ = [wr 0, wr 2, wx, wx, wl d, wx, wi (gv σ (T + 1) 9), wi (min (gv σ (T + 1) 12) 20), wi (max 0 (gv σ (T + 1) 9 - gv σ T 10)), wi (gv σ T 11), wx, wx, wx, wx, wx, wx, wi (c + 1), wx, wx, wx, wx] from rfl) ?_
          refine B_goto rfl my_116 rfl (tgt := 1235) rfl ?_
          exact kont
        · refine B_iconst rfl my_116 (by decide) ?_
          exfalso
          omega
set_option maxRecDepth 100000 in
theorem l_mn {E : mE} {σ : wSt} {T : Nat} (hE : wE E) (hW : NWd σ T) (hN : NTy T σ) {P : Option wV → wSt → Prop} {d : Int} (kont : Bt E 116 1302 [wr 0, wr 2, wx, wx, wl d, wx, wi (gv σ (T + 1) 9), wi (min (gv σ (T + 1) 12) 20), wi (max 0 (gv σ (T + 1) 9 - gv σ T 10)), wi (gv σ T 11), wx, wx, wx, wx, wx, wx, wx, wx, wx, wx, wx] [] σ P) : ∀ (k : Nat) (c : Int), 0 ≤ c → (20 - c).toNat ≤ k → Bt E 116 1235 [wr 0, wr 2, wx, wx, wl d, wx, wi (gv σ (T + 1) 9), wi (min (gv σ (T + 1) 12) 20), wi (max 0 (gv σ (T + 1) 9 - gv σ T 10)), wi (gv σ T 11), wx, wx, wx, wx, wx, wx, wi c, wx, wx, wx, wx] [] σ P := by
  intro k
  induction k with
  | zero =>
    intro c h1 hm
    refine B_rng 6 rfl (fun ha6 => ?_)
    refine B_rng 7 rfl (fun ha7 => ?_)
    refine B_rng 8 rfl (fun ha8 => ?_)
    refine B_rng 9 rfl (fun ha9 => ?_)
    refine B_rng 16 rfl (fun ha16 => ?_)
    refine B_iload rfl my_116 rfl ?_
    refine B_iload rfl my_116 rfl ?_
    refine B_ic_ge rfl my_116 rfl (tgt := 1302) (nx := 1242) rfl rfl (fun c1 => ?_) (fun c1 => ?_)
    · refine B_loc (l' := [wr 0, wr 2, wx, wx, wl d, wx, wi (gv σ (T + 1) 9), wi (min (gv σ (T + 1) 12) 20), wi (max 0 (gv σ (T + 1) 9 - gv σ T 10)), wi (gv σ T 11), wx, wx, wx, wx, wx, wx, wx, wx, wx, wx, wx]) ⟨Or.inl rfl, Or.inl rfl, Or.inl rfl, Or.inl rfl, Or.inl rfl, Or.inl rfl, Or.inl rfl, Or.inl rfl, Or.inl rfl, Or.inl rfl, Or.inl rfl, Or.inl rfl, Or.inl rfl, Or.inl rfl, Or.inl rfl, Or.inl rfl, Or.inr rfl, Or.inl rfl, Or.inl rfl, Or.inl rfl, Or.inl rfl, trivial⟩ ?_
      exact kont
    · exact absurd hm (by omega)
  | succ k ih =>
    intro c h1 hm
    refine B_rng 6 rfl (fun ha6 => ?_)
    refine B_rng 7 rfl (fun ha7 => ?_)
    refine B_rng 8 rfl (fun ha8 => ?_)
    refine B_rng 9 rfl (fun ha9 => ?_)
    refine B_rng 16 rfl (fun ha16 => ?_)
    refine B_iload rfl my_116 rfl ?_
    refine B_iload rfl my_116 rfl ?_
    refine B_ic_ge rfl my_116 rfl (tgt := 1302) (nx := 1242) rfl rfl (fun c1 => ?_) (fun c1 => ?_)
    · refine B_loc (l' := [wr 0, wr 2, wx, wx, wl d, wx, wi (gv σ (T + 1) 9), wi (min (gv σ (T + 1) 12) 20), wi (max 0 (gv σ (T + 1) 9 - gv σ T 10)), wi (gv σ T 11), wx, wx, wx, wx, wx, wx, wx, wx, wx, wx, wx]) ⟨Or.inl rfl, Or.inl rfl, Or.inl rfl, Or.inl rfl, Or.inl rfl, Or.inl rfl, Or.inl rfl, Or.inl rfl, Or.inl rfl, Or.inl rfl, Or.inl rfl, Or.inl rfl, Or.inl rfl, Or.inl rfl, Or.inl rfl, Or.inl rfl, Or.inr rfl, Or.inl rfl, Or.inl rfl, Or.inl rfl, Or.inl rfl, trivial⟩ ?_
      exact kont
    · have hc2 : c < min (gv σ (T + 1) 12) 20 := by omega
      refine t_mn hE hW hN h1 hc2 (fun z => by rw [z]; rfl) (ih _ (by omega) (by omega))
set_option maxRecDepth 100000 in
theorem t_mean {E : mE} {σ : wSt} {T : Nat} (hE : wE E) (hW : NWd σ T) (hN : NTy T σ) {P : Option wV → wSt → Prop} {d : Int} (kont : Bt E 116 1302 [wr 0, wr 2, wx, wx, wl d, wx, wi (gv σ (T + 1) 9), wi (min (gv σ (T + 1) 12) 20), wi (max 0 (gv σ (T + 1) 9 - gv σ T 10)), wi (gv σ T 11), wx, wx, wx, wx, wx, wx, wx, wx, wx, wx, wx] [] σ P) : Bt E 116 1232 [wr 0, wr 2, wx, wx, wl d, wx, wi (gv σ (T + 1) 9), wi (min (gv σ (T + 1) 12) 20), wi (max 0 (gv σ (T + 1) 9 - gv σ T 10)), wi (gv σ T 11), wx, wx, wx, wx, wx, wx, wx, wx, wx, wx, wx] [] σ P := by
  refine B_iconst rfl my_116 (by decide) ?_
  refine B_istore rfl my_116 (by decide) rfl (show _ = [wr 0, wr 2, wx, wx, wl d, wx, wi (gv σ (T + 1) 9), wi (min (gv σ (T + 1) 12) 20), wi (max 0 (gv σ (T + 1) 9 - gv σ T 10)), wi (gv σ T 11), wx, wx, wx, wx, wx, wx, wi 0, wx, wx, wx, wx] from rfl) ?_
  exact l_mn hE hW hN kont _ 0 (by omega) (Nat.le_refl _)
set_option maxRecDepth 100000 in
theorem t_dg {E : mE} {σ : wSt} {T : Nat} (hE : wE E) (hW : NWd σ T) (hN : NTy T σ) {P : Option wV → wSt → Prop} {d d0 : Int} (hd : d = mix4 d0 σ) (hD : D1g E T σ d0) (h3 : kn σ 3 1) (hA : ∀ U, Tb U → kn σ U 12 ∧ gv σ U 12 = 1 ∧ kn σ U 11) (kont : Bt E 116 1314 [wr 0, wr 2, wx, wx, wx, wx, wi (gv σ (T + 1) 9), wi (min (gv σ (T + 1) 12) 20), wi (max 0 (gv σ (T + 1) 9 - gv σ T 10)), wi (gv σ T 11), wx, wx, wx, wx, wx, wx, wx, wx, wx, wx, wx] [] σ P) : Bt E 116 1302 [wr 0, wr 2, wx, wx, wl d, wx, wi (gv σ (T + 1) 9), wi (min (gv σ (T + 1) 12) 20), wi (max 0 (gv σ (T + 1) 9 - gv σ T 10)), wi (gv σ T 11), wx, wx, wx, wx, wx, wx, wx, wx, wx, wx, wx] [] σ P := by
  refine B_aloadn rfl my_116 rfl ?_
  refine B_cV hE.1 rfl rfl cw_116_100 (as := []) (rest := []) rfl (Nat.le_of_ble_eq_true rfl) (k_digest1 hE hW hN h3 hA) (fun vo s9 hq => ?_)
  obtain ⟨d2, rfl, hd2, rfl⟩ := hq
  have em : mix4 d2 σ = mix4 d0 σ := by rw [d1g_fn hD hd2 rfl (fun _ => rfl)]
  show Bt E 116 1306 [wr 0, wr 2, wx, wx, wl d, wx, wi (gv σ (T + 1) 9), wi (min (gv σ (T + 1) 12) 20), wi (max 0 (gv σ (T + 1) 9 - gv σ T 10)), wi (gv σ T 11), wx, wx, wx, wx, wx, wx, wx, wx, wx, wx, wx] [wl (mix4 d2 σ)] σ _
  refine B_lload rfl my_116 rfl ?_
  refine B_lcmp rfl my_116 (fun r1 => ?_)
  refine B_if_eq rfl my_116 rfl (tgt := 1314) (nx := 1312) rfl rfl (fun c2 => ?_) (fun c2 => ?_)
  · refine B_loc (l' := [wr 0, wr 2, wx, wx, wx, wx, wi (gv σ (T + 1) 9), wi (min (gv σ (T + 1) 12) 20), wi (max 0 (gv σ (T + 1) 9 - gv σ T 10)), wi (gv σ T 11), wx, wx, wx, wx, wx, wx, wx, wx, wx, wx, wx]) ⟨Or.inl rfl, Or.inl rfl, Or.inl rfl, Or.inl rfl, Or.inr rfl, Or.inl rfl, Or.inl rfl, Or.inl rfl, Or.inl rfl, Or.inl rfl, Or.inl rfl, Or.inl rfl, Or.inl rfl, Or.inl rfl, Or.inl rfl, Or.inl rfl, Or.inl rfl, Or.inl rfl, Or.inl rfl, Or.inl rfl, Or.inl rfl, trivial⟩ ?_
    exact kont
  · refine B_iconst rfl my_116 (by decide) ?_
    exfalso
    omega
