/-! ===== the law: its end; whole ===== -/
theorem cw_116_85 : wcV 116 0 85 6 1 1 = true := by decide +kernel
theorem k_score1 {E : mE} {σ s : wSt} (hE : wE E) (hF : FvI σ s) {n : Int} (h1 : 0 ≤ n) (h2 : n ≤ 3) : Gv E 85 [wr 2, wi n] s (wi (pts σ (tof n))) := by
  rw [← hF.2.1 _ (tof_tb n)]
  exact k_score0 hE ⟨hF.1.1, hF.1.2.1⟩ h1 h2
theorem gp_fv {σ s : wSt} (hF : FvI σ s) : gp s = gp σ := by
  unfold gp
  rw [hF.2.1 11 tb11, hF.2.1 46 tb46, hF.2.1 81 tb81, hF.2.1 116 tb116]
theorem ok_two {l st : List wV} {s : wSt} {T : Nat} (h : Ok l st s) (k12 : kn s T 12) (h12 : gv s T 12 = 0) : Ok [] [wr T, wr 6] (KSt T s) := by
  refine Ok.sub (ks_sub k12 h12) ⟨⟨[], fun i a ha => ?_⟩, ⟨[.ref T, .ref 6], wR_mr T, wR_mr 6, trivial⟩, h.2.2⟩
  cases ha
/-- the table of what is used is settled anew: as many rows are kept -/
theorem kc_again {E : mE} {σ s t : wSt} {T : Nat} (hT : Tb T) (hB : WBs E T σ) (hF : FvI σ s) (ho : Ok [] [wr T, wr 6] (KSt T s)) (hp : pn s = pn σ) (h12 : gv s T 12 = 0) (sw : SWq E T s t) : NWd t T ∧ gv t T 11 = gv σ T 11 := by
  have f := fv_sw hT hF sw
  have hTe : T = tof (pn s) := by rw [hp]; exact hB.2.1
  have hk := kq_8 hT hF.1 hTe sw
  rcases sw with ⟨g1, -⟩ | ⟨g1, g2, g3, g4⟩
  · rw [h12] at g1
    exact absurd g1 (by decide)
  · refine ⟨⟨f.1.1.1, f.1.1.2.1, ⟨f.1.1.2.2.1.1 0, f.1.1.2.2.1.2.1.1, f.1.1.2.2.1.2.1.2⟩, by rw [f.2.2.2]; exact hTe, g2, by rw [f.2.2.2]; exact hk⟩, ?_⟩
    rw [hF.2.2 T hT] at ho
    exact (kcd_fn hT ho hB.2.2.2.2 g4 (hF.2.2 T hT)).symm
def LpI (σ s : wSt) (i : Int) : Prop := FvI σ s ∧ (0 < i → rd s 7 3 0 = -1)
set_option maxRecDepth 100000 in
theorem l_again {E : mE} {σ : wSt} {T : Nat} (hE : wE E) (hB : WBs E T σ) {P : Option wV → wSt → Prop} (kont : ∀ s, FvI σ s ∧ rd s 7 3 0 = -1 → Bt E 116 1374 [wr 0, wr 2, wx, wx, wx, wx, wx, wx, wx, wi (gv σ T 11), wx, wx, wx, wx, wx, wx, wi (pn σ), wi (pts σ (tof (pn σ))), wx, wx, wx] [] s P)  : ∀ (k : Nat) (s : wSt) (i : Int), LpI σ s i → 0 ≤ i → i ≤ 4 → (4 - i).toNat ≤ k → Bt E 116 1332 [wr 0, wr 2, wx, wx, wx, wx, wx, wx, wx, wi (gv σ T 11), wx, wx, wx, wx, wx, wx, wi (pn σ), wi (pts σ (tof (pn σ))), wi i, wx, wx] [] s P := by
  intro k
  induction k with
  | zero =>
    intro s i h1 h2 h3 hm
    have hW := hB.nw
    have hg := gp_rng (σ := σ)
    have hpn := pn_rng hW.2.2.1.2.1 hW.2.2.1.2.2
    refine B_rng 9 rfl (fun ha9 => ?_)
    refine B_rng 16 rfl (fun ha16 => ?_)
    refine B_rng 17 rfl (fun ha17 => ?_)
    refine B_rng 18 rfl (fun ha18 => ?_)
    refine B_iload rfl my_116 rfl ?_
    refine B_iconst rfl my_116 (by decide) ?_
    refine B_ic_ge rfl my_116 rfl (tgt := 1374) (nx := 1338) rfl rfl (fun c1 => ?_) (fun c1 => ?_)
    · refine B_loc (l' := [wr 0, wr 2, wx, wx, wx, wx, wx, wx, wx, wi (gv σ T 11), wx, wx, wx, wx, wx, wx, wi (pn σ), wi (pts σ (tof (pn σ))), wx, wx, wx]) ⟨Or.inl rfl, Or.inl rfl, Or.inl rfl, Or.inl rfl, Or.inl rfl, Or.inl rfl, Or.inl rfl, Or.inl rfl, Or.inl rfl, Or.inl rfl, Or.inl rfl, Or.inl rfl, Or.inl rfl, Or.inl rfl, Or.inl rfl, Or.inl rfl, Or.inl rfl, Or.inl rfl, Or.inr rfl, Or.inl rfl, Or.inl rfl, trivial⟩ ?_
      exact kont _ ⟨h1.1, h1.2 (by omega)⟩
    · exact absurd hm (by omega)
  | succ k ih =>
    intro s i h1 h2 h3 hm
    have hW := hB.nw
    have hg := gp_rng (σ := σ)
    have hpn := pn_rng hW.2.2.1.2.1 hW.2.2.1.2.2
    refine B_rng 9 rfl (fun ha9 => ?_)
    refine B_rng 16 rfl (fun ha16 => ?_)
    refine B_rng 17 rfl (fun ha17 => ?_)
    refine B_rng 18 rfl (fun ha18 => ?_)
    refine B_iload rfl my_116 rfl ?_
    refine B_iconst rfl my_116 (by decide) ?_
    refine B_ic_ge rfl my_116 rfl (tgt := 1374) (nx := 1338) rfl rfl (fun c1 => ?_) (fun c1 => ?_)
    · refine B_loc (l' := [wr 0, wr 2, wx, wx, wx, wx, wx, wx, wx, wi (gv σ T 11), wx, wx, wx, wx, wx, wx, wi (pn σ), wi (pts σ (tof (pn σ))), wx, wx, wx]) ⟨Or.inl rfl, Or.inl rfl, Or.inl rfl, Or.inl rfl, Or.inl rfl, Or.inl rfl, Or.inl rfl, Or.inl rfl, Or.inl rfl, Or.inl rfl, Or.inl rfl, Or.inl rfl, Or.inl rfl, Or.inl rfl, Or.inl rfl, Or.inl rfl, Or.inl rfl, Or.inl rfl, Or.inr rfl, Or.inl rfl, Or.inl rfl, trivial⟩ ?_
      exact kont _ ⟨h1.1, h1.2 (by omega)⟩
    · refine B_aloadn rfl my_116 rfl ?_
      refine B_iconst rfl my_116 (by decide) ?_
      refine B_iconst rfl my_116 (by decide) ?_
      refine B_cV hE.1 rfl rfl cw_116_81 (as := [wi 0, wi (-1)]) (rest := []) rfl (Nat.le_of_ble_eq_true rfl) (g_tell hE (h1.1.1.2.2.1.1 0) (by decide) (by decide) (by omega) (Or.inr ⟨rfl, by omega⟩)) (fun vo s9 hq => ?_)
      obtain ⟨rfl, rfl⟩ := hq
      obtain ⟨s1, e1⟩ : ∃ s1, s1 = us (pt s 7 3 0 (-1)) := ⟨_, rfl⟩
      rw [← e1]
      have f1 := fv_tell (n := (-1)) h1.1 (by omega) (by omega)
      rw [← e1] at f1
      have hs0 := h1.1.1.2.2.1.2.1
      show Bt E 116 1344 [wr 0, wr 2, wx, wx, wx, wx, wx, wx, wx, wi (gv σ T 11), wx, wx, wx, wx, wx, wx, wi (pn σ), wi (pts σ (tof (pn σ))), wi i, wx, wx] [wi (rd s 7 3 0)] s1 _
      refine B_top (fun r2 => ?_)
      refine B_iconst rfl my_116 (by decide) ?_
      refine B_ic_lt rfl my_116 rfl (tgt := 1366) (nx := 1348) rfl rfl (fun c3 => ?_) (fun c3 => ?_)
      · refine B_iconst rfl my_116 (by decide) ?_
        have hm9 := gp_max (σ := σ) h2 (by omega)
        exfalso
        omega
      · refine B_aloadn rfl my_116 rfl ?_
        refine B_aloadn rfl my_116 rfl ?_
        refine B_iconst rfl my_116 (by decide) ?_
        refine B_cV hE.1 rfl rfl cw_116_84 (as := [wi 0]) (rest := [wr 2]) rfl (Nat.le_of_ble_eq_true rfl) (g_usedQ hE f1.1.1 rfl) (fun vo t1 hq => ?_)
        obtain ⟨rfl, sw⟩ := hq
        have f2 := fv_sw (tof_tb _) f1.1 sw
        have eg : pn s1 = gp σ := by
          unfold pn
          rw [if_pos f1.2.1, gp_fv f1.1]
        rw [eg]
        show Bt E 116 1354 [wr 0, wr 2, wx, wx, wx, wx, wx, wx, wx, wi (gv σ T 11), wx, wx, wx, wx, wx, wx, wi (pn σ), wi (pts σ (tof (pn σ))), wi i, wx, wx] [wi (gp σ), wr 2] t1 _
        refine B_top (fun r4 => ?_)
        refine B_cV hE.1 rfl rfl cw_116_85 (as := [wi (gp σ)]) (rest := []) rfl (Nat.le_of_ble_eq_true rfl) (k_score1 hE f2.1 (by omega) (by omega)) (fun vo s9 hq => ?_)
        obtain ⟨rfl, rfl⟩ := hq
        show Bt E 116 1357 [wr 0, wr 2, wx, wx, wx, wx, wx, wx, wx, wi (gv σ T 11), wx, wx, wx, wx, wx, wx, wi (pn σ), wi (pts σ (tof (pn σ))), wi i, wx, wx] [wi (pts σ (tof (gp σ)))] t1 _
        refine B_top (fun r5 => ?_)
        refine B_aloadn rfl my_116 rfl ?_
        refine B_iload rfl my_116 rfl ?_
        refine B_cV hE.1 rfl rfl cw_116_85 (as := [wi i]) (rest := [wi (pts σ (tof (gp σ)))]) rfl (Nat.le_of_ble_eq_true rfl) (k_score1 hE f2.1 (by omega) (by omega)) (fun vo s9 hq => ?_)
        obtain ⟨rfl, rfl⟩ := hq
        show Bt E 116 1363 [wr 0, wr 2, wx, wx, wx, wx, wx, wx, wx, wi (gv σ T 11), wx, wx, wx, wx, wx, wx, wi (pn σ), wi (pts σ (tof (pn σ))), wi i, wx, wx] [wi (pts σ (tof i)), wi (pts σ (tof (gp σ)))] t1 _
        refine B_top (fun r6 => ?_)
        refine B_ic_ge rfl my_116 rfl (tgt := 1368) (nx := 1366) rfl rfl (fun c7 => ?_) (fun c7 => ?_)
        · refine B_iinc rfl my_116 (by decide) rfl rfl rfl (by omega) (by omega) (show _ = [wr 0, wr 2, wx, wx, wx, wx, wx, wx, wx, wi (gv σ T 11), wx, wx, wx, wx, wx, wx, wi (pn σ), wi (pts σ (tof (pn σ))), wi (i + 1), wx, wx] from rfl) ?_
          refine B_goto rfl my_116 rfl (tgt := 1332) rfl ?_
          exact ih _ _ ⟨f2.1, fun _ => by rw [f2.2.2.1 0]; exact f1.2.1⟩ (by omega) (by omega) (by omega)
        · refine B_iconst rfl my_116 (by decide) ?_
          have hm9 := gp_max (σ := σ) h2 (by omega)
          exfalso
          omega
set_option maxRecDepth 100000 in
theorem t_end {E : mE} {σ : wSt} {T : Nat} (hE : wE E) (hB : WBs E T σ) {s : wSt} (h1 : FvI σ s ∧ rd s 7 3 0 = -1) : Bt E 116 1374 [wr 0, wr 2, wx, wx, wx, wx, wx, wx, wx, wi (gv σ T 11), wx, wx, wx, wx, wx, wx, wi (pn σ), wi (pts σ (tof (pn σ))), wx, wx, wx] [] s (fun vo _ => vo = some (wi 1)) := by
  have hW := hB.nw
  have hg := gp_rng (σ := σ)
  have hpn := pn_rng hW.2.2.1.2.1 hW.2.2.1.2.2
  have hT : Tb T := hW.tb
  have hle := pts_le (hB.1.2.1 (tof (pn σ)) (tof_tb _)).2
  refine B_rng 9 rfl (fun ha9 => ?_)
  refine B_rng 16 rfl (fun ha16 => ?_)
  refine B_rng 17 rfl (fun ha17 => ?_)
  refine B_iload rfl my_116 rfl ?_
  refine B_bipush rfl my_116 (n := 120) rfl ?_
  refine B_ic_gt rfl my_116 rfl (tgt := 1416) (nx := 1381) rfl rfl (fun c1 => ?_) (fun c1 => ?_)
  · refine B_iconst rfl my_116 (by decide) ?_
    exfalso
    omega
  · refine B_aloadn rfl my_116 rfl ?_
    refine B_iconst rfl my_116 (by decide) ?_
    refine B_iload rfl my_116 rfl ?_
    refine B_cV hE.1 rfl rfl cw_116_81 (as := [wi 0, wi (pn σ)]) (rest := []) rfl (Nat.le_of_ble_eq_true rfl) (g_tell hE (h1.1.1.2.2.1.1 0) (by decide) (by decide) (by omega) (Or.inr ⟨rfl, by omega⟩)) (fun vo s9 hq => ?_)
    obtain ⟨rfl, rfl⟩ := hq
    obtain ⟨s1, e1⟩ : ∃ s1, s1 = us (pt s 7 3 0 (pn σ)) := ⟨_, rfl⟩
    rw [← e1]
    have f1 := fv_tell (n := (pn σ)) h1.1 (by omega) (by omega)
    rw [← e1] at f1
    have hs0 := h1.1.1.2.2.1.2.1
    have ep : pn s1 = pn σ := by
      have e0 := f1.2.1
      have e2 : pn s1 = rd s1 7 3 0 := by
        unfold pn
        rw [if_neg (by omega)]
      rw [e2, e0]
    have eT : T = tof (pn s1) := by rw [ep]; exact hB.2.1
    refine B_ok (fun hok9 => ?_)
    have hok := ok_two hok9 (f1.1.1.2.2.2.1 T hT).1 (f1.2.2 T hT)
    show Bt E 116 1388 [wr 0, wr 2, wx, wx, wx, wx, wx, wx, wx, wi (gv σ T 11), wx, wx, wx, wx, wx, wx, wi (pn σ), wi (pts σ (tof (pn σ))), wx, wx, wx] [wi (rd s 7 3 0)] s1 _
    refine B_top (fun r2 => ?_)
    refine B_iconst rfl my_116 (by decide) ?_
    refine B_ic_ne rfl my_116 rfl (tgt := 1416) (nx := 1392) rfl rfl (fun c3 => ?_) (fun c3 => ?_)
    · refine B_iconst rfl my_116 (by decide) ?_
      exfalso
      omega
    · refine B_aloadn rfl my_116 rfl ?_
      refine B_iconst rfl my_116 (by decide) ?_
      refine B_cV hE.1 rfl rfl cw_116_84 (as := [wi 0]) (rest := []) rfl (Nat.le_of_ble_eq_true rfl) (g_usedQ hE f1.1.1 eT) (fun vo t1 hq => ?_)
      obtain ⟨rfl, sw⟩ := hq
      have f2 := kc_again hT hB f1.1 hok ep (f1.2.2 T hT) sw
      rw [ep]
      show Bt E 116 1397 [wr 0, wr 2, wx, wx, wx, wx, wx, wx, wx, wi (gv σ T 11), wx, wx, wx, wx, wx, wx, wi (pn σ), wi (pts σ (tof (pn σ))), wx, wx, wx] [wi (pn σ)] t1 _
      refine B_top (fun r4 => ?_)
      refine B_iload rfl my_116 rfl ?_
      refine B_ic_ne rfl my_116 rfl (tgt := 1416) (nx := 1402) rfl rfl (fun c5 => ?_) (fun c5 => ?_)
      · refine B_iconst rfl my_116 (by decide) ?_
        exfalso
        omega
      · refine B_aloadn rfl my_116 rfl ?_
        refine B_iconst rfl my_116 (by decide) ?_
        refine B_cV hE.1 rfl rfl cw_116_86 (as := [wi 5]) (rest := []) rfl (Nat.le_of_ble_eq_true rfl) (k_many5 hE f2.1) (fun vo s9 hq => ?_)
        obtain ⟨rfl, rfl⟩ := hq
        show Bt E 116 1407 [wr 0, wr 2, wx, wx, wx, wx, wx, wx, wx, wi (gv σ T 11), wx, wx, wx, wx, wx, wx, wi (pn σ), wi (pts σ (tof (pn σ))), wx, wx, wx] [wi (gv t1 T 11)] t1 _
        refine B_top (fun r6 => ?_)
        have hf2 := f2.2
        refine B_iload rfl my_116 rfl ?_
        refine B_ic_ne rfl my_116 rfl (tgt := 1416) (nx := 1412) rfl rfl (fun c7 => ?_) (fun c7 => ?_)
        · refine B_iconst rfl my_116 (by decide) ?_
          exfalso
          omega
        · refine B_iconst rfl my_116 (by decide) ?_
          refine B_goto rfl my_116 rfl (tgt := 1417) rfl ?_
          refine B_bret rfl my_116 rfl (by decide) ?_
          exact rfl
set_option maxRecDepth 100000 in
theorem t_again {E : mE} {σ : wSt} {T : Nat} (hE : wE E) (hB : WBs E T σ)  : Bt E 116 1314 [wr 0, wr 2, wx, wx, wx, wx, wi (gv σ (T + 1) 9), wi (min (gv σ (T + 1) 12) 20), wi (max 0 (gv σ (T + 1) 9 - gv σ T 10)), wi (gv σ T 11), wx, wx, wx, wx, wx, wx, wx, wx, wx, wx, wx] [] σ (fun vo _ => vo = some (wi 1)) := by
  have hW := hB.nw
  have hg := gp_rng (σ := σ)
  have hpn := pn_rng hW.2.2.1.2.1 hW.2.2.1.2.2
  refine B_aloadn rfl my_116 rfl ?_
  refine B_iconst rfl my_116 (by decide) ?_
  refine B_cV hE.1 rfl rfl cw_116_84 (as := [wi 0]) (rest := []) rfl (Nat.le_of_ble_eq_true rfl) (k_used0p hE hW) (fun vo s9 hq => ?_)
  obtain ⟨rfl, rfl⟩ := hq
  show Bt E 116 1319 [wr 0, wr 2, wx, wx, wx, wx, wi (gv σ (T + 1) 9), wi (min (gv σ (T + 1) 12) 20), wi (max 0 (gv σ (T + 1) 9 - gv σ T 10)), wi (gv σ T 11), wx, wx, wx, wx, wx, wx, wx, wx, wx, wx, wx] [wi (pn σ)] σ _
  refine B_top (fun r1 => ?_)
  refine B_istore rfl my_116 (by decide) rfl (show _ = [wr 0, wr 2, wx, wx, wx, wx, wi (gv σ (T + 1) 9), wi (min (gv σ (T + 1) 12) 20), wi (max 0 (gv σ (T + 1) 9 - gv σ T 10)), wi (gv σ T 11), wx, wx, wx, wx, wx, wx, wi (pn σ), wx, wx, wx, wx] from rfl) ?_
  refine B_aloadn rfl my_116 rfl ?_
  refine B_iload rfl my_116 rfl ?_
  refine B_cV hE.1 rfl rfl cw_116_85 (as := [wi (pn σ)]) (rest := []) rfl (Nat.le_of_ble_eq_true rfl) (k_score0 hE ⟨hW.1, hW.2.1⟩ (by omega) (by omega)) (fun vo s9 hq => ?_)
  obtain ⟨rfl, rfl⟩ := hq
  show Bt E 116 1327 [wr 0, wr 2, wx, wx, wx, wx, wi (gv σ (T + 1) 9), wi (min (gv σ (T + 1) 12) 20), wi (max 0 (gv σ (T + 1) 9 - gv σ T 10)), wi (gv σ T 11), wx, wx, wx, wx, wx, wx, wi (pn σ), wx, wx, wx, wx] [wi (pts σ (tof (pn σ)))] σ _
  refine B_top (fun r2 => ?_)
  refine B_istore rfl my_116 (by decide) rfl (show _ = [wr 0, wr 2, wx, wx, wx, wx, wi (gv σ (T + 1) 9), wi (min (gv σ (T + 1) 12) 20), wi (max 0 (gv σ (T + 1) 9 - gv σ T 10)), wi (gv σ T 11), wx, wx, wx, wx, wx, wx, wi (pn σ), wi (pts σ (tof (pn σ))), wx, wx, wx] from rfl) ?_
  refine B_iconst rfl my_116 (by decide) ?_
  refine B_istore rfl my_116 (by decide) rfl (show _ = [wr 0, wr 2, wx, wx, wx, wx, wi (gv σ (T + 1) 9), wi (min (gv σ (T + 1) 12) 20), wi (max 0 (gv σ (T + 1) 9 - gv σ T 10)), wi (gv σ T 11), wx, wx, wx, wx, wx, wx, wi (pn σ), wi (pts σ (tof (pn σ))), wi 0, wx, wx] from rfl) ?_
  refine B_loc (l' := [wr 0, wr 2, wx, wx, wx, wx, wx, wx, wx, wi (gv σ T 11), wx, wx, wx, wx, wx, wx, wi (pn σ), wi (pts σ (tof (pn σ))), wi 0, wx, wx]) ⟨Or.inl rfl, Or.inl rfl, Or.inl rfl, Or.inl rfl, Or.inl rfl, Or.inl rfl, Or.inr rfl, Or.inr rfl, Or.inr rfl, Or.inl rfl, Or.inl rfl, Or.inl rfl, Or.inl rfl, Or.inl rfl, Or.inl rfl, Or.inl rfl, Or.inl rfl, Or.inl rfl, Or.inl rfl, Or.inl rfl, Or.inl rfl, trivial⟩ ?_
  exact l_again hE hB (fun s hs => t_end hE hB hs) _ σ 0 ⟨⟨hB.1, fun _ _ => rfl, fun _ _ => rfl⟩, fun e => absurd e (by decide)⟩ (by omega) (by omega) (Nat.le_refl _)
set_option maxRecDepth 100000 in
theorem t_712 {E : mE} {σ : wSt} {T : Nat} (hE : wE E) (hW : NWd σ T) (hN : NTy T σ) {P : Option wV → wSt → Prop} {d a m : Int} (hfn : wI (gv σ (T + 16) 3)) (kont : ∀ t f, t = tol σ T (min (gv σ (T + 1) 12) 20).toNat → f = icm σ T (gv σ (T + 16) 3).toNat (min (gv σ (T + 1) 12) 20).toNat → Bt E 116 839 [wr 0, wr 2, wx, wx, wl d, wx, wi (gv σ (T + 1) 9), wi (min (gv σ (T + 1) 12) 20), wi (max 0 (gv σ (T + 1) 9 - gv σ T 10)), wi (gv σ T 11), wi a, wi m, wi t, wi f, wx, wx, wx, wx, wx, wx, wx] [] σ P) : Bt E 116 712 [wr 0, wr 2, wx, wx, wl d, wx, wi (gv σ (T + 1) 9), wi (min (gv σ (T + 1) 12) 20), wi (max 0 (gv σ (T + 1) 9 - gv σ T 10)), wi (gv σ T 11), wi a, wi m, wx, wx, wx, wx, wx, wx, wx, wx, wx] [] σ P := by
  refine B_iconst rfl my_116 (by decide) ?_
  refine B_istore rfl my_116 (by decide) rfl (show _ = [wr 0, wr 2, wx, wx, wl d, wx, wi (gv σ (T + 1) 9), wi (min (gv σ (T + 1) 12) 20), wi (max 0 (gv σ (T + 1) 9 - gv σ T 10)), wi (gv σ T 11), wi a, wi m, wi 0, wx, wx, wx, wx, wx, wx, wx, wx] from rfl) ?_
  refine B_iconst rfl my_116 (by decide) ?_
  refine B_istore rfl my_116 (by decide) rfl (show _ = [wr 0, wr 2, wx, wx, wl d, wx, wi (gv σ (T + 1) 9), wi (min (gv σ (T + 1) 12) 20), wi (max 0 (gv σ (T + 1) 9 - gv σ T 10)), wi (gv σ T 11), wi a, wi m, wi 0, wi 0, wx, wx, wx, wx, wx, wx, wx] from rfl) ?_
  refine B_iconst rfl my_116 (by decide) ?_
  refine B_istore rfl my_116 (by decide) rfl (show _ = [wr 0, wr 2, wx, wx, wl d, wx, wi (gv σ (T + 1) 9), wi (min (gv σ (T + 1) 12) 20), wi (max 0 (gv σ (T + 1) 9 - gv σ T 10)), wi (gv σ T 11), wi a, wi m, wi 0, wi 0, wi 0, wx, wx, wx, wx, wx, wx] from rfl) ?_
  have hu := hW.2.2.2.2.1.hI.uw
  exact l_col hE hW hN hfn kont _ 0 0 0 rfl rfl (by omega) (by omega) (Nat.le_refl _)
set_option maxRecDepth 100000 in
theorem t_865 {E : mE} {σ : wSt} {T : Nat} (hE : wE E) (hW : NWd σ T) (hN : NTy T σ) {P : Option wV → wSt → Prop} {d f : Int} (hfn : wI (gv σ (T + 16) 3)) (hf : f = icm σ T (gv σ (T + 16) 3).toNat (min (gv σ (T + 1) 12) 20).toNat) (kont : Bt E 116 1021 [wr 0, wr 2, wx, wx, wl d, wx, wi (gv σ (T + 1) 9), wi (min (gv σ (T + 1) 12) 20), wi (max 0 (gv σ (T + 1) 9 - gv σ T 10)), wi (gv σ T 11), wx, wx, wx, wx, wx, wx, wx, wx, wx, wx, wx] [] σ P) : Bt E 116 865 [wr 0, wr 2, wx, wx, wl d, wx, wi (gv σ (T + 1) 9), wi (min (gv σ (T + 1) 12) 20), wi (max 0 (gv σ (T + 1) 9 - gv σ T 10)), wi (gv σ T 11), wx, wx, wx, wi f, wx, wx, wx, wx, wx, wx, wx] [] σ P := by
  refine B_iconst rfl my_116 (by decide) ?_
  refine B_istore rfl my_116 (by decide) rfl (show _ = [wr 0, wr 2, wx, wx, wl d, wx, wi (gv σ (T + 1) 9), wi (min (gv σ (T + 1) 12) 20), wi (max 0 (gv σ (T + 1) 9 - gv σ T 10)), wi (gv σ T 11), wx, wx, wx, wi f, wi 0, wx, wx, wx, wx, wx, wx] from rfl) ?_
  refine B_iconst rfl my_116 (by decide) ?_
  refine B_istore rfl my_116 (by decide) rfl (show _ = [wr 0, wr 2, wx, wx, wl d, wx, wi (gv σ (T + 1) 9), wi (min (gv σ (T + 1) 12) 20), wi (max 0 (gv σ (T + 1) 9 - gv σ T 10)), wi (gv σ T 11), wx, wx, wx, wi f, wi 0, wi (-1), wx, wx, wx, wx, wx] from rfl) ?_
  refine B_iconst rfl my_116 (by decide) ?_
  refine B_istore rfl my_116 (by decide) rfl (show _ = [wr 0, wr 2, wx, wx, wl d, wx, wi (gv σ (T + 1) 9), wi (min (gv σ (T + 1) 12) 20), wi (max 0 (gv σ (T + 1) 9 - gv σ T 10)), wi (gv σ T 11), wx, wx, wx, wi f, wi 0, wi (-1), wi 0, wx, wx, wx, wx] from rfl) ?_
  have hf0 := hW.2.2.2.2.1.2.2.2.2.1.2.1
  exact l_flt hE hW hN hfn hf kont _ 0 (-1) 0 rfl (Or.inl ⟨rfl, rfl⟩) (by omega) (by omega) (Nat.le_refl _)
set_option maxRecDepth 100000 in
theorem t_501 {E : mE} {σ : wSt} {T : Nat} (hE : wE E) (hW : NWd σ T) (hN : NTy T σ) {P : Option wV → wSt → Prop} {d : Int} (kont : ∀ m, min (gv σ (T + 1) 12) 20 ≤ m → Bt E 116 712 [wr 0, wr 2, wx, wx, wl d, wx, wi (gv σ (T + 1) 9), wi (min (gv σ (T + 1) 12) 20), wi (max 0 (gv σ (T + 1) 9 - gv σ T 10)), wi (gv σ T 11), wi (alr σ T (gv σ (T + 1) 9).toNat), wi m, wx, wx, wx, wx, wx, wx, wx, wx, wx] [] σ P) : Bt E 116 501 [wr 0, wr 2, wx, wx, wl d, wx, wi (gv σ (T + 1) 9), wi (min (gv σ (T + 1) 12) 20), wi (max 0 (gv σ (T + 1) 9 - gv σ T 10)), wi (gv σ T 11), wx, wx, wx, wx, wx, wx, wx, wx, wx, wx, wx] [] σ P := by
  refine B_iconst rfl my_116 (by decide) ?_
  refine B_istore rfl my_116 (by decide) rfl (show _ = [wr 0, wr 2, wx, wx, wl d, wx, wi (gv σ (T + 1) 9), wi (min (gv σ (T + 1) 12) 20), wi (max 0 (gv σ (T + 1) 9 - gv σ T 10)), wi (gv σ T 11), wi 0, wx, wx, wx, wx, wx, wx, wx, wx, wx, wx] from rfl) ?_
  refine B_iconst rfl my_116 (by decide) ?_
  refine B_istore rfl my_116 (by decide) rfl (show _ = [wr 0, wr 2, wx, wx, wl d, wx, wi (gv σ (T + 1) 9), wi (min (gv σ (T + 1) 12) 20), wi (max 0 (gv σ (T + 1) 9 - gv σ T 10)), wi (gv σ T 11), wi 0, wi 0, wx, wx, wx, wx, wx, wx, wx, wx, wx] from rfl) ?_
  refine B_iconst rfl my_116 (by decide) ?_
  refine B_istore rfl my_116 (by decide) rfl (show _ = [wr 0, wr 2, wx, wx, wl d, wx, wi (gv σ (T + 1) 9), wi (min (gv σ (T + 1) 12) 20), wi (max 0 (gv σ (T + 1) 9 - gv σ T 10)), wi (gv σ T 11), wi 0, wi 0, wi 0, wx, wx, wx, wx, wx, wx, wx, wx] from rfl) ?_
  have h0 := hW.2.2.2.2.1.hI.1
  exact l_row hE hW hN kont _ 0 0 0 rfl (by omega) (by omega) ⟨by omega, fun z z1 z2 => absurd z1 (by omega)⟩ (Nat.le_refl _)
theorem law_C {E : mE} {σ : wSt} {T : Nat} (hE : wE E) (hB : WBs E T σ) {d : Int} (hD : D1g E T σ d) (hN : NTy T σ) (hA : ∀ U, Tb U → kn σ U 12 ∧ gv σ U 12 = 1 ∧ kn σ U 11) : Bt E 116 409 [wr 0, wr 2, wx, wx, wl (mix4 d σ), wx, wx, wx, wx, wx, wx, wx, wx, wx, wx, wx, wx, wx, wx, wx, wx] [] σ (fun vo _ => vo = some (wi 1)) := by
  have hW := hB.nw
  have hT : Tb T := hW.tb
  have hS := hW.2.2.2.2.1
  have hu := hS.hI.uw
  have hw : (((min (gv σ (T + 1) 12) 20).toNat : Nat) : Int) = min (gv σ (T + 1) 12) 20 := by omega
  refine B_rngF (wn_16_3 hT) hS.2.2.2.2.1.1 (fun hfn => ?_)
  have hf0 := hS.2.2.2.2.1.2.1
  refine q_many hE hW hN (t_501 hE hW hN (fun m hm => t_712 hE hW hN hfn (fun t f ht hf => t_sums hE hW hN ?_ hm ?_ (t_865 hE hW hN hfn hf (t_kept hE hW hN (t_mean hE hW hN (t_dg hE hW hN rfl hD hB.1.2.2.2.2.1 hA (t_again hE hB))))))))
  · rw [ht]
    exact (alr_tol hS hw).symm
  · have i1 := (icm_le (σ := σ) (T := T) (w := (min (gv σ (T + 1) 12) 20).toNat) (gv σ (T + 16) 3).toNat).2
    omega
set_option maxRecDepth 100000 in
theorem law_B {E : mE} {s : wSt} (hE : wE E) (h : LIv s) : Bt E 116 403 [wr 0, wr 2, wx, wx, wx, wx, wx, wx, wx, wx, wx, wx, wx, wx, wx, wx, wx, wx, wx, wx, wx] [] s (fun vo _ => vo = some (wi 1)) := by
  refine B_aloadn rfl my_116 rfl ?_
  refine B_cV hE.1 rfl rfl cw_116_100 (as := []) (rest := []) rfl (Nat.le_of_ble_eq_true rfl) (k_digest0 hE h.1 h.2.1 h.2.2.1 h.2.2.2.2.2.2 h.2.2.2.1 h.2.2.2.2.1 h.2.2.2.2.2.1) (fun vo t hq => ?_)
  obtain ⟨d, T, rfl, hD, hB, hN, hAll⟩ := hq
  show Bt E 116 407 [wr 0, wr 2, wx, wx, wx, wx, wx, wx, wx, wx, wx, wx, wx, wx, wx, wx, wx, wx, wx, wx, wx] [wl (mix4 d t)] t _
  refine B_lstore rfl my_116 (by decide) rfl (show _ = [wr 0, wr 2, wx, wx, wl (mix4 d t), wx, wx, wx, wx, wx, wx, wx, wx, wx, wx, wx, wx, wx, wx, wx, wx] from rfl) ?_
  exact law_C hE hB hD hN hAll
/-- the law holds, from what the boot leaves -/
theorem law_all {E : mE} {σ : wSt} (hE : wE E) {L : Nat} {xs : Nat → Int32} (hX : wSc E L xs) (hL : L < 2147483648) (h0 : LIv σ) (hc : gv σ 3 1 = 0) : Bt E 116 7 [wr 0, wx, wx, wx, wx, wx, wx, wx, wx, wx, wx, wx, wx, wx, wx, wx, wx, wx, wx, wx, wx] [wr 2] σ (fun vo _ => vo = some (wi 1)) := law_A hE hX hL (fun _ h => law_B hE h) h0 hc
