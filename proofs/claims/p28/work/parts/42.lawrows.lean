/-! ===== the law: how many; rows and cells ===== -/
theorem cw_116_84 : wcV 116 0 84 6 1 1 = true := by decide +kernel
theorem cw_116_86 : wcV 116 0 86 6 1 1 = true := by decide +kernel
theorem cw_116_87 : wcV 116 0 87 6 1 1 = true := by decide +kernel
theorem cw_116_88 : wcV 116 0 88 6 3 3 = true := by decide +kernel
theorem cw_116_89 : wcV 116 0 89 6 3 3 = true := by decide +kernel
theorem cw_116_98 : wcV 116 0 98 6 1 1 = true := by decide +kernel
theorem k_used0p {E : mE} {σ : wSt} {T : Nat} (hE : wE E) (hW : NWd σ T) : Gv E 84 [wr 2, wi 0] σ (wi (pn σ)) := by
  rw [← hW.2.2.2.2.2.2]
  exact k_used0 hE hW
theorem rc_step {h r a a0 b W c : Int} (h3 : (h ≤ r → a = a0 + min W c) ∧ (r < h → a = a0)) (hb : (h ≤ r ∧ c < W → b = a + 1) ∧ (r < h ∨ W ≤ c → b = a)) : (h ≤ r → b = a0 + min W (c + 1)) ∧ (r < h → b = a0) := by
  by_cases g : h ≤ r
  · by_cases g2 : c < W
    · have e1 := hb.1 ⟨g, g2⟩
      have e2 := h3.1 g
      exact ⟨fun _ => by omega, fun g3 => by omega⟩
    · have e1 := hb.2 (Or.inr (by omega))
      have e2 := h3.1 g
      exact ⟨fun _ => by omega, fun g3 => by omega⟩
  · have e1 := hb.2 (Or.inl (by omega))
    have e2 := h3.2 (by omega)
    exact ⟨fun g3 => absurd g3 g, fun _ => by omega⟩
set_option maxRecDepth 100000 in
theorem q_many {E : mE} {σ : wSt} {T : Nat} (hE : wE E) (hW : NWd σ T) (hN : NTy T σ) {P : Option wV → wSt → Prop} {d : Int} (kont : Bt E 116 501 [wr 0, wr 2, wx, wx, wl d, wx, wi (gv σ (T + 1) 9), wi (min (gv σ (T + 1) 12) 20), wi (max 0 (gv σ (T + 1) 9 - gv σ T 10)), wi (gv σ T 11), wx, wx, wx, wx, wx, wx, wx, wx, wx, wx, wx] [] σ P) : Bt E 116 409 [wr 0, wr 2, wx, wx, wl d, wx, wx, wx, wx, wx, wx, wx, wx, wx, wx, wx, wx, wx, wx, wx, wx] [] σ P := by
  have hT : Tb T := hW.tb
  have hS := hW.2.2.2.2.1
  have hI := hS.hI
  have h0 := hI.1
  have hd := hS.2.1.2.2
  have hu := hI.uw
  have hk := kp_cnt hS
  have hk0 := hS.2.2.2.2.2.2.1
  refine B_aloadn rfl my_116 rfl ?_
  refine B_iconst rfl my_116 (by decide) ?_
  refine B_cV hE.1 rfl rfl cw_116_86 (as := [wi 1]) (rest := []) rfl (Nat.le_of_ble_eq_true rfl) (k_many1 hE hW) (fun vo s9 hq => ?_)
  obtain ⟨rfl, rfl⟩ := hq
  show Bt E 116 414 [wr 0, wr 2, wx, wx, wl d, wx, wx, wx, wx, wx, wx, wx, wx, wx, wx, wx, wx, wx, wx, wx, wx] [wi (gv σ (T + 1) 9)] σ _
  refine B_top (fun r1 => ?_)
  refine B_istore rfl my_116 (by decide) rfl (show _ = [wr 0, wr 2, wx, wx, wl d, wx, wi (gv σ (T + 1) 9), wx, wx, wx, wx, wx, wx, wx, wx, wx, wx, wx, wx, wx, wx] from rfl) ?_
  refine B_aloadn rfl my_116 rfl ?_
  refine B_iconst rfl my_116 (by decide) ?_
  refine B_cV hE.1 rfl rfl cw_116_86 (as := [wi 2]) (rest := []) rfl (Nat.le_of_ble_eq_true rfl) (k_many2 hE hW) (fun vo s9 hq => ?_)
  obtain ⟨rfl, rfl⟩ := hq
  show Bt E 116 421 [wr 0, wr 2, wx, wx, wl d, wx, wi (gv σ (T + 1) 9), wx, wx, wx, wx, wx, wx, wx, wx, wx, wx, wx, wx, wx, wx] [wi (min (gv σ (T + 1) 12) 20)] σ _
  refine B_top (fun r2 => ?_)
  refine B_istore rfl my_116 (by decide) rfl (show _ = [wr 0, wr 2, wx, wx, wl d, wx, wi (gv σ (T + 1) 9), wi (min (gv σ (T + 1) 12) 20), wx, wx, wx, wx, wx, wx, wx, wx, wx, wx, wx, wx, wx] from rfl) ?_
  refine B_aloadn rfl my_116 rfl ?_
  refine B_iconst rfl my_116 (by decide) ?_
  refine B_cV hE.1 rfl rfl cw_116_86 (as := [wi 3]) (rest := []) rfl (Nat.le_of_ble_eq_true rfl) (k_many3 hE hW) (fun vo s9 hq => ?_)
  obtain ⟨rfl, rfl⟩ := hq
  show Bt E 116 428 [wr 0, wr 2, wx, wx, wl d, wx, wi (gv σ (T + 1) 9), wi (min (gv σ (T + 1) 12) 20), wx, wx, wx, wx, wx, wx, wx, wx, wx, wx, wx, wx, wx] [wi (max 0 (gv σ (T + 1) 9 - gv σ T 10))] σ _
  refine B_top (fun r3 => ?_)
  refine B_istore rfl my_116 (by decide) rfl (show _ = [wr 0, wr 2, wx, wx, wl d, wx, wi (gv σ (T + 1) 9), wi (min (gv σ (T + 1) 12) 20), wi (max 0 (gv σ (T + 1) 9 - gv σ T 10)), wx, wx, wx, wx, wx, wx, wx, wx, wx, wx, wx, wx] from rfl) ?_
  refine B_aloadn rfl my_116 rfl ?_
  refine B_iconst rfl my_116 (by decide) ?_
  refine B_cV hE.1 rfl rfl cw_116_86 (as := [wi 5]) (rest := []) rfl (Nat.le_of_ble_eq_true rfl) (k_many5 hE hW) (fun vo s9 hq => ?_)
  obtain ⟨rfl, rfl⟩ := hq
  show Bt E 116 435 [wr 0, wr 2, wx, wx, wl d, wx, wi (gv σ (T + 1) 9), wi (min (gv σ (T + 1) 12) 20), wi (max 0 (gv σ (T + 1) 9 - gv σ T 10)), wx, wx, wx, wx, wx, wx, wx, wx, wx, wx, wx, wx] [wi (gv σ T 11)] σ _
  refine B_top (fun r4 => ?_)
  refine B_istore rfl my_116 (by decide) rfl (show _ = [wr 0, wr 2, wx, wx, wl d, wx, wi (gv σ (T + 1) 9), wi (min (gv σ (T + 1) 12) 20), wi (max 0 (gv σ (T + 1) 9 - gv σ T 10)), wi (gv σ T 11), wx, wx, wx, wx, wx, wx, wx, wx, wx, wx, wx] from rfl) ?_
  refine B_iload rfl my_116 rfl ?_
  refine B_iload rfl my_116 rfl ?_
  refine B_ic_gt rfl my_116 rfl (tgt := 499) (nx := 444) rfl rfl (fun c5 => ?_) (fun c5 => ?_)
  · refine B_iconst rfl my_116 (by decide) ?_
    exfalso
    omega
  · refine B_iload rfl my_116 rfl ?_
    refine B_iload rfl my_116 rfl ?_
    refine B_iconst rfl my_116 (by decide) ?_
    refine B_isub rfl my_116 (by omega) (by omega) ?_
    refine B_ic_lt rfl my_116 rfl (tgt := 499) (nx := 453) rfl rfl (fun c6 => ?_) (fun c6 => ?_)
    · refine B_iconst rfl my_116 (by decide) ?_
      exfalso
      omega
    · refine B_iload rfl my_116 rfl ?_
      refine B_iload rfl my_116 rfl ?_
      refine B_ic_gt rfl my_116 rfl (tgt := 499) (nx := 460) rfl rfl (fun c7 => ?_) (fun c7 => ?_)
      · refine B_iconst rfl my_116 (by decide) ?_
        exfalso
        omega
      · refine B_iload rfl my_116 rfl ?_
        refine B_bipush rfl my_116 (n := 20) rfl ?_
        refine B_ic_gt rfl my_116 rfl (tgt := 499) (nx := 467) rfl rfl (fun c8 => ?_) (fun c8 => ?_)
        · refine B_iconst rfl my_116 (by decide) ?_
          exfalso
          omega
        · refine B_aloadn rfl my_116 rfl ?_
          refine B_aloadn rfl my_116 rfl ?_
          refine B_iconst rfl my_116 (by decide) ?_
          refine B_cV hE.1 rfl rfl cw_116_84 (as := [wi 0]) (rest := [wr 2]) rfl (Nat.le_of_ble_eq_true rfl) (k_used0p hE hW) (fun vo s9 hq => ?_)
          obtain ⟨rfl, rfl⟩ := hq
          show Bt E 116 473 [wr 0, wr 2, wx, wx, wl d, wx, wi (gv σ (T + 1) 9), wi (min (gv σ (T + 1) 12) 20), wi (max 0 (gv σ (T + 1) 9 - gv σ T 10)), wi (gv σ T 11), wx, wx, wx, wx, wx, wx, wx, wx, wx, wx, wx] [wi (pn σ), wr 2] σ _
          refine B_top (fun r9 => ?_)
          refine B_cV hE.1 rfl rfl cw_116_98 (as := [wi (pn σ)]) (rest := []) rfl (Nat.le_of_ble_eq_true rfl) (k_keptWith hE hW) (fun vo s9 hq => ?_)
          obtain ⟨rfl, rfl⟩ := hq
          show Bt E 116 476 [wr 0, wr 2, wx, wx, wl d, wx, wi (gv σ (T + 1) 9), wi (min (gv σ (T + 1) 12) 20), wi (max 0 (gv σ (T + 1) 9 - gv σ T 10)), wi (gv σ T 11), wx, wx, wx, wx, wx, wx, wx, wx, wx, wx, wx] [wi (gv σ T 11)] σ _
          refine B_top (fun r10 => ?_)
          refine B_iload rfl my_116 rfl ?_
          refine B_ic_ne rfl my_116 rfl (tgt := 499) (nx := 481) rfl rfl (fun c11 => ?_) (fun c11 => ?_)
          · refine B_iconst rfl my_116 (by decide) ?_
            exfalso
            omega
          · refine B_iload rfl my_116 rfl ?_
            refine B_if_le rfl my_116 rfl (tgt := 501) (nx := 486) rfl rfl (fun c12 => ?_) (fun c12 => ?_)
            · exact kont
            · refine B_aloadn rfl my_116 rfl ?_
              refine B_iconst rfl my_116 (by decide) ?_
              refine B_cV hE.1 rfl rfl cw_116_84 (as := [wi 2]) (rest := []) rfl (Nat.le_of_ble_eq_true rfl) (k_used2 hE hW) (fun vo s9 hq => ?_)
              obtain ⟨rfl, rfl⟩ := hq
              show Bt E 116 491 [wr 0, wr 2, wx, wx, wl d, wx, wi (gv σ (T + 1) 9), wi (min (gv σ (T + 1) 12) 20), wi (max 0 (gv σ (T + 1) 9 - gv σ T 10)), wi (gv σ T 11), wx, wx, wx, wx, wx, wx, wx, wx, wx, wx, wx] [wi (gv σ T 10)] σ _
              refine B_top (fun r13 => ?_)
              refine B_iload rfl my_116 rfl ?_
              refine B_iload rfl my_116 rfl ?_
              refine B_isub rfl my_116 (by omega) (by omega) ?_
              refine B_ic_eq rfl my_116 rfl (tgt := 501) (nx := 499) rfl rfl (fun c14 => ?_) (fun c14 => ?_)
              · exact kont
              · refine B_iconst rfl my_116 (by decide) ?_
                exfalso
                omega
set_option maxRecDepth 100000 in
theorem t_c3 {E : mE} {σ : wSt} {T : Nat} (hE : wE E) (hW : NWd σ T) (hN : NTy T σ) {P : Option wV → wSt → Prop} {d a m r c : Int} (hr1 : 0 ≤ r) (hr2 : r < gv σ (T + 1) 9) (hc1 : 0 ≤ c) (hc2 : c < min (rd σ (T + 14) 60 r) 20) {x k : Int} (hx : x = rd σ (T + 6) 501 (ca σ T r c)) (hx0 : 0 ≤ x ∧ x ≤ 500) (kont : Bt E 116 673 [wr 0, wr 2, wx, wx, wl d, wx, wi (gv σ (T + 1) 9), wi (min (gv σ (T + 1) 12) 20), wi (max 0 (gv σ (T + 1) 9 - gv σ T 10)), wi (gv σ T 11), wi a, wi m, wi r, wi c, wi x, wi k, wx, wx, wx, wx, wx] [] σ P) : Bt E 116 637 [wr 0, wr 2, wx, wx, wl d, wx, wi (gv σ (T + 1) 9), wi (min (gv σ (T + 1) 12) 20), wi (max 0 (gv σ (T + 1) 9 - gv σ T 10)), wi (gv σ T 11), wi a, wi m, wi r, wi c, wi x, wi k, wx, wx, wx, wx, wx] [] σ P := by
  refine B_aloadn rfl my_116 rfl ?_
  refine B_iload rfl my_116 rfl ?_
  refine B_iload rfl my_116 rfl ?_
  refine B_iload rfl my_116 rfl ?_
  refine B_cV hE.1 rfl rfl cw_116_89 (as := [wi r, wi c, wi x]) (rest := []) rfl (Nat.le_of_ble_eq_true rfl) (k_signAt hE hW hr1 hr2 hc1 hc2) (fun vo s9 hq => ?_)
  obtain ⟨x1, rfl, hz2, rfl⟩ := hq
  show Bt E 116 647 [wr 0, wr 2, wx, wx, wl d, wx, wi (gv σ (T + 1) 9), wi (min (gv σ (T + 1) 12) 20), wi (max 0 (gv σ (T + 1) 9 - gv σ T 10)), wi (gv σ T 11), wi a, wi m, wi r, wi c, wi x, wi k, wx, wx, wx, wx, wx] [wi x1] σ _
  refine B_top (fun r3 => ?_)
  refine B_iconst rfl my_116 (by decide) ?_
  refine B_ic_ne rfl my_116 rfl (tgt := 671) (nx := 651) rfl rfl (fun c4 => ?_) (fun c4 => ?_)
  · refine B_iconst rfl my_116 (by decide) ?_
    exfalso
    omega
  · refine B_iload rfl my_116 rfl ?_
    refine B_if_le rfl my_116 rfl (tgt := 673) (nx := 656) rfl rfl (fun c5 => ?_) (fun c5 => ?_)
    · exact kont
    · refine B_aloadn rfl my_116 rfl ?_
      refine B_iload rfl my_116 rfl ?_
      refine B_iload rfl my_116 rfl ?_
      refine B_iload rfl my_116 rfl ?_
      refine B_iconst rfl my_116 (by decide) ?_
      refine B_isub rfl my_116 (by omega) (by omega) ?_
      refine B_cV hE.1 rfl rfl cw_116_89 (as := [wi r, wi c, wi (x - 1)]) (rest := []) rfl (Nat.le_of_ble_eq_true rfl) (k_signAt hE hW hr1 hr2 hc1 hc2) (fun vo s9 hq => ?_)
      obtain ⟨x6, rfl, hz7, rfl⟩ := hq
      show Bt E 116 668 [wr 0, wr 2, wx, wx, wl d, wx, wi (gv σ (T + 1) 9), wi (min (gv σ (T + 1) 12) 20), wi (max 0 (gv σ (T + 1) 9 - gv σ T 10)), wi (gv σ T 11), wi a, wi m, wi r, wi c, wi x, wi k, wx, wx, wx, wx, wx] [wi x6] σ _
      refine B_top (fun r8 => ?_)
      refine B_if_ge rfl my_116 rfl (tgt := 673) (nx := 671) rfl rfl (fun c9 => ?_) (fun c9 => ?_)
      · exact kont
      · refine B_iconst rfl my_116 (by decide) ?_
        exfalso
        omega
set_option maxRecDepth 100000 in
theorem t_c2 {E : mE} {σ : wSt} {T : Nat} (hE : wE E) (hW : NWd σ T) (hN : NTy T σ) {P : Option wV → wSt → Prop} {d a m r c : Int} (hr1 : 0 ≤ r) (hr2 : r < gv σ (T + 1) 9) (hc1 : 0 ≤ c) (hc2 : c < min (rd σ (T + 14) 60 r) 20) {x k : Int} (hk : 0 ≤ k ∧ k ≤ 5) (h5 : k = 5 → rd σ (T + 27) 501 (ca σ T r c) = x) (kont : Bt E 116 637 [wr 0, wr 2, wx, wx, wl d, wx, wi (gv σ (T + 1) 9), wi (min (gv σ (T + 1) 12) 20), wi (max 0 (gv σ (T + 1) 9 - gv σ T 10)), wi (gv σ T 11), wi a, wi m, wi r, wi c, wi x, wi k, wx, wx, wx, wx, wx] [] σ P) : Bt E 116 606 [wr 0, wr 2, wx, wx, wl d, wx, wi (gv σ (T + 1) 9), wi (min (gv σ (T + 1) 12) 20), wi (max 0 (gv σ (T + 1) 9 - gv σ T 10)), wi (gv σ T 11), wi a, wi m, wi r, wi c, wi x, wi k, wx, wx, wx, wx, wx] [] σ P := by
  refine B_iload rfl my_116 rfl ?_
  refine B_if_lt rfl my_116 rfl (tgt := 671) (nx := 611) rfl rfl (fun c1 => ?_) (fun c1 => ?_)
  · refine B_iconst rfl my_116 (by decide) ?_
    exfalso
    omega
  · refine B_iload rfl my_116 rfl ?_
    refine B_iconst rfl my_116 (by decide) ?_
    refine B_ic_gt rfl my_116 rfl (tgt := 671) (nx := 617) rfl rfl (fun c2 => ?_) (fun c2 => ?_)
    · refine B_iconst rfl my_116 (by decide) ?_
      exfalso
      omega
    · refine B_iload rfl my_116 rfl ?_
      refine B_iconst rfl my_116 (by decide) ?_
      refine B_ic_ne rfl my_116 rfl (tgt := 637) (nx := 623) rfl rfl (fun c3 => ?_) (fun c3 => ?_)
      · exact kont
      · refine B_aloadn rfl my_116 rfl ?_
        refine B_iload rfl my_116 rfl ?_
        refine B_iload rfl my_116 rfl ?_
        refine B_iconst rfl my_116 (by decide) ?_
        refine B_cV hE.1 rfl rfl cw_116_88 (as := [wi r, wi c, wi 1]) (rest := []) rfl (Nat.le_of_ble_eq_true rfl) (k_cell1 hE hW hr1 hr2 hc1 hc2) (fun vo s9 hq => ?_)
        obtain ⟨rfl, rfl⟩ := hq
        show Bt E 116 632 [wr 0, wr 2, wx, wx, wl d, wx, wi (gv σ (T + 1) 9), wi (min (gv σ (T + 1) 12) 20), wi (max 0 (gv σ (T + 1) 9 - gv σ T 10)), wi (gv σ T 11), wi a, wi m, wi r, wi c, wi x, wi k, wx, wx, wx, wx, wx] [wi (rd σ (T + 27) 501 (ca σ T r c))] σ _
        refine B_top (fun r4 => ?_)
        refine B_iload rfl my_116 rfl ?_
        refine B_ic_ne rfl my_116 rfl (tgt := 671) (nx := 637) rfl rfl (fun c5 => ?_) (fun c5 => ?_)
        · refine B_iconst rfl my_116 (by decide) ?_
          exfalso
          omega
        · exact kont
set_option maxRecDepth 100000 in
theorem t_c1 {E : mE} {σ : wSt} {T : Nat} (hE : wE E) (hW : NWd σ T) (hN : NTy T σ) {P : Option wV → wSt → Prop} {d a m r c : Int} (hr1 : 0 ≤ r) (hr2 : r < gv σ (T + 1) 9) (hc1 : 0 ≤ c) (hc2 : c < min (rd σ (T + 14) 60 r) 20) (hz : rd σ (T + 25) 501 (ca σ T r c) = 0 ↔ rd σ (T + 6) 501 (ca σ T r c) = 0) (kont : Bt E 116 606 [wr 0, wr 2, wx, wx, wl d, wx, wi (gv σ (T + 1) 9), wi (min (gv σ (T + 1) 12) 20), wi (max 0 (gv σ (T + 1) 9 - gv σ T 10)), wi (gv σ T 11), wi a, wi m, wi r, wi c, wi (rd σ (T + 6) 501 (ca σ T r c)), wi (rd σ (T + 25) 501 (ca σ T r c)), wx, wx, wx, wx, wx] [] σ P) : Bt E 116 561 [wr 0, wr 2, wx, wx, wl d, wx, wi (gv σ (T + 1) 9), wi (min (gv σ (T + 1) 12) 20), wi (max 0 (gv σ (T + 1) 9 - gv σ T 10)), wi (gv σ T 11), wi a, wi m, wi r, wi c, wx, wx, wx, wx, wx, wx, wx] [] σ P := by
  refine B_aloadn rfl my_116 rfl ?_
  refine B_iload rfl my_116 rfl ?_
  refine B_iload rfl my_116 rfl ?_
  refine B_iconst rfl my_116 (by decide) ?_
  refine B_cV hE.1 rfl rfl cw_116_88 (as := [wi r, wi c, wi 2]) (rest := []) rfl (Nat.le_of_ble_eq_true rfl) (k_cell2 hE hW hr1 hr2 hc1 hc2) (fun vo s9 hq => ?_)
  obtain ⟨rfl, rfl⟩ := hq
  show Bt E 116 570 [wr 0, wr 2, wx, wx, wl d, wx, wi (gv σ (T + 1) 9), wi (min (gv σ (T + 1) 12) 20), wi (max 0 (gv σ (T + 1) 9 - gv σ T 10)), wi (gv σ T 11), wi a, wi m, wi r, wi c, wx, wx, wx, wx, wx, wx, wx] [wi (rd σ (T + 6) 501 (ca σ T r c))] σ _
  refine B_top (fun r1 => ?_)
  refine B_istore rfl my_116 (by decide) rfl (show _ = [wr 0, wr 2, wx, wx, wl d, wx, wi (gv σ (T + 1) 9), wi (min (gv σ (T + 1) 12) 20), wi (max 0 (gv σ (T + 1) 9 - gv σ T 10)), wi (gv σ T 11), wi a, wi m, wi r, wi c, wi (rd σ (T + 6) 501 (ca σ T r c)), wx, wx, wx, wx, wx, wx] from rfl) ?_
  refine B_aloadn rfl my_116 rfl ?_
  refine B_iload rfl my_116 rfl ?_
  refine B_iload rfl my_116 rfl ?_
  refine B_iconst rfl my_116 (by decide) ?_
  refine B_cV hE.1 rfl rfl cw_116_88 (as := [wi r, wi c, wi 0]) (rest := []) rfl (Nat.le_of_ble_eq_true rfl) (k_cell0 hE hW hr1 hr2 hc1 hc2) (fun vo s9 hq => ?_)
  obtain ⟨rfl, rfl⟩ := hq
  show Bt E 116 581 [wr 0, wr 2, wx, wx, wl d, wx, wi (gv σ (T + 1) 9), wi (min (gv σ (T + 1) 12) 20), wi (max 0 (gv σ (T + 1) 9 - gv σ T 10)), wi (gv σ T 11), wi a, wi m, wi r, wi c, wi (rd σ (T + 6) 501 (ca σ T r c)), wx, wx, wx, wx, wx, wx] [wi (rd σ (T + 25) 501 (ca σ T r c))] σ _
  refine B_top (fun r2 => ?_)
  refine B_istore rfl my_116 (by decide) rfl (show _ = [wr 0, wr 2, wx, wx, wl d, wx, wi (gv σ (T + 1) 9), wi (min (gv σ (T + 1) 12) 20), wi (max 0 (gv σ (T + 1) 9 - gv σ T 10)), wi (gv σ T 11), wi a, wi m, wi r, wi c, wi (rd σ (T + 6) 501 (ca σ T r c)), wi (rd σ (T + 25) 501 (ca σ T r c)), wx, wx, wx, wx, wx] from rfl) ?_
  refine B_iload rfl my_116 rfl ?_
  refine B_if_ne rfl my_116 rfl (tgt := 592) (nx := 588) rfl rfl (fun c3 => ?_) (fun c3 => ?_)
  · refine B_iconst rfl my_116 (by decide) ?_
    refine B_iload rfl my_116 rfl ?_
    refine B_if_ne rfl my_116 rfl (tgt := 602) (nx := 598) rfl rfl (fun c4 => ?_) (fun c4 => ?_)
    · refine B_iconst rfl my_116 (by decide) ?_
      refine B_ic_ne rfl my_116 rfl (tgt := 671) (nx := 606) rfl rfl (fun c9 => absurd c9 (by decide)) (fun _ => ?_)
      show Bt E 116 606 [wr 0, wr 2, wx, wx, wl d, wx, wi (gv σ (T + 1) 9), wi (min (gv σ (T + 1) 12) 20), wi (max 0 (gv σ (T + 1) 9 - gv σ T 10)), wi (gv σ T 11), wi a, wi m, wi r, wi c, wi (rd σ (T + 6) 501 (ca σ T r c)), wi (rd σ (T + 25) 501 (ca σ T r c)), wx, wx, wx, wx, wx] [] σ _
      exact kont
    · refine B_iconst rfl my_116 (by decide) ?_
      refine B_goto rfl my_116 rfl (tgt := 603) rfl ?_
      refine B_ic_ne rfl my_116 rfl (tgt := 671) (nx := 606) rfl rfl (fun _ => ?_) (fun c9 => absurd c9 (by decide))
      show Bt E 116 671 [wr 0, wr 2, wx, wx, wl d, wx, wi (gv σ (T + 1) 9), wi (min (gv σ (T + 1) 12) 20), wi (max 0 (gv σ (T + 1) 9 - gv σ T 10)), wi (gv σ T 11), wi a, wi m, wi r, wi c, wi (rd σ (T + 6) 501 (ca σ T r c)), wi (rd σ (T + 25) 501 (ca σ T r c)), wx, wx, wx, wx, wx] [] σ _
      refine B_iconst rfl my_116 (by decide) ?_
      exfalso
      omega
  · refine B_iconst rfl my_116 (by decide) ?_
    refine B_goto rfl my_116 rfl (tgt := 593) rfl ?_
    refine B_iload rfl my_116 rfl ?_
    refine B_if_ne rfl my_116 rfl (tgt := 602) (nx := 598) rfl rfl (fun c7 => ?_) (fun c7 => ?_)
    · refine B_iconst rfl my_116 (by decide) ?_
      refine B_ic_ne rfl my_116 rfl (tgt := 671) (nx := 606) rfl rfl (fun _ => ?_) (fun c9 => absurd c9 (by decide))
      show Bt E 116 671 [wr 0, wr 2, wx, wx, wl d, wx, wi (gv σ (T + 1) 9), wi (min (gv σ (T + 1) 12) 20), wi (max 0 (gv σ (T + 1) 9 - gv σ T 10)), wi (gv σ T 11), wi a, wi m, wi r, wi c, wi (rd σ (T + 6) 501 (ca σ T r c)), wi (rd σ (T + 25) 501 (ca σ T r c)), wx, wx, wx, wx, wx] [] σ _
      refine B_iconst rfl my_116 (by decide) ?_
      exfalso
      omega
    · refine B_iconst rfl my_116 (by decide) ?_
      refine B_goto rfl my_116 rfl (tgt := 603) rfl ?_
      refine B_ic_ne rfl my_116 rfl (tgt := 671) (nx := 606) rfl rfl (fun c9 => absurd c9 (by decide)) (fun _ => ?_)
      show Bt E 116 606 [wr 0, wr 2, wx, wx, wl d, wx, wi (gv σ (T + 1) 9), wi (min (gv σ (T + 1) 12) 20), wi (max 0 (gv σ (T + 1) 9 - gv σ T 10)), wi (gv σ T 11), wi a, wi m, wi r, wi c, wi (rd σ (T + 6) 501 (ca σ T r c)), wi (rd σ (T + 25) 501 (ca σ T r c)), wx, wx, wx, wx, wx] [] σ _
      exact kont
set_option maxRecDepth 100000 in
theorem t_c4 {E : mE} {σ : wSt} {T : Nat} (hE : wE E) (hW : NWd σ T) (hN : NTy T σ) {P : Option wV → wSt → Prop} {d a m r c : Int} (hr1 : 0 ≤ r) (hr2 : r < gv σ (T + 1) 9) (hc1 : 0 ≤ c) (hc2 : c < min (rd σ (T + 14) 60 r) 20) {x k : Int} (ha : 0 ≤ a ∧ a ≤ 100000) (kont : ∀ b, ((gv σ T 10 ≤ r ∧ c < min (gv σ (T + 1) 12) 20 → b = a + 1) ∧ (r < gv σ T 10 ∨ min (gv σ (T + 1) 12) 20 ≤ c → b = a)) → Bt E 116 545 [wr 0, wr 2, wx, wx, wl d, wx, wi (gv σ (T + 1) 9), wi (min (gv σ (T + 1) 12) 20), wi (max 0 (gv σ (T + 1) 9 - gv σ T 10)), wi (gv σ T 11), wi b, wi m, wi r, wi (c + 1), wx, wx, wx, wx, wx, wx, wx] [] σ P) : Bt E 116 673 [wr 0, wr 2, wx, wx, wl d, wx, wi (gv σ (T + 1) 9), wi (min (gv σ (T + 1) 12) 20), wi (max 0 (gv σ (T + 1) 9 - gv σ T 10)), wi (gv σ T 11), wi a, wi m, wi r, wi c, wi x, wi k, wx, wx, wx, wx, wx] [] σ P := by
  have hT : Tb T := hW.tb
  have hS := hW.2.2.2.2.1
  have hI := hS.hI
  have h0 := hI.1
  have hd := hS.2.1.2.2
  have hu := hI.uw
  refine B_iload rfl my_116 rfl ?_
  refine B_iload rfl my_116 rfl ?_
  refine B_iload rfl my_116 rfl ?_
  refine B_iload rfl my_116 rfl ?_
  refine B_isub rfl my_116 (by omega) (by omega) ?_
  refine B_ic_lt rfl my_116 rfl (tgt := 696) (nx := 685) rfl rfl (fun c1 => ?_) (fun c1 => ?_)
  · refine B_iconst rfl my_116 (by decide) ?_
    refine B_iadd rfl my_116 (by omega) (by omega) ?_
    refine B_istore rfl my_116 (by decide) rfl (show _ = [wr 0, wr 2, wx, wx, wl d, wx, wi (gv σ (T + 1) 9), wi (min (gv σ (T + 1) 12) 20), wi (max 0 (gv σ (T + 1) 9 - gv σ T 10)), wi (gv σ T 11), wi (a + 0), wi m, wi r, wi c, wi x, wi k, wx, wx, wx, wx, wx] from rfl) ?_
    refine B_iinc rfl my_116 (by decide) rfl rfl rfl (by omega) (by omega) (show _ = [wr 0, wr 2, wx, wx, wl d, wx, wi (gv σ (T + 1) 9), wi (min (gv σ (T + 1) 12) 20), wi (max 0 (gv σ (T + 1) 9 - gv σ T 10)), wi (gv σ T 11), wi (a + 0), wi m, wi r, wi (c + 1), wi x, wi k, wx, wx, wx, wx, wx] from rfl) ?_
    refine B_goto rfl my_116 rfl (tgt := 545) rfl ?_
    refine B_loc (l' := [wr 0, wr 2, wx, wx, wl d, wx, wi (gv σ (T + 1) 9), wi (min (gv σ (T + 1) 12) 20), wi (max 0 (gv σ (T + 1) 9 - gv σ T 10)), wi (gv σ T 11), wi (a + 0), wi m, wi r, wi (c + 1), wx, wx, wx, wx, wx, wx, wx]) ⟨Or.inl rfl, Or.inl rfl, Or.inl rfl, Or.inl rfl, Or.inl rfl, Or.inl rfl, Or.inl rfl, Or.inl rfl, Or.inl rfl, Or.inl rfl, Or.inl rfl, Or.inl rfl, Or.inl rfl, Or.inl rfl, Or.inr rfl, Or.inr rfl, Or.inl rfl, Or.inl rfl, Or.inl rfl, Or.inl rfl, Or.inl rfl, trivial⟩ ?_
    exact kont _ (by omega)
  · refine B_iload rfl my_116 rfl ?_
    refine B_iload rfl my_116 rfl ?_
    refine B_ic_ge rfl my_116 rfl (tgt := 696) (nx := 692) rfl rfl (fun c2 => ?_) (fun c2 => ?_)
    · refine B_iconst rfl my_116 (by decide) ?_
      refine B_iadd rfl my_116 (by omega) (by omega) ?_
      refine B_istore rfl my_116 (by decide) rfl (show _ = [wr 0, wr 2, wx, wx, wl d, wx, wi (gv σ (T + 1) 9), wi (min (gv σ (T + 1) 12) 20), wi (max 0 (gv σ (T + 1) 9 - gv σ T 10)), wi (gv σ T 11), wi (a + 0), wi m, wi r, wi c, wi x, wi k, wx, wx, wx, wx, wx] from rfl) ?_
      refine B_iinc rfl my_116 (by decide) rfl rfl rfl (by omega) (by omega) (show _ = [wr 0, wr 2, wx, wx, wl d, wx, wi (gv σ (T + 1) 9), wi (min (gv σ (T + 1) 12) 20), wi (max 0 (gv σ (T + 1) 9 - gv σ T 10)), wi (gv σ T 11), wi (a + 0), wi m, wi r, wi (c + 1), wi x, wi k, wx, wx, wx, wx, wx] from rfl) ?_
      refine B_goto rfl my_116 rfl (tgt := 545) rfl ?_
      refine B_loc (l' := [wr 0, wr 2, wx, wx, wl d, wx, wi (gv σ (T + 1) 9), wi (min (gv σ (T + 1) 12) 20), wi (max 0 (gv σ (T + 1) 9 - gv σ T 10)), wi (gv σ T 11), wi (a + 0), wi m, wi r, wi (c + 1), wx, wx, wx, wx, wx, wx, wx]) ⟨Or.inl rfl, Or.inl rfl, Or.inl rfl, Or.inl rfl, Or.inl rfl, Or.inl rfl, Or.inl rfl, Or.inl rfl, Or.inl rfl, Or.inl rfl, Or.inl rfl, Or.inl rfl, Or.inl rfl, Or.inl rfl, Or.inr rfl, Or.inr rfl, Or.inl rfl, Or.inl rfl, Or.inl rfl, Or.inl rfl, Or.inl rfl, trivial⟩ ?_
      exact kont _ (by omega)
    · refine B_iconst rfl my_116 (by decide) ?_
      refine B_goto rfl my_116 rfl (tgt := 697) rfl ?_
      refine B_iadd rfl my_116 (by omega) (by omega) ?_
      refine B_istore rfl my_116 (by decide) rfl (show _ = [wr 0, wr 2, wx, wx, wl d, wx, wi (gv σ (T + 1) 9), wi (min (gv σ (T + 1) 12) 20), wi (max 0 (gv σ (T + 1) 9 - gv σ T 10)), wi (gv σ T 11), wi (a + 1), wi m, wi r, wi c, wi x, wi k, wx, wx, wx, wx, wx] from rfl) ?_
      refine B_iinc rfl my_116 (by decide) rfl rfl rfl (by omega) (by omega) (show _ = [wr 0, wr 2, wx, wx, wl d, wx, wi (gv σ (T + 1) 9), wi (min (gv σ (T + 1) 12) 20), wi (max 0 (gv σ (T + 1) 9 - gv σ T 10)), wi (gv σ T 11), wi (a + 1), wi m, wi r, wi (c + 1), wi x, wi k, wx, wx, wx, wx, wx] from rfl) ?_
      refine B_goto rfl my_116 rfl (tgt := 545) rfl ?_
      refine B_loc (l' := [wr 0, wr 2, wx, wx, wl d, wx, wi (gv σ (T + 1) 9), wi (min (gv σ (T + 1) 12) 20), wi (max 0 (gv σ (T + 1) 9 - gv σ T 10)), wi (gv σ T 11), wi (a + 1), wi m, wi r, wi (c + 1), wx, wx, wx, wx, wx, wx, wx]) ⟨Or.inl rfl, Or.inl rfl, Or.inl rfl, Or.inl rfl, Or.inl rfl, Or.inl rfl, Or.inl rfl, Or.inl rfl, Or.inl rfl, Or.inl rfl, Or.inl rfl, Or.inl rfl, Or.inl rfl, Or.inl rfl, Or.inr rfl, Or.inr rfl, Or.inl rfl, Or.inl rfl, Or.inl rfl, Or.inl rfl, Or.inl rfl, trivial⟩ ?_
      exact kont _ (by omega)
set_option maxRecDepth 100000 in
theorem l_rcell {E : mE} {σ : wSt} {T : Nat} (hE : wE E) (hW : NWd σ T) (hN : NTy T σ) {P : Option wV → wSt → Prop} {d a0 m r : Int} (hr1 : 0 ≤ r) (hr2 : r < gv σ (T + 1) 9) (ha : 0 ≤ a0 ∧ a0 ≤ 1200) (kont : ∀ a, ((gv σ T 10 ≤ r → a = a0 + min (min (gv σ (T + 1) 12) 20) (min (rd σ (T + 14) 60 r) 20)) ∧ (r < gv σ T 10 → a = a0)) → Bt E 116 706 [wr 0, wr 2, wx, wx, wl d, wx, wi (gv σ (T + 1) 9), wi (min (gv σ (T + 1) 12) 20), wi (max 0 (gv σ (T + 1) 9 - gv σ T 10)), wi (gv σ T 11), wi a, wi m, wi r, wx, wx, wx, wx, wx, wx, wx, wx] [] σ P) : ∀ (k : Nat) (a c : Int), 0 ≤ c → c ≤ min (rd σ (T + 14) 60 r) 20 → (gv σ T 10 ≤ r → a = a0 + min (min (gv σ (T + 1) 12) 20) c) ∧ (r < gv σ T 10 → a = a0) → (20 - c).toNat ≤ k → Bt E 116 545 [wr 0, wr 2, wx, wx, wl d, wx, wi (gv σ (T + 1) 9), wi (min (gv σ (T + 1) 12) 20), wi (max 0 (gv σ (T + 1) 9 - gv σ T 10)), wi (gv σ T 11), wi a, wi m, wi r, wi c, wx, wx, wx, wx, wx, wx, wx] [] σ P := by
  intro k
  induction k with
  | zero =>
    intro a c h1 h2 h3 hm
    have hT : Tb T := hW.tb
    have hS := hW.2.2.2.2.1
    have hI := hS.hI
    have h0 := hI.1
    have hd := hS.2.1.2.2
    have hu := hI.uw
    have hwd := hI.2.1 r hr1 hr2
    refine B_rng 6 rfl (fun ha6 => ?_)
    refine B_rng 7 rfl (fun ha7 => ?_)
    refine B_rng 8 rfl (fun ha8 => ?_)
    refine B_rng 9 rfl (fun ha9 => ?_)
    refine B_rng 10 rfl (fun ha10 => ?_)
    refine B_rng 11 rfl (fun ha11 => ?_)
    refine B_rng 12 rfl (fun ha12 => ?_)
    refine B_rng 13 rfl (fun ha13 => ?_)
    refine B_iload rfl my_116 rfl ?_
    refine B_bipush rfl my_116 (n := 20) rfl ?_
    refine B_aloadn rfl my_116 rfl ?_
    refine B_iload rfl my_116 rfl ?_
    refine B_cV hE.1 rfl rfl cw_116_87 (as := [wi r]) (rest := [wi 20, wi c]) rfl (Nat.le_of_ble_eq_true rfl) (k_width hE hW (by omega) (by omega)) (fun vo s9 hq => ?_)
    obtain ⟨rfl, rfl⟩ := hq
    show Bt E 116 555 [wr 0, wr 2, wx, wx, wl d, wx, wi (gv σ (T + 1) 9), wi (min (gv σ (T + 1) 12) 20), wi (max 0 (gv σ (T + 1) 9 - gv σ T 10)), wi (gv σ T 11), wi a, wi m, wi r, wi c, wx, wx, wx, wx, wx, wx, wx] [wi (rd σ (T + 14) 60 r), wi 20, wi c] σ _
    refine B_top (fun r1 => ?_)
    refine B_min rfl (show wsp 116 1 = true from by decide +kernel) ?_
    refine B_ic_ge rfl my_116 rfl (tgt := 706) (nx := 561) rfl rfl (fun c2 => ?_) (fun c2 => ?_)
    · refine B_loc (l' := [wr 0, wr 2, wx, wx, wl d, wx, wi (gv σ (T + 1) 9), wi (min (gv σ (T + 1) 12) 20), wi (max 0 (gv σ (T + 1) 9 - gv σ T 10)), wi (gv σ T 11), wi a, wi m, wi r, wx, wx, wx, wx, wx, wx, wx, wx]) ⟨Or.inl rfl, Or.inl rfl, Or.inl rfl, Or.inl rfl, Or.inl rfl, Or.inl rfl, Or.inl rfl, Or.inl rfl, Or.inl rfl, Or.inl rfl, Or.inl rfl, Or.inl rfl, Or.inl rfl, Or.inr rfl, Or.inl rfl, Or.inl rfl, Or.inl rfl, Or.inl rfl, Or.inl rfl, Or.inl rfl, Or.inl rfl, trivial⟩ ?_
      exact kont _ (by omega)
    · exact absurd hm (by omega)
  | succ k ih =>
    intro a c h1 h2 h3 hm
    have hT : Tb T := hW.tb
    have hS := hW.2.2.2.2.1
    have hI := hS.hI
    have h0 := hI.1
    have hd := hS.2.1.2.2
    have hu := hI.uw
    have hwd := hI.2.1 r hr1 hr2
    refine B_rng 6 rfl (fun ha6 => ?_)
    refine B_rng 7 rfl (fun ha7 => ?_)
    refine B_rng 8 rfl (fun ha8 => ?_)
    refine B_rng 9 rfl (fun ha9 => ?_)
    refine B_rng 10 rfl (fun ha10 => ?_)
    refine B_rng 11 rfl (fun ha11 => ?_)
    refine B_rng 12 rfl (fun ha12 => ?_)
    refine B_rng 13 rfl (fun ha13 => ?_)
    refine B_iload rfl my_116 rfl ?_
    refine B_bipush rfl my_116 (n := 20) rfl ?_
    refine B_aloadn rfl my_116 rfl ?_
    refine B_iload rfl my_116 rfl ?_
    refine B_cV hE.1 rfl rfl cw_116_87 (as := [wi r]) (rest := [wi 20, wi c]) rfl (Nat.le_of_ble_eq_true rfl) (k_width hE hW (by omega) (by omega)) (fun vo s9 hq => ?_)
    obtain ⟨rfl, rfl⟩ := hq
    show Bt E 116 555 [wr 0, wr 2, wx, wx, wl d, wx, wi (gv σ (T + 1) 9), wi (min (gv σ (T + 1) 12) 20), wi (max 0 (gv σ (T + 1) 9 - gv σ T 10)), wi (gv σ T 11), wi a, wi m, wi r, wi c, wx, wx, wx, wx, wx, wx, wx] [wi (rd σ (T + 14) 60 r), wi 20, wi c] σ _
    refine B_top (fun r1 => ?_)
    refine B_min rfl (show wsp 116 1 = true from by decide +kernel) ?_
    refine B_ic_ge rfl my_116 rfl (tgt := 706) (nx := 561) rfl rfl (fun c2 => ?_) (fun c2 => ?_)
    · refine B_loc (l' := [wr 0, wr 2, wx, wx, wl d, wx, wi (gv σ (T + 1) 9), wi (min (gv σ (T + 1) 12) 20), wi (max 0 (gv σ (T + 1) 9 - gv σ T 10)), wi (gv σ T 11), wi a, wi m, wi r, wx, wx, wx, wx, wx, wx, wx, wx]) ⟨Or.inl rfl, Or.inl rfl, Or.inl rfl, Or.inl rfl, Or.inl rfl, Or.inl rfl, Or.inl rfl, Or.inl rfl, Or.inl rfl, Or.inl rfl, Or.inl rfl, Or.inl rfl, Or.inl rfl, Or.inr rfl, Or.inl rfl, Or.inl rfl, Or.inl rfl, Or.inl rfl, Or.inl rfl, Or.inl rfl, Or.inl rfl, trivial⟩ ?_
      exact kont _ (by omega)
    · have hc2 : c < min (rd σ (T + 14) 60 r) 20 := by omega
      have g : 0 ≤ ca σ T r c ∧ ca σ T r c < gv σ (T + 1) 8 := by
        have gc := ca_c hI (r := r) (c := c)
        omega
      have nc := (hS.2.2.1 (ca σ T r c) g.1 g.2).2.2
      unfold NCf at nc
      have gl := hI.2.2.1 (ca σ T r c) g.1 g.2
      refine t_c1 hE hW hN hr1 hr2 h1 hc2 nc.2.2.1 (t_c2 hE hW hN hr1 hr2 h1 hc2 ⟨nc.1, nc.2.1⟩ nc.2.2.2.1 (t_c3 hE hW hN hr1 hr2 h1 hc2 rfl ⟨gl.1, gl.2.1⟩ (t_c4 hE hW hN hr1 hr2 h1 hc2 (by omega) (fun b hb => ?_))))
      clear nc gl g hwd hu hd h0
      exact ih _ _ (by omega) (by omega) (rc_step h3 hb) (by omega)
set_option maxRecDepth 100000 in
theorem t_row {E : mE} {σ : wSt} {T : Nat} (hE : wE E) (hW : NWd σ T) (hN : NTy T σ) {P : Option wV → wSt → Prop} {d a m r : Int} (hr1 : 0 ≤ r) (hr2 : r < gv σ (T + 1) 9) (kont : Bt E 116 510 [wr 0, wr 2, wx, wx, wl d, wx, wi (gv σ (T + 1) 9), wi (min (gv σ (T + 1) 12) 20), wi (max 0 (gv σ (T + 1) 9 - gv σ T 10)), wi (gv σ T 11), wi a, wi m, wi (r + 1), wx, wx, wx, wx, wx, wx, wx, wx] [] σ P) : Bt E 116 706 [wr 0, wr 2, wx, wx, wl d, wx, wi (gv σ (T + 1) 9), wi (min (gv σ (T + 1) 12) 20), wi (max 0 (gv σ (T + 1) 9 - gv σ T 10)), wi (gv σ T 11), wi a, wi m, wi r, wx, wx, wx, wx, wx, wx, wx, wx] [] σ P := by
  have hT : Tb T := hW.tb
  have hS := hW.2.2.2.2.1
  have hI := hS.hI
  have h0 := hI.1
  have hd := hS.2.1.2.2
  have hu := hI.uw
  refine B_rng 6 rfl (fun ha6 => ?_)
  refine B_rng 7 rfl (fun ha7 => ?_)
  refine B_rng 8 rfl (fun ha8 => ?_)
  refine B_rng 9 rfl (fun ha9 => ?_)
  refine B_rng 10 rfl (fun ha10 => ?_)
  refine B_rng 11 rfl (fun ha11 => ?_)
  refine B_rng 12 rfl (fun ha12 => ?_)
  refine B_iinc rfl my_116 (by decide) rfl rfl rfl (by omega) (by omega) (show _ = [wr 0, wr 2, wx, wx, wl d, wx, wi (gv σ (T + 1) 9), wi (min (gv σ (T + 1) 12) 20), wi (max 0 (gv σ (T + 1) 9 - gv σ T 10)), wi (gv σ T 11), wi a, wi m, wi (r + 1), wx, wx, wx, wx, wx, wx, wx, wx] from rfl) ?_
  refine B_goto rfl my_116 rfl (tgt := 510) rfl ?_
  exact kont
set_option maxRecDepth 100000 in
theorem l_row {E : mE} {σ : wSt} {T : Nat} (hE : wE E) (hW : NWd σ T) (hN : NTy T σ) {P : Option wV → wSt → Prop} {d : Int} (kont : ∀ m, min (gv σ (T + 1) 12) 20 ≤ m → Bt E 116 712 [wr 0, wr 2, wx, wx, wl d, wx, wi (gv σ (T + 1) 9), wi (min (gv σ (T + 1) 12) 20), wi (max 0 (gv σ (T + 1) 9 - gv σ T 10)), wi (gv σ T 11), wi (alr σ T (gv σ (T + 1) 9).toNat), wi m, wx, wx, wx, wx, wx, wx, wx, wx, wx] [] σ P) : ∀ (k : Nat) (a m r : Int), a = alr σ T r.toNat → 0 ≤ r → r ≤ gv σ (T + 1) 9 → (0 ≤ m ∧ ∀ z, 0 ≤ z → z < r → rd σ (T + 14) 60 z ≤ m) → (60 - r).toNat ≤ k → Bt E 116 510 [wr 0, wr 2, wx, wx, wl d, wx, wi (gv σ (T + 1) 9), wi (min (gv σ (T + 1) 12) 20), wi (max 0 (gv σ (T + 1) 9 - gv σ T 10)), wi (gv σ T 11), wi a, wi m, wi r, wx, wx, wx, wx, wx, wx, wx, wx] [] σ P := by
  intro k
  induction k with
  | zero =>
    intro a m r h1 h2 h3 h4 hm
    have hT : Tb T := hW.tb
    have hS := hW.2.2.2.2.1
    have hI := hS.hI
    have h0 := hI.1
    have hd := hS.2.1.2.2
    have hu := hI.uw
    have hal := alr_rng hI r.toNat (by omega)
    refine B_rng 6 rfl (fun ha6 => ?_)
    refine B_rng 7 rfl (fun ha7 => ?_)
    refine B_rng 8 rfl (fun ha8 => ?_)
    refine B_rng 9 rfl (fun ha9 => ?_)
    refine B_rng 10 rfl (fun ha10 => ?_)
    refine B_rng 11 rfl (fun ha11 => ?_)
    refine B_rng 12 rfl (fun ha12 => ?_)
    refine B_iload rfl my_116 rfl ?_
    refine B_iload rfl my_116 rfl ?_
    refine B_ic_ge rfl my_116 rfl (tgt := 712) (nx := 517) rfl rfl (fun c1 => ?_) (fun c1 => ?_)
    · have er : r = gv σ (T + 1) 9 := by omega
      subst er
      refine B_loc (l' := [wr 0, wr 2, wx, wx, wl d, wx, wi (gv σ (T + 1) 9), wi (min (gv σ (T + 1) 12) 20), wi (max 0 (gv σ (T + 1) 9 - gv σ T 10)), wi (gv σ T 11), wi a, wi m, wx, wx, wx, wx, wx, wx, wx, wx, wx]) ⟨Or.inl rfl, Or.inl rfl, Or.inl rfl, Or.inl rfl, Or.inl rfl, Or.inl rfl, Or.inl rfl, Or.inl rfl, Or.inl rfl, Or.inl rfl, Or.inl rfl, Or.inl rfl, Or.inr rfl, Or.inl rfl, Or.inl rfl, Or.inl rfl, Or.inl rfl, Or.inl rfl, Or.inl rfl, Or.inl rfl, Or.inl rfl, trivial⟩ ?_
      refine h1 ▸ kont m ?_
      by_cases h9 : 0 < gv σ (T + 1) 9
      · obtain ⟨z, z1, z2, z3⟩ := hI.2.2.2.2.2.1 h9
        have := h4.2 z z1 z2
        omega
      · have := hu.2.2.1 (by omega)
        omega
    · exact absurd hm (by omega)
  | succ k ih =>
    intro a m r h1 h2 h3 h4 hm
    have hT : Tb T := hW.tb
    have hS := hW.2.2.2.2.1
    have hI := hS.hI
    have h0 := hI.1
    have hd := hS.2.1.2.2
    have hu := hI.uw
    have hal := alr_rng hI r.toNat (by omega)
    refine B_rng 6 rfl (fun ha6 => ?_)
    refine B_rng 7 rfl (fun ha7 => ?_)
    refine B_rng 8 rfl (fun ha8 => ?_)
    refine B_rng 9 rfl (fun ha9 => ?_)
    refine B_rng 10 rfl (fun ha10 => ?_)
    refine B_rng 11 rfl (fun ha11 => ?_)
    refine B_rng 12 rfl (fun ha12 => ?_)
    refine B_iload rfl my_116 rfl ?_
    refine B_iload rfl my_116 rfl ?_
    refine B_ic_ge rfl my_116 rfl (tgt := 712) (nx := 517) rfl rfl (fun c1 => ?_) (fun c1 => ?_)
    · have er : r = gv σ (T + 1) 9 := by omega
      subst er
      refine B_loc (l' := [wr 0, wr 2, wx, wx, wl d, wx, wi (gv σ (T + 1) 9), wi (min (gv σ (T + 1) 12) 20), wi (max 0 (gv σ (T + 1) 9 - gv σ T 10)), wi (gv σ T 11), wi a, wi m, wx, wx, wx, wx, wx, wx, wx, wx, wx]) ⟨Or.inl rfl, Or.inl rfl, Or.inl rfl, Or.inl rfl, Or.inl rfl, Or.inl rfl, Or.inl rfl, Or.inl rfl, Or.inl rfl, Or.inl rfl, Or.inl rfl, Or.inl rfl, Or.inr rfl, Or.inl rfl, Or.inl rfl, Or.inl rfl, Or.inl rfl, Or.inl rfl, Or.inl rfl, Or.inl rfl, Or.inl rfl, trivial⟩ ?_
      refine h1 ▸ kont m ?_
      by_cases h9 : 0 < gv σ (T + 1) 9
      · obtain ⟨z, z1, z2, z3⟩ := hI.2.2.2.2.2.1 h9
        have := h4.2 z z1 z2
        omega
      · have := hu.2.2.1 (by omega)
        omega
    · have hwd := hI.2.1 r (by omega) (by omega)
      refine B_aloadn rfl my_116 rfl ?_
      refine B_iload rfl my_116 rfl ?_
      refine B_cV hE.1 rfl rfl cw_116_87 (as := [wi r]) (rest := []) rfl (Nat.le_of_ble_eq_true rfl) (k_width hE hW (by omega) (by omega)) (fun vo s9 hq => ?_)
      obtain ⟨rfl, rfl⟩ := hq
      show Bt E 116 523 [wr 0, wr 2, wx, wx, wl d, wx, wi (gv σ (T + 1) 9), wi (min (gv σ (T + 1) 12) 20), wi (max 0 (gv σ (T + 1) 9 - gv σ T 10)), wi (gv σ T 11), wi a, wi m, wi r, wx, wx, wx, wx, wx, wx, wx, wx] [wi (rd σ (T + 14) 60 r)] σ _
      refine B_top (fun r2 => ?_)
      refine B_iconst rfl my_116 (by decide) ?_
      refine B_ic_ge rfl my_116 rfl (tgt := 529) (nx := 527) rfl rfl (fun c3 => ?_) (fun c3 => ?_)
      · refine B_iload rfl my_116 rfl ?_
        refine B_aloadn rfl my_116 rfl ?_
        refine B_iload rfl my_116 rfl ?_
        refine B_cV hE.1 rfl rfl cw_116_87 (as := [wi r]) (rest := [wi m]) rfl (Nat.le_of_ble_eq_true rfl) (k_width hE hW (by omega) (by omega)) (fun vo s9 hq => ?_)
        obtain ⟨rfl, rfl⟩ := hq
        show Bt E 116 537 [wr 0, wr 2, wx, wx, wl d, wx, wi (gv σ (T + 1) 9), wi (min (gv σ (T + 1) 12) 20), wi (max 0 (gv σ (T + 1) 9 - gv σ T 10)), wi (gv σ T 11), wi a, wi m, wi r, wx, wx, wx, wx, wx, wx, wx, wx] [wi (rd σ (T + 14) 60 r), wi m] σ _
        refine B_top (fun r4 => ?_)
        refine B_max rfl (show wsp 116 0 = true from by decide +kernel) ?_
        refine B_istore rfl my_116 (by decide) rfl (show _ = [wr 0, wr 2, wx, wx, wl d, wx, wi (gv σ (T + 1) 9), wi (min (gv σ (T + 1) 12) 20), wi (max 0 (gv σ (T + 1) 9 - gv σ T 10)), wi (gv σ T 11), wi a, wi (max m (rd σ (T + 14) 60 r)), wi r, wx, wx, wx, wx, wx, wx, wx, wx] from rfl) ?_
        refine B_iconst rfl my_116 (by decide) ?_
        refine B_istore rfl my_116 (by decide) rfl (show _ = [wr 0, wr 2, wx, wx, wl d, wx, wi (gv σ (T + 1) 9), wi (min (gv σ (T + 1) 12) 20), wi (max 0 (gv σ (T + 1) 9 - gv σ T 10)), wi (gv σ T 11), wi a, wi (max m (rd σ (T + 14) 60 r)), wi r, wi 0, wx, wx, wx, wx, wx, wx, wx] from rfl) ?_
        have e9 : alr σ T (r + 1).toNat = alr σ T r.toNat + (if gv σ T 10 ≤ r then min (min (gv σ (T + 1) 12) 20) (min (rd σ (T + 14) 60 r) 20) else 0) := by
          rw [show (r + 1).toNat = r.toNat + 1 by omega]
          simp only [alr]
          rw [show ((r.toNat : Nat) : Int) = r by omega]
        refine l_rcell hE hW hN (a0 := a) (by omega) (by omega) (by omega) (fun a9 ha9 => ?_) _ a 0 (by omega) (by omega) ⟨fun _ => by omega, fun _ => rfl⟩ (Nat.le_refl _)
        refine t_row hE hW hN (by omega) (by omega) (ih _ _ _ ?_ (by omega) (by omega) ⟨by omega, fun z z1 z2 => ?_⟩ (by omega))
        · rw [e9]
          split <;> omega
        · by_cases e : z = r
          · subst e
            omega
          · have := h4.2 z z1 (by omega)
            omega
      · refine B_iconst rfl my_116 (by decide) ?_
        exfalso
        omega
