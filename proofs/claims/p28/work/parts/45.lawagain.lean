/-! ===== the law: told again ===== -/
theorem kn_us {σ : wSt} {a b : Nat} (h : kn σ a b) : kn (us σ) a b := kn_up (kn_up (kn_up (kn_up h)))
theorem kn_us12 {σ : wSt} {T : Nat} (h : Tb T) : kn (us σ) T 12 := by
  rcases h with rfl | rfl | rfl | rfl
  · exact kn_up (kn_up (kn_up kn_eq))
  · exact kn_up (kn_up kn_eq)
  · exact kn_up kn_eq
  · exact kn_eq
theorem tell_off {σ : wSt} {a n : Int} : Off (fun a => a = 8 ∨ Tb a) σ (us (pt σ 7 3 a n)) := (off_pt (R := fun a => a = 8 ∨ Tb a) (Or.inl rfl)).tr (us_off.mono (fun a e => Or.inr e))
/-- as after the first checksum, but for what is told of the parter and what is settled -/
def FvI (σ s : wSt) : Prop := QBs s ∧ (∀ V, Tb V → pts s V = pts σ V) ∧ ∀ V, Tb V → KSt V s = KSt V σ
def Tld (s : wSt) (n : Int) : Prop := rd s 7 3 0 = n ∧ ∀ U, Tb U → gv s U 12 = 0
theorem fv_tell {σ s : wSt} {n : Int} (h : FvI σ s) (h1 : -1 ≤ n) (h2 : n ≤ 3) : FvI σ (us (pt s 7 3 0 n)) ∧ Tld (us (pt s 7 3 0 n)) n := by
  obtain ⟨⟨⟨a1, a2⟩, a3, ⟨b1, b2, b3, b4, b5⟩, a5, a6, a7⟩, h4, h5⟩ := h
  have o : Off (fun a => a = 8 ∨ Tb a) s (us (pt s 7 3 0 n)) := tell_off
  have hr : rd (us (pt s 7 3 0 n)) 7 3 0 = n := by
    rw [rd_us (by omega), rd_pt, if_pos ⟨by omega, by omega, rfl⟩]
  have e8 : ∀ b, b ≠ 0 → us (pt s 7 3 0 n) 8 b = s 8 b := fun b hb => by
    rw [us_off 8 (by omega) b]
    unfold pt
    rw [if_pos ⟨by omega, by omega⟩]
    exact wup_ne (fun e => hb (by have := e.2; simpa using this))
  refine ⟨⟨⟨⟨kn_us (kn_pt a1), by rw [off_gv o (by omega)]; exact a2⟩, fun V hV => ⟨krd_off (a3 V hV).1 o (fun a e1 e2 e3 => by omega), ri_off (a3 V hV).2 o (fun a e1 e2 e3 => by omega)⟩, ⟨fun i i1 i2 => kn_us (kn_pt (b1 i i1 i2)), by rw [hr]; exact ⟨h1, h2⟩, ?_, kn_us (kn_pt b4), fun c c1 c2 => kn_us (kn_pt (b5 c c1 c2))⟩, fun V hV => ⟨kn_us12 hV, Or.inl (us_12 hV), fun e => absurd e (by rw [us_12 hV]; decide)⟩, kn_us (kn_pt a6), fun V hV => kn_us (kn_pt (a7.1 V hV)), ?_⟩, fun V hV => ?_, fun V hV => ?_⟩, hr, fun U hU => us_12 hU⟩
  · have e : rd (us (pt s 7 3 0 n)) 7 3 2 = rd s 7 3 2 := by
      rw [rd_us (by omega), rd_pt, if_neg (by omega)]
    rw [e]
    exact b3
  · have g := a7.2
    unfold PFd at g ⊢
    rw [us_gv (by omega), us_gv (by omega), us_gv (by omega), us_gv (by omega), gv_pt (by omega), gv_pt (by omega), gv_pt (by omega), gv_pt (by omega)]
    exact g
  · rw [pts_off o (fun e => by omega)]
    exact h4 V hV
  · rw [ks_eq o (fun a e1 e2 e3 => by omega) (by omega) (by omega) e8]
    exact h5 V hV
theorem qb_sw {E : mE} {U : Nat} {s t : wSt} (hU : Tb U) (h : QBs s) (hw : SWq E U s t) : QBs t := by
  rcases hw with ⟨g1, rfl⟩ | ⟨g1, g2, g3, g4⟩
  · exact h
  · exact qb_set hU h g2 g3
theorem fv_sw {E : mE} {U : Nat} {σ s t : wSt} (hU : Tb U) (h : FvI σ s) (hw : SWq E U s t) : FvI σ t ∧ (∀ V, Tb V → pts t V = pts s V) ∧ (∀ i, rd t 7 3 i = rd s 7 3 i) ∧ pn t = pn s := by
  refine ⟨⟨qb_sw hU h.1 hw, ?_⟩, ?_⟩
  · rcases hw with ⟨g1, rfl⟩ | ⟨g1, g2, g3, g4⟩
    · exact h.2
    · have o := g3.1
      exact ⟨fun V hV => by rw [pts_off o (by omega)]; exact h.2.1 V hV, fun V hV => by rw [ks_set hV hU o]; exact h.2.2 V hV⟩
  · rcases hw with ⟨g1, rfl⟩ | ⟨g1, g2, g3, g4⟩
    · exact ⟨fun _ _ => rfl, fun _ => rfl, rfl⟩
    · have o := g3.1
      exact ⟨fun V hV => pts_off o (by omega), fun i => off_rd o (by omega), pn_off o (fun V hV e => by omega) (by omega)⟩
theorem pts_le {σ : wSt} {T : Nat} (hI : RI T σ) : pts σ T ≤ 120 := by
  obtain ⟨⟨h1, h2, h3, h4⟩, -, -, -, h6, h7, h8, h9⟩ := hI
  unfold pts
  split
  · decide
  · have e : 100 * gv σ (T + 1) 13 / gv σ (T + 1) 9 ≤ 100 := Int.ediv_le_of_le_mul (by omega) (by omega)
    omega
theorem g_settleQ {E : mE} {σ : wSt} {U : Nat} (hE : wE E) (hU : Tb U) (hQ : QBs σ) : Fn E 40 [wr U, wr 6] σ (fun vo t => vo = none ∧ SWq E U σ t) := by
  have hb := hQ.2.2.2.1 U hU
  rcases hb.2.1 with g | g
  · exact (g_settle hE hU (hQ.2.1 U hU).1 (hQ.2.1 U hU).2 hb.1 g (hQ.2.2.1.1 1) (hQ.2.2.1.1 2) hQ.2.2.1.2.2.1 hQ.2.2.1.2.2.2.1 hQ.2.2.1.2.2.2.2).mono (fun vo s hq => ⟨hq.1, Or.inr ⟨g, hq.2.1, hq.2.2.1, hq.2.2.2⟩⟩)
  · exact (g_settle1 hE hU hb.1 g).mono (fun vo s hq => ⟨hq.1, Or.inl ⟨g, hq.2⟩⟩)
theorem g_tableNowQ {E : mE} {σ : wSt} (hE : wE E) (hQ : QBs σ) {T : Nat} (hTe : T = tof (pn σ)) : Fn E 108 [wr 2] σ (fun vo t => vo = some (wr T) ∧ SWq E T σ t) := by
  have hT : Tb T := by rw [hTe]; exact tof_tb _
  have hg := gp_rng (σ := σ)
  have hw3 := hQ.2.2.1.2.1
  refine Fn.of (nL := 3) ?_
  show Bt E 108 0 [wr 2, wx, wx] [] σ _
  refine B_aloadn rfl my_108 rfl ?_
  refine B_cV hE.1 rfl rfl cw_108_111 (as := []) (rest := []) rfl (Nat.le_of_ble_eq_true rfl) (g_readText1 hE hQ.1.1 hQ.1.2) (fun vo s9 hq => ?_)
  obtain ⟨rfl, rfl⟩ := hq
  show Bt E 108 4 [wr 2, wx, wx] [] σ _
  refine B_aloadn rfl my_108 rfl ?_
  refine B_ref hE.1 rfl my_108 rfl (r := 6) rfl ?_
  refine B_ref hE.1 rfl my_108 rfl (r := 7) rfl ?_
  refine B_iconst rfl my_108 (by decide) ?_
  refine B_cV hE.1 rfl nmc_7.1 cw_108_20 (as := [wi 0]) (rest := []) rfl (Nat.le_of_ble_eq_true rfl) (g_at hE nmc_7 (by decide) (hQ.2.2.1.1 0)) (fun vo s9 hq => ?_)
  obtain ⟨rfl, rfl⟩ := hq
  show Bt E 108 15 [wr 2, wx, wx] [wi (rd σ 7 3 0)] σ _
  refine B_top (fun r1 => ?_)
  refine B_istoren rfl my_108 (by decide) rfl (show _ = [wr 2, wi (rd σ 7 3 0), wx] from rfl) ?_
  refine B_aloadn rfl my_108 rfl ?_
  refine B_iloadn rfl my_108 rfl ?_
  refine B_iconst rfl my_108 (by decide) ?_
  refine B_ic_ne rfl my_108 rfl (tgt := 29) (nx := 22) rfl rfl (fun c2 => ?_) (fun c2 => ?_)
  · refine B_iloadn rfl my_108 rfl ?_
    refine B_cV hE.1 rfl rfl cw_108_110 (as := [wi (rd σ 7 3 0)]) (rest := []) rfl (Nat.le_of_ble_eq_true rfl) (g_tableWith hE (by omega) (by omega)) (fun vo s9 hq => ?_)
    obtain ⟨rfl, rfl⟩ := hq
    rw [show tof (rd σ 7 3 0) = T by rw [hTe]; unfold pn; rw [if_neg (by omega)]]
    show Bt E 108 33 [wr 2, wi (rd σ 7 3 0), wx] [wr T] σ _
    refine B_astoren rfl my_108 (by decide) rfl (show _ = [wr 2, wi (rd σ 7 3 0), wr T] from rfl) ?_
    refine B_aloadn rfl my_108 rfl ?_
    refine B_aloadn rfl my_108 rfl ?_
    refine B_ref hE.1 rfl my_108 rfl (r := 6) rfl ?_
    refine B_cV hE.1 rfl (wc_0 hT) cw_108_40 (as := [wr 6]) (rest := []) rfl (Nat.le_of_ble_eq_true rfl) (g_settleQ hE hT hQ) (fun vo t1 hq => ?_)
    obtain ⟨rfl, sw⟩ := hq
    show Bt E 108 42 [wr 2, wi (rd σ 7 3 0), wr T] [] t1 _
    refine B_aloadn rfl my_108 rfl ?_
    refine B_aret rfl my_108 rfl ?_
    exact ⟨rfl, sw⟩
  · refine B_aloadn rfl my_108 rfl ?_
    refine B_cV hE.1 rfl rfl cw_108_113 (as := []) (rest := [wr 2]) rfl (Nat.le_of_ble_eq_true rfl) (g_guessedParter hE (fun U hU => (hQ.2.1 U hU).1) (fun U hU => (hQ.2.1 U hU).2)) (fun vo s9 hq => ?_)
    obtain ⟨rfl, rfl⟩ := hq
    show Bt E 108 26 [wr 2, wi (rd σ 7 3 0), wx] [wi (gp σ), wr 2] σ _
    refine B_top (fun r3 => ?_)
    refine B_goto rfl my_108 rfl (tgt := 30) rfl ?_
    refine B_cV hE.1 rfl rfl cw_108_110 (as := [wi (gp σ)]) (rest := []) rfl (Nat.le_of_ble_eq_true rfl) (g_tableWith hE (by omega) (by omega)) (fun vo s9 hq => ?_)
    obtain ⟨rfl, rfl⟩ := hq
    rw [show tof (gp σ) = T by rw [hTe]; unfold pn; rw [if_pos (by omega)]]
    show Bt E 108 33 [wr 2, wi (rd σ 7 3 0), wx] [wr T] σ _
    refine B_astoren rfl my_108 (by decide) rfl (show _ = [wr 2, wi (rd σ 7 3 0), wr T] from rfl) ?_
    refine B_aloadn rfl my_108 rfl ?_
    refine B_aloadn rfl my_108 rfl ?_
    refine B_ref hE.1 rfl my_108 rfl (r := 6) rfl ?_
    refine B_cV hE.1 rfl (wc_0 hT) cw_108_40 (as := [wr 6]) (rest := []) rfl (Nat.le_of_ble_eq_true rfl) (g_settleQ hE hT hQ) (fun vo t1 hq => ?_)
    obtain ⟨rfl, sw⟩ := hq
    show Bt E 108 42 [wr 2, wi (rd σ 7 3 0), wr T] [] t1 _
    refine B_aloadn rfl my_108 rfl ?_
    refine B_aret rfl my_108 rfl ?_
    exact ⟨rfl, sw⟩
theorem kq_8 {E : mE} {σ t : wSt} {T : Nat} (hT : Tb T) (hQ : QBs σ) (hTe : T = tof (pn σ)) (sw : SWq E T σ t) : kn t T 8 ∧ gv t T 8 = pn σ := by
  have hp := pn_rng hQ.2.2.1.2.1.1 hQ.2.2.1.2.1.2
  have h1 := hQ.2.2.2.2.2.1 T hT
  have h2 : gv σ T 8 = pn σ := by
    rw [hTe]
    exact pf_tof hQ.2.2.2.2.2.2 hp.1 hp.2
  rcases sw with ⟨g1, rfl⟩ | ⟨g1, g2, g3, g4⟩
  · exact ⟨h1, h2⟩
  · have e := g3.2
    unfold kn gv at *
    rw [e]
    exact ⟨h1, h2⟩
theorem g_choiceQ {E : mE} {σ : wSt} {T : Nat} (hE : wE E) (hT : Tb T) (hk : kn σ T 8 ∧ True) : Gv E 56 [wr T, wi 0] σ (wi (gv σ T 8)) := by
  refine Fn.of (nL := 2) ?_
  show Bt E 56 0 [wr T, wi 0] [] σ _
  refine B_rng 1 rfl (fun ha1 => ?_)
  refine B_iloadn rfl my_56 rfl ?_
  refine B_lookup rfl my_56 (by decide) (off := 27) rfl rfl (tgt := 28) rfl ?_
  refine B_aloadn rfl my_56 rfl ?_
  refine B_int hE.1 rfl my_56 rfl (wn_0_8 hT) hk.1 (fun r1 => ?_)
  refine B_iret rfl my_56 rfl ?_
  exact ⟨rfl, rfl⟩
theorem g_usedQ {E : mE} {σ : wSt} (hE : wE E) (hQ : QBs σ) {T : Nat} (hTe : T = tof (pn σ)) : Fn E 84 [wr 2, wi 0] σ (fun vo t => vo = some (wi (pn σ)) ∧ SWq E T σ t) := by
  have hT : Tb T := by rw [hTe]; exact tof_tb _
  have hg := gp_rng (σ := σ)
  have hw3 := hQ.2.2.1.2.1
  refine Fn.of (nL := 2) ?_
  show Bt E 84 0 [wr 2, wi 0] [] σ _
  refine B_rng 1 rfl (fun ha1 => ?_)
  refine B_iloadn rfl my_84 rfl ?_
  refine B_if_lt rfl my_84 rfl (tgt := 9) (nx := 4) rfl rfl (fun c9 => absurd c9 (by decide)) (fun _ => ?_)
  show Bt E 84 4 [wr 2, wi 0] [] σ _
  refine B_iloadn rfl my_84 rfl ?_
  refine B_iconst rfl my_84 (by decide) ?_
  refine B_ic_le rfl my_84 rfl (tgt := 19) (nx := 9) rfl rfl (fun _ => ?_) (fun c9 => absurd c9 (by decide))
  show Bt E 84 19 [wr 2, wi 0] [] σ _
  refine B_aloadn rfl my_84 rfl ?_
  refine B_cV hE.1 rfl rfl cw_84_108 (as := []) (rest := []) rfl (Nat.le_of_ble_eq_true rfl) (g_tableNowQ hE hQ hTe) (fun vo t1 hq => ?_)
  obtain ⟨rfl, sw⟩ := hq
  have hk := kq_8 hT hQ hTe sw
  show Bt E 84 23 [wr 2, wi 0] [wr T] t1 _
  refine B_iloadn rfl my_84 rfl ?_
  refine B_cV hE.1 rfl (wc_0 hT) cw_84_56 (as := [wi 0]) (rest := []) rfl (Nat.le_of_ble_eq_true rfl) (g_choiceQ hE hT ⟨hk.1, trivial⟩) (fun vo s9 hq => ?_)
  obtain ⟨rfl, rfl⟩ := hq
  show Bt E 84 27 [wr 2, wi 0] [wi (gv t1 T 8)] t1 _
  refine B_top (fun r3 => ?_)
  refine B_iret rfl my_84 rfl ?_
  exact ⟨by rw [hk.2], sw⟩
