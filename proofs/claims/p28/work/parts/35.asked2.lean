/-! ===== a settled table is asked: columns, kept rows ===== -/
theorem cw_59_20 : wcV 59 0 20 1 1 1 = true := by decide +kernel
theorem cw_59_3 : wcV 59 0 3 0 1 1 = true := by decide +kernel
theorem cw_59_44 : wcV 59 0 44 3 2 2 = true := by decide +kernel
theorem cw_59_45 : wcV 59 0 45 3 0 0 = true := by decide +kernel
theorem cw_59_60 : wcV 59 0 60 3 1 1 = true := by decide +kernel
theorem cw_61_20 : wcV 61 0 20 1 1 1 = true := by decide +kernel
theorem cw_61_36 : wcV 61 0 36 2 2 2 = true := by decide +kernel
theorem cw_62_20 : wcV 62 0 20 1 1 1 = true := by decide +kernel
theorem cw_62_61 : wcV 62 0 61 3 2 2 = true := by decide +kernel
theorem cw_63_20 : wcV 63 0 20 1 1 1 = true := by decide +kernel
theorem cw_63_61 : wcV 63 0 61 3 2 2 = true := by decide +kernel
theorem cw_64_62 : wcV 64 0 62 3 2 2 = true := by decide +kernel
theorem cw_64_63 : wcV 64 0 63 3 2 2 = true := by decide +kernel
theorem cw_65_62 : wcV 65 0 62 3 2 2 = true := by decide +kernel
theorem cw_66_63 : wcV 66 0 63 3 2 2 = true := by decide +kernel
theorem cw_67_62 : wcV 67 0 62 3 2 2 = true := by decide +kernel
theorem cw_67_63 : wcV 67 0 63 3 2 2 = true := by decide +kernel
theorem fl_ty {T : Nat} {σ s : wSt} {c : Int} (hS : SIt T σ) (h : TY T σ s c (gv σ T 10)) : fl s T = fln σ T c (gv σ T 10) (gv σ (T + 1) 9 - gv σ T 10).toNat := by
  unfold fl
  rw [(h.2 1 (by decide) (by decide)).2, (h.2 2 (by decide) (by decide)).2, (h.2 3 (by decide) (by decide)).2, (h.2 4 (by decide) (by decide)).2, (h.2 5 (by decide) (by decide)).2]
  exact (ctn_sum hS.hI hS.sk _).1
theorem rp_ok {T : Nat} {σ : wSt} {c : Int} (hS : SIt T σ) (hc1 : 0 ≤ c) (hc2 : c < min (gv σ (T + 1) 12) 20) : 0 ≤ rpn σ T c (gv σ T 10) (gv σ (T + 1) 9 - gv σ T 10).toNat ∧ rpn σ T c (gv σ T 10) (gv σ (T + 1) 9 - gv σ T 10).toNat ≤ fln σ T c (gv σ T 10) (gv σ (T + 1) 9 - gv σ T 10).toNat ∧ (0 < fln σ T c (gv σ T 10) (gv σ (T + 1) 9 - gv σ T 10).toNat → rpn σ T c (gv σ T 10) (gv σ (T + 1) 9 - gv σ T 10).toNat < fln σ T c (gv σ T 10) (gv σ (T + 1) 9 - gv σ T 10).toNat) ∧ fln σ T c (gv σ T 10) (gv σ (T + 1) 9 - gv σ T 10).toNat ≤ 60 := by
  have h0 := hS.hI.1
  have hd := hS.2.1.2.2
  have h1 := rpn_le hS.hI hS.sk (fun r r1 r2 r3 => (hS.2.2.2.1 c hc1 hc2).2 r r1 r2 r3) (gv σ (T + 1) 9 - gv σ T 10).toNat (by omega)
  have h2 := fln_rng (σ := σ) (T := T) (c := c) (f := gv σ T 10) (gv σ (T + 1) 9 - gv σ T 10).toNat
  exact ⟨h1.1, h1.2.1, h1.2.2, by omega⟩
theorem g_factOfColumn0 {E : mE} {σ : wSt} {T : Nat} (hE : wE E) (hT : Tb T) (hS : SIt T σ) {c : Int} (hc1 : 0 ≤ c) (hc2 : c < min (gv σ (T + 1) 12) 20) : Gv E 59 [wr T, wi c, wi 0] σ (wi (rd σ (T + 31) 20 c)) := by
  have hd := hS.2.1.2.2
  refine Fn.of (nL := 3) ?_
  show Bt E 59 0 [wr T, wi c, wi 0] [] σ _
  refine B_rng 1 rfl (fun ha1 => ?_)
  refine B_rng 2 rfl (fun ha2 => ?_)
  refine B_iloadn rfl my_59 rfl ?_
  refine B_switch rfl my_59 rfl (fun c9 => absurd c9 (by decide)) (fun _ _ => ⟨31, rfl, rfl, ?_⟩)
  show Bt E 59 32 [wr T, wi c, wi 0] [] σ _
  refine B_aloadn rfl my_59 rfl ?_
  refine B_ref hE.1 rfl my_59 rfl (r := (T + 31)) (wf_0_6 hT) ?_
  refine B_iloadn rfl my_59 rfl ?_
  refine B_cV hE.1 rfl (nm_31 hT).1 cw_59_20 (as := [wi c]) (rest := []) rfl (Nat.le_of_ble_eq_true rfl) (g_at hE (nm_31 hT) (by decide) (hS.ck hc1 hc2)) (fun vo s9 hq => ?_)
  obtain ⟨rfl, rfl⟩ := hq
  show Bt E 59 40 [wr T, wi c, wi 0] [wi (rd σ (T + 31) 20 c)] σ _
  refine B_top (fun r1 => ?_)
  refine B_iret rfl my_59 rfl ?_
  exact ⟨rfl, rfl⟩
theorem g_factOfColumn1 {E : mE} {σ : wSt} {T : Nat} (hE : wE E) (hT : Tb T) (hS : SIt T σ) {c : Int} (hc1 : 0 ≤ c) (hc2 : c < min (gv σ (T + 1) 12) 20) (hN : NTy T σ) : Gv E 59 [wr T, wi c, wi 1] σ (wi (fln σ T c (gv σ T 10) (gv σ (T + 1) 9 - gv σ T 10).toNat)) := by
  have hd := hS.2.1.2.2
  refine Fn.post (Q := fun vo t => vo = some (wi (fln σ T c (gv σ T 10) (gv σ (T + 1) 9 - gv σ T 10).toNat)) ∧ Off (fun a => a = T + 34) σ t) ?_ (fun vo s hq => ⟨σ, nty_sub hN hq.2, hq.1, rfl⟩)
  refine Fn.of (nL := 3) ?_
  show Bt E 59 0 [wr T, wi c, wi 1] [] σ _
  refine B_rng 1 rfl (fun ha1 => ?_)
  refine B_rng 2 rfl (fun ha2 => ?_)
  refine B_iloadn rfl my_59 rfl ?_
  refine B_switch rfl my_59 rfl (fun c9 => absurd c9 (by decide)) (fun _ _ => ⟨40, rfl, rfl, ?_⟩)
  show Bt E 59 41 [wr T, wi c, wi 1] [] σ _
  refine B_aloadn rfl my_59 rfl ?_
  refine B_iloadn rfl my_59 rfl ?_
  refine B_aloadn rfl my_59 rfl ?_
  refine B_int hE.1 rfl my_59 rfl (wn_0_10 hT) hS.2.1.1.2.1 (fun r1 => ?_)
  refine B_cV hE.1 rfl (wc_0 hT) cw_59_44 (as := [wi c, wi (gv σ T 10)]) (rest := []) rfl (Nat.le_of_ble_eq_true rfl) (g_tallyKinds hE hT hS.hR hS.hI hS.kk hS.sk (by omega) (by omega)) (fun vo s1 hq => ?_)
  obtain ⟨rfl, ty1⟩ := hq
  have hy1 := ty_yk hS.hI (by omega) ty1
  show Bt E 59 50 [wr T, wi c, wi 1] [] s1 _
  refine B_aloadn rfl my_59 rfl ?_
  refine B_cV hE.1 rfl (wc_0 hT) cw_59_45 (as := []) (rest := []) rfl (Nat.le_of_ble_eq_true rfl) (g_talliedFilled hE hT hy1) (fun vo s9 hq => ?_)
  obtain ⟨rfl, rfl⟩ := hq
  show Bt E 59 54 [wr T, wi c, wi 1] [wi (fl s1 T)] s1 _
  refine B_top (fun r2 => ?_)
  refine B_iret rfl my_59 rfl ?_
  exact ⟨congrArg (fun z => some (wi z)) (fl_ty hS ty1), ty1.1⟩
theorem g_factOfColumn2 {E : mE} {σ : wSt} {T : Nat} (hE : wE E) (hT : Tb T) (hS : SIt T σ) {c : Int} (hc1 : 0 ≤ c) (hc2 : c < min (gv σ (T + 1) 12) 20) (hN : NTy T σ) : Gv E 59 [wr T, wi c, wi 2] σ (wi (ctn σ T c 0 (gv σ T 10) (gv σ (T + 1) 9 - gv σ T 10).toNat)) := by
  have hd := hS.2.1.2.2
  refine Fn.post (Q := fun vo t => vo = some (wi (ctn σ T c 0 (gv σ T 10) (gv σ (T + 1) 9 - gv σ T 10).toNat)) ∧ Off (fun a => a = T + 34) σ t) ?_ (fun vo s hq => ⟨σ, nty_sub hN hq.2, hq.1, rfl⟩)
  refine Fn.of (nL := 3) ?_
  show Bt E 59 0 [wr T, wi c, wi 2] [] σ _
  refine B_rng 1 rfl (fun ha1 => ?_)
  refine B_rng 2 rfl (fun ha2 => ?_)
  refine B_iloadn rfl my_59 rfl ?_
  refine B_switch rfl my_59 rfl (fun c9 => absurd c9 (by decide)) (fun _ _ => ⟨54, rfl, rfl, ?_⟩)
  show Bt E 59 55 [wr T, wi c, wi 2] [] σ _
  refine B_aloadn rfl my_59 rfl ?_
  refine B_iloadn rfl my_59 rfl ?_
  refine B_aloadn rfl my_59 rfl ?_
  refine B_int hE.1 rfl my_59 rfl (wn_0_10 hT) hS.2.1.1.2.1 (fun r1 => ?_)
  refine B_cV hE.1 rfl (wc_0 hT) cw_59_44 (as := [wi c, wi (gv σ T 10)]) (rest := []) rfl (Nat.le_of_ble_eq_true rfl) (g_tallyKinds hE hT hS.hR hS.hI hS.kk hS.sk (by omega) (by omega)) (fun vo s1 hq => ?_)
  obtain ⟨rfl, ty1⟩ := hq
  have hy1 := ty_yk hS.hI (by omega) ty1
  show Bt E 59 64 [wr T, wi c, wi 2] [] s1 _
  refine B_aloadn rfl my_59 rfl ?_
  refine B_ref hE.1 rfl my_59 rfl (r := (T + 33)) (wf_0_7 hT) ?_
  refine B_iconst rfl my_59 (by decide) ?_
  refine B_cV hE.1 rfl (nm_33 hT).1 cw_59_20 (as := [wi 0]) (rest := []) rfl (Nat.le_of_ble_eq_true rfl) (g_at hE (nm_33 hT) (by decide) (ty1.2 0 (by decide) (by decide)).1) (fun vo s9 hq => ?_)
  obtain ⟨rfl, rfl⟩ := hq
  show Bt E 59 72 [wr T, wi c, wi 2] [wi (rd s1 (T + 33) 6 0)] s1 _
  refine B_top (fun r2 => ?_)
  refine B_iret rfl my_59 rfl ?_
  exact ⟨congrArg (fun z => some (wi z)) (ty1.2 0 (by decide) (by decide)).2, ty1.1⟩
theorem g_factOfColumn3 {E : mE} {σ : wSt} {T : Nat} (hE : wE E) (hT : Tb T) (hS : SIt T σ) {c : Int} (hc1 : 0 ≤ c) (hc2 : c < min (gv σ (T + 1) 12) 20) : Gv E 59 [wr T, wi c, wi 3] σ (wi (icn σ T c (gv σ (T + 16) 3).toNat)) := by
  have hd := hS.2.1.2.2
  refine Fn.of (nL := 3) ?_
  show Bt E 59 0 [wr T, wi c, wi 3] [] σ _
  refine B_rng 1 rfl (fun ha1 => ?_)
  refine B_rng 2 rfl (fun ha2 => ?_)
  refine B_iloadn rfl my_59 rfl ?_
  refine B_switch rfl my_59 rfl (fun c9 => absurd c9 (by decide)) (fun _ _ => ⟨72, rfl, rfl, ?_⟩)
  show Bt E 59 73 [wr T, wi c, wi 3] [] σ _
  refine B_aloadn rfl my_59 rfl ?_
  refine B_ref hE.1 rfl my_59 rfl (r := (T + 16)) (wf_0_1 hT) ?_
  refine B_iloadn rfl my_59 rfl ?_
  refine B_cV hE.1 rfl (wc_16 hT) cw_59_3 (as := [wi c]) (rest := []) rfl (Nat.le_of_ble_eq_true rfl) (g_inColumn hE hT hS) (fun vo s9 hq => ?_)
  obtain ⟨rfl, rfl⟩ := hq
  show Bt E 59 81 [wr T, wi c, wi 3] [wi (icn σ T c (gv σ (T + 16) 3).toNat)] σ _
  refine B_top (fun r1 => ?_)
  refine B_iret rfl my_59 rfl ?_
  exact ⟨rfl, rfl⟩
theorem g_factOfColumn4 {E : mE} {σ : wSt} {T : Nat} (hE : wE E) (hT : Tb T) (hS : SIt T σ) {c : Int} (hc1 : 0 ≤ c) (hc2 : c < min (gv σ (T + 1) 12) 20) (hN : NTy T σ) : Gv E 59 [wr T, wi c, wi 4] σ (wi (fln σ T c (gv σ T 10) (gv σ (T + 1) 9 - gv σ T 10).toNat - rpn σ T c (gv σ T 10) (gv σ (T + 1) 9 - gv σ T 10).toNat)) := by
  have hd := hS.2.1.2.2
  have hrp := rp_ok hS hc1 hc2
  refine Fn.post (Q := fun vo t => vo = some (wi (fln σ T c (gv σ T 10) (gv σ (T + 1) 9 - gv σ T 10).toNat - rpn σ T c (gv σ T 10) (gv σ (T + 1) 9 - gv σ T 10).toNat)) ∧ Off (fun a => a = T + 34) σ t) ?_ (fun vo s hq => ⟨σ, nty_sub hN hq.2, hq.1, rfl⟩)
  refine Fn.of (nL := 3) ?_
  show Bt E 59 0 [wr T, wi c, wi 4] [] σ _
  refine B_rng 1 rfl (fun ha1 => ?_)
  refine B_rng 2 rfl (fun ha2 => ?_)
  refine B_iloadn rfl my_59 rfl ?_
  refine B_switch rfl my_59 rfl (fun _ => ?_) (fun c8 c9 => absurd (And.intro c8 c9) (by decide))
  show Bt E 59 82 [wr T, wi c, wi 4] [] σ _
  refine B_aloadn rfl my_59 rfl ?_
  refine B_iloadn rfl my_59 rfl ?_
  refine B_aloadn rfl my_59 rfl ?_
  refine B_int hE.1 rfl my_59 rfl (wn_0_10 hT) hS.2.1.1.2.1 (fun r1 => ?_)
  refine B_cV hE.1 rfl (wc_0 hT) cw_59_44 (as := [wi c, wi (gv σ T 10)]) (rest := []) rfl (Nat.le_of_ble_eq_true rfl) (g_tallyKinds hE hT hS.hR hS.hI hS.kk hS.sk (by omega) (by omega)) (fun vo s1 hq => ?_)
  obtain ⟨rfl, ty1⟩ := hq
  have hy1 := ty_yk hS.hI (by omega) ty1
  show Bt E 59 91 [wr T, wi c, wi 4] [] s1 _
  refine B_aloadn rfl my_59 rfl ?_
  refine B_cV hE.1 rfl (wc_0 hT) cw_59_45 (as := []) (rest := []) rfl (Nat.le_of_ble_eq_true rfl) (g_talliedFilled hE hT hy1) (fun vo s9 hq => ?_)
  obtain ⟨rfl, rfl⟩ := hq
  show Bt E 59 95 [wr T, wi c, wi 4] [wi (fl s1 T)] s1 _
  refine B_top (fun r2 => ?_)
  have hfl := fl_ty hS ty1
  refine B_aloadn rfl my_59 rfl ?_
  refine B_iloadn rfl my_59 rfl ?_
  refine B_cV hE.1 rfl (wc_0 hT) cw_59_60 (as := [wi c]) (rest := [wi (fl s1 T)]) rfl (Nat.le_of_ble_eq_true rfl) (Fn.sub (nty_sub hN ty1.1) (g_repeatsIn hE hT hS hc1 hc2)) (fun vo s9 hq => ?_)
  obtain ⟨rfl, rfl⟩ := hq
  show Bt E 59 100 [wr T, wi c, wi 4] [wi (rpn σ T c (gv σ T 10) (gv σ (T + 1) 9 - gv σ T 10).toNat), wi (fl s1 T)] σ _
  refine B_top (fun r3 => ?_)
  refine B_isub rfl my_59 (by omega) (by omega) ?_
  refine B_iret rfl my_59 rfl ?_
  exact ⟨congrArg (fun z => some (wi z)) (by rw [fl_ty hS ty1]), Off.rf⟩
theorem g_cellOfKept {E : mE} {σ : wSt} {T : Nat} (hE : wE E) (hT : Tb T) (hS : SIt T σ) {q : Int} (hq1 : 0 ≤ q) (hq2 : q < gv σ T 11) {c : Int} : Gv E 61 [wr T, wi q, wi c] σ (wi (ca σ T (rd σ (T + 23) 60 q) c)) := by
  refine Fn.of (nL := 3) ?_
  show Bt E 61 0 [wr T, wi q, wi c] [] σ _
  refine B_rng 1 rfl (fun ha1 => ?_)
  refine B_rng 2 rfl (fun ha2 => ?_)
  refine B_aloadn rfl my_61 rfl ?_
  refine B_ref hE.1 rfl my_61 rfl (r := (T + 1)) (wf_0_0 hT) ?_
  refine B_aloadn rfl my_61 rfl ?_
  refine B_ref hE.1 rfl my_61 rfl (r := (T + 23)) (wf_0_2 hT) ?_
  refine B_iloadn rfl my_61 rfl ?_
  refine B_cV hE.1 rfl (nm_23 hT).1 cw_61_20 (as := [wi q]) (rest := [wr (T + 1)]) rfl (Nat.le_of_ble_eq_true rfl) (g_at hE (nm_23 hT) (by decide) (hS.kp hq1 hq2)) (fun vo s9 hq => ?_)
  obtain ⟨rfl, rfl⟩ := hq
  show Bt E 61 12 [wr T, wi q, wi c] [wi (rd σ (T + 23) 60 q), wr (T + 1)] σ _
  refine B_top (fun r1 => ?_)
  refine B_iloadn rfl my_61 rfl ?_
  refine B_cV hE.1 rfl (wc_1 hT) cw_61_36 (as := [wi (rd σ (T + 23) 60 q), wi c]) (rest := []) rfl (Nat.le_of_ble_eq_true rfl) (g_cellAt hE hT hS.hR hS.hI) (fun vo s9 hq => ?_)
  obtain ⟨rfl, rfl⟩ := hq
  show Bt E 61 16 [wr T, wi q, wi c] [wi (ca σ T (rd σ (T + 23) 60 q) c)] σ _
  refine B_top (fun r2 => ?_)
  refine B_iret rfl my_61 rfl ?_
  exact ⟨rfl, rfl⟩
theorem g_valueIn {E : mE} {σ : wSt} {T : Nat} (hE : wE E) (hT : Tb T) (hS : SIt T σ) {q : Int} (hq1 : 0 ≤ q) (hq2 : q < gv σ T 11) {c : Int} (hc1 : 0 ≤ c) (hc2 : c < min (gv σ (T + 1) 12) 20) : Gv E 62 [wr T, wi q, wi c] σ (wi (vi σ T q c)) := by
  refine Fn.of (nL := 6) ?_
  show Bt E 62 0 [wr T, wi q, wi c, wx, wx, wx] [] σ _
  refine B_rng 1 rfl (fun ha1 => ?_)
  refine B_rng 2 rfl (fun ha2 => ?_)
  refine B_aloadn rfl my_62 rfl ?_
  refine B_iloadn rfl my_62 rfl ?_
  refine B_iloadn rfl my_62 rfl ?_
  refine B_cV hE.1 rfl (wc_0 hT) cw_62_61 (as := [wi q, wi c]) (rest := []) rfl (Nat.le_of_ble_eq_true rfl) (g_cellOfKept hE hT hS hq1 hq2) (fun vo s9 hq => ?_)
  obtain ⟨rfl, rfl⟩ := hq
  show Bt E 62 6 [wr T, wi q, wi c, wx, wx, wx] [wi (ca σ T (rd σ (T + 23) 60 q) c)] σ _
  refine B_top (fun r1 => ?_)
  refine B_istoren rfl my_62 (by decide) rfl (show _ = [wr T, wi q, wi c, wi (ca σ T (rd σ (T + 23) 60 q) c), wx, wx] from rfl) ?_
  refine B_aloadn rfl my_62 rfl ?_
  refine B_ref hE.1 rfl my_62 rfl (r := (T + 31)) (wf_0_6 hT) ?_
  refine B_iloadn rfl my_62 rfl ?_
  refine B_cV hE.1 rfl (nm_31 hT).1 cw_62_20 (as := [wi c]) (rest := []) rfl (Nat.le_of_ble_eq_true rfl) (g_at hE (nm_31 hT) (by decide) (hS.ck hc1 hc2)) (fun vo s9 hq => ?_)
  obtain ⟨rfl, rfl⟩ := hq
  show Bt E 62 15 [wr T, wi q, wi c, wi (ca σ T (rd σ (T + 23) 60 q) c), wx, wx] [wi (rd σ (T + 31) 20 c)] σ _
  refine B_top (fun r2 => ?_)
  refine B_istore rfl my_62 (by decide) rfl (show _ = [wr T, wi q, wi c, wi (ca σ T (rd σ (T + 23) 60 q) c), wi (rd σ (T + 31) 20 c), wx] from rfl) ?_
  refine B_iload rfl my_62 rfl ?_
  refine B_iconst rfl my_62 (by decide) ?_
  refine B_ic_ne rfl my_62 rfl (tgt := 35) (nx := 23) rfl rfl (fun c3 => ?_) (fun c3 => ?_)
  · refine B_iload rfl my_62 rfl ?_
    refine B_iconst rfl my_62 (by decide) ?_
    refine B_ic_ne rfl my_62 rfl (tgt := 57) (nx := 41) rfl rfl (fun c4 => ?_) (fun c4 => ?_)
    · refine B_iconst rfl my_62 (by decide) ?_
      refine B_istore rfl my_62 (by decide) rfl (show _ = [wr T, wi q, wi c, wi (ca σ T (rd σ (T + 23) 60 q) c), wi (rd σ (T + 31) 20 c), wi 0] from rfl) ?_
      refine B_iload rfl my_62 rfl ?_
      refine B_if_eq rfl my_62 rfl (tgt := 80) (nx := 65) rfl rfl (fun _ => ?_) (fun c9 => absurd c9 (by decide))
      show Bt E 62 80 [wr T, wi q, wi c, wi (ca σ T (rd σ (T + 23) 60 q) c), wi (rd σ (T + 31) 20 c), wi 0] [] σ _
      refine B_aloadn rfl my_62 rfl ?_
      refine B_ref hE.1 rfl my_62 rfl (r := (T + 27)) (wf_0_4 hT) ?_
      refine B_iloadn rfl my_62 rfl ?_
      refine B_cV hE.1 rfl (nm_27 hT).1 cw_62_20 (as := [wi (ca σ T (rd σ (T + 23) 60 q) c)]) (rest := []) rfl (Nat.le_of_ble_eq_true rfl) (g_at hE (nm_27 hT) (by decide) hS.kv) (fun vo s9 hq => ?_)
      obtain ⟨rfl, rfl⟩ := hq
      show Bt E 62 88 [wr T, wi q, wi c, wi (ca σ T (rd σ (T + 23) 60 q) c), wi (rd σ (T + 31) 20 c), wi 0] [wi (rd σ (T + 27) 501 (ca σ T (rd σ (T + 23) 60 q) c))] σ _
      refine B_top (fun r6 => ?_)
      refine B_iret rfl my_62 rfl ?_
      refine ⟨congrArg (fun z => some (wi z)) ?_, rfl⟩
      unfold vi
      rw [if_neg (by omega), if_neg (by omega)]
    · refine B_aloadn rfl my_62 rfl ?_
      refine B_ref hE.1 rfl my_62 rfl (r := (T + 25)) (wf_0_3 hT) ?_
      refine B_iloadn rfl my_62 rfl ?_
      refine B_cV hE.1 rfl (nm_25 hT).1 cw_62_20 (as := [wi (ca σ T (rd σ (T + 23) 60 q) c)]) (rest := []) rfl (Nat.le_of_ble_eq_true rfl) (g_at hE (nm_25 hT) (by decide) (kr_ca hS.hI hS.kk)) (fun vo s9 hq => ?_)
      obtain ⟨rfl, rfl⟩ := hq
      show Bt E 62 49 [wr T, wi q, wi c, wi (ca σ T (rd σ (T + 23) 60 q) c), wi (rd σ (T + 31) 20 c), wx] [wi (rd σ (T + 25) 501 (ca σ T (rd σ (T + 23) 60 q) c))] σ _
      refine B_top (fun r7 => ?_)
      refine B_iconst rfl my_62 (by decide) ?_
      refine B_ic_ne rfl my_62 rfl (tgt := 57) (nx := 53) rfl rfl (fun c8 => ?_) (fun c8 => ?_)
      · refine B_iconst rfl my_62 (by decide) ?_
        refine B_istore rfl my_62 (by decide) rfl (show _ = [wr T, wi q, wi c, wi (ca σ T (rd σ (T + 23) 60 q) c), wi (rd σ (T + 31) 20 c), wi 0] from rfl) ?_
        refine B_iload rfl my_62 rfl ?_
        refine B_if_eq rfl my_62 rfl (tgt := 80) (nx := 65) rfl rfl (fun _ => ?_) (fun c9 => absurd c9 (by decide))
        show Bt E 62 80 [wr T, wi q, wi c, wi (ca σ T (rd σ (T + 23) 60 q) c), wi (rd σ (T + 31) 20 c), wi 0] [] σ _
        refine B_aloadn rfl my_62 rfl ?_
        refine B_ref hE.1 rfl my_62 rfl (r := (T + 27)) (wf_0_4 hT) ?_
        refine B_iloadn rfl my_62 rfl ?_
        refine B_cV hE.1 rfl (nm_27 hT).1 cw_62_20 (as := [wi (ca σ T (rd σ (T + 23) 60 q) c)]) (rest := []) rfl (Nat.le_of_ble_eq_true rfl) (g_at hE (nm_27 hT) (by decide) hS.kv) (fun vo s9 hq => ?_)
        obtain ⟨rfl, rfl⟩ := hq
        show Bt E 62 88 [wr T, wi q, wi c, wi (ca σ T (rd σ (T + 23) 60 q) c), wi (rd σ (T + 31) 20 c), wi 0] [wi (rd σ (T + 27) 501 (ca σ T (rd σ (T + 23) 60 q) c))] σ _
        refine B_top (fun r10 => ?_)
        refine B_iret rfl my_62 rfl ?_
        refine ⟨congrArg (fun z => some (wi z)) ?_, rfl⟩
        unfold vi
        rw [if_neg (by omega), if_neg (by omega)]
      · refine B_iconst rfl my_62 (by decide) ?_
        refine B_goto rfl my_62 rfl (tgt := 58) rfl ?_
        refine B_istore rfl my_62 (by decide) rfl (show _ = [wr T, wi q, wi c, wi (ca σ T (rd σ (T + 23) 60 q) c), wi (rd σ (T + 31) 20 c), wi 1] from rfl) ?_
        refine B_iload rfl my_62 rfl ?_
        refine B_if_eq rfl my_62 rfl (tgt := 80) (nx := 65) rfl rfl (fun c9 => absurd c9 (by decide)) (fun _ => ?_)
        show Bt E 62 65 [wr T, wi q, wi c, wi (ca σ T (rd σ (T + 23) 60 q) c), wi (rd σ (T + 31) 20 c), wi 1] [] σ _
        refine B_sipush rfl my_62 (n := 1000) rfl ?_
        refine B_aloadn rfl my_62 rfl ?_
        refine B_ref hE.1 rfl my_62 rfl (r := (T + 27)) (wf_0_4 hT) ?_
        refine B_iloadn rfl my_62 rfl ?_
        refine B_cV hE.1 rfl (nm_27 hT).1 cw_62_20 (as := [wi (ca σ T (rd σ (T + 23) 60 q) c)]) (rest := [wi 1000]) rfl (Nat.le_of_ble_eq_true rfl) (g_at hE (nm_27 hT) (by decide) hS.kv) (fun vo s9 hq => ?_)
        obtain ⟨rfl, rfl⟩ := hq
        show Bt E 62 76 [wr T, wi q, wi c, wi (ca σ T (rd σ (T + 23) 60 q) c), wi (rd σ (T + 31) 20 c), wi 1] [wi (rd σ (T + 27) 501 (ca σ T (rd σ (T + 23) 60 q) c)), wi 1000] σ _
        refine B_top (fun r12 => ?_)
        refine B_imulW rfl my_62 ?_
        refine B_top (fun r13 => ?_)
        refine B_goto rfl my_62 rfl (tgt := 88) rfl ?_
        refine B_iret rfl my_62 rfl ?_
        refine ⟨congrArg (fun z => some (wi z)) ?_, rfl⟩
        unfold vi
        rw [if_neg (by omega), if_pos (by omega)]
  · refine B_aloadn rfl my_62 rfl ?_
    refine B_ref hE.1 rfl my_62 rfl (r := (T + 1)) (wf_0_0 hT) ?_
    refine B_ref hE.1 rfl my_62 rfl (r := (T + 6)) (wf_1_2 hT) ?_
    refine B_iloadn rfl my_62 rfl ?_
    refine B_cV hE.1 rfl (nm_6 hT).1 cw_62_20 (as := [wi (ca σ T (rd σ (T + 23) 60 q) c)]) (rest := []) rfl (Nat.le_of_ble_eq_true rfl) (g_at hE (nm_6 hT) (by decide) (kr_of fun _ => hS.hR _ (by omega) (by omega) _)) (fun vo s9 hq => ?_)
    obtain ⟨rfl, rfl⟩ := hq
    show Bt E 62 34 [wr T, wi q, wi c, wi (ca σ T (rd σ (T + 23) 60 q) c), wi (rd σ (T + 31) 20 c), wx] [wi (rd σ (T + 6) 501 (ca σ T (rd σ (T + 23) 60 q) c))] σ _
    refine B_top (fun r14 => ?_)
    refine B_iret rfl my_62 rfl ?_
    refine ⟨congrArg (fun z => some (wi z)) ?_, rfl⟩
    unfold vi
    rw [if_pos (by omega)]
/-- a kept row's cell is not empty -/
def fil (σ : wSt) (T : Nat) (q c : Int) : Prop := rd σ (T + 25) 501 (ca σ T (rd σ (T + 23) 60 q) c) ≠ 0
def NFl (σ : wSt) (T : Nat) (c i : Int) : Prop := ∀ q, 0 ≤ q → q < i → ¬ fil σ T q c
def LoB (σ : wSt) (T : Nat) (c i x : Int) : Prop := ∀ q, 0 ≤ q → q < i → fil σ T q c → x ≤ vi σ T q c
def HiB (σ : wSt) (T : Nat) (c i x : Int) : Prop := ∀ q, 0 ≤ q → q < i → fil σ T q c → vi σ T q c ≤ x
def FdQ (σ : wSt) (T : Nat) (c i v x : Int) : Prop := ∀ q, 0 ≤ q → q < i → fil σ T q c → vi σ T q c = v → 0 ≤ x ∧ x ≤ q
theorem nfl_s {σ : wSt} {T : Nat} {c i : Int} (h : NFl σ T c i) (h1 : ¬ fil σ T i c) : NFl σ T c (i + 1) := fun q q1 q2 => by
  by_cases e : q = i
  · subst e; exact h1
  · exact h q q1 (by omega)
theorem lob_n {σ : wSt} {T : Nat} {c i x : Int} (h : LoB σ T c i x) (h1 : ¬ fil σ T i c) : LoB σ T c (i + 1) x := fun q q1 q2 q3 => by
  by_cases e : q = i
  · subst e; exact absurd q3 h1
  · exact h q q1 (by omega) q3
theorem lob_s {σ : wSt} {T : Nat} {c i x y : Int} (h : LoB σ T c i x ∧ y ≤ x ∨ NFl σ T c i) (h1 : y ≤ vi σ T i c) : LoB σ T c (i + 1) y := fun q q1 q2 q3 => by
  by_cases e : q = i
  · subst e; exact h1
  · rcases h with h | h
    · exact Int.le_trans h.2 (h.1 q q1 (by omega) q3)
    · exact absurd q3 (h q q1 (by omega))
theorem hib_n {σ : wSt} {T : Nat} {c i x : Int} (h : HiB σ T c i x) (h1 : ¬ fil σ T i c) : HiB σ T c (i + 1) x := fun q q1 q2 q3 => by
  by_cases e : q = i
  · subst e; exact absurd q3 h1
  · exact h q q1 (by omega) q3
theorem hib_s {σ : wSt} {T : Nat} {c i x y : Int} (h : HiB σ T c i x ∧ x ≤ y ∨ NFl σ T c i) (h1 : vi σ T i c ≤ y) : HiB σ T c (i + 1) y := fun q q1 q2 q3 => by
  by_cases e : q = i
  · subst e; exact h1
  · rcases h with h | h
    · exact Int.le_trans (h.1 q q1 (by omega) q3) h.2
    · exact absurd q3 (h q q1 (by omega))
theorem fdq_s {σ : wSt} {T : Nat} {c i v : Int} (h : ∀ q, 0 ≤ q → q < i → fil σ T q c → vi σ T q c ≠ v) (h1 : fil σ T i c → vi σ T i c ≠ v) : ∀ q, 0 ≤ q → q < i + 1 → fil σ T q c → vi σ T q c ≠ v := fun q q1 q2 q3 => by
  by_cases e : q = i
  · subst e; exact h1 q3
  · exact h q q1 (by omega) q3
theorem g_isFilledIn {E : mE} {σ : wSt} {T : Nat} (hE : wE E) (hT : Tb T) (hS : SIt T σ) {q : Int} (hq1 : 0 ≤ q) (hq2 : q < gv σ T 11) {c : Int} : Ev E 63 [wr T, wi q, wi c] σ (fun x => (x = 0 ∨ x = 1) ∧ (x = 1 ↔ fil σ T q c)) := by
  refine Fn.of (nL := 3) ?_
  show Bt E 63 0 [wr T, wi q, wi c] [] σ _
  refine B_rng 1 rfl (fun ha1 => ?_)
  refine B_rng 2 rfl (fun ha2 => ?_)
  refine B_aloadn rfl my_63 rfl ?_
  refine B_ref hE.1 rfl my_63 rfl (r := (T + 25)) (wf_0_3 hT) ?_
  refine B_aloadn rfl my_63 rfl ?_
  refine B_iloadn rfl my_63 rfl ?_
  refine B_iloadn rfl my_63 rfl ?_
  refine B_cV hE.1 rfl (wc_0 hT) cw_63_61 (as := [wi q, wi c]) (rest := [wr (T + 25)]) rfl (Nat.le_of_ble_eq_true rfl) (g_cellOfKept hE hT hS hq1 hq2) (fun vo s9 hq => ?_)
  obtain ⟨rfl, rfl⟩ := hq
  show Bt E 63 10 [wr T, wi q, wi c] [wi (ca σ T (rd σ (T + 23) 60 q) c), wr (T + 25)] σ _
  refine B_top (fun r1 => ?_)
  refine B_cV hE.1 rfl (nm_25 hT).1 cw_63_20 (as := [wi (ca σ T (rd σ (T + 23) 60 q) c)]) (rest := []) rfl (Nat.le_of_ble_eq_true rfl) (g_at hE (nm_25 hT) (by decide) (kr_ca hS.hI hS.kk)) (fun vo s9 hq => ?_)
  obtain ⟨rfl, rfl⟩ := hq
  show Bt E 63 13 [wr T, wi q, wi c] [wi (rd σ (T + 25) 501 (ca σ T (rd σ (T + 23) 60 q) c))] σ _
  refine B_top (fun r2 => ?_)
  refine B_if_eq rfl my_63 rfl (tgt := 20) (nx := 16) rfl rfl (fun c3 => ?_) (fun c3 => ?_)
  · refine B_iconst rfl my_63 (by decide) ?_
    refine B_bret rfl my_63 rfl (by omega) ?_
    exact ⟨_, rfl, ⟨by omega, by unfold fil; omega⟩, rfl⟩
  · refine B_iconst rfl my_63 (by decide) ?_
    refine B_goto rfl my_63 rfl (tgt := 21) rfl ?_
    refine B_bret rfl my_63 rfl (by omega) ?_
    exact ⟨_, rfl, ⟨by omega, by unfold fil; omega⟩, rfl⟩
theorem l_extreme0 {E : mE} {σ : wSt} {T : Nat} (hE : wE E) (hT : Tb T) (hS : SIt T σ) {c : Int} (hc1 : 0 ≤ c) (hc2 : c < min (gv σ (T + 1) 12) 20) : ∀ (k : Nat) (a x i : Int), (a = 0 ∨ a = 1) → 0 ≤ i → i ≤ gv σ T 11 → (a = 0 ∧ x = 0 ∧ NFl σ T c i ∨ a = 1 ∧ LoB σ T c i x ∧ (NFl σ T c i → x = 0)) → (gv σ T 11 - i).toNat ≤ k → Bt E 64 8 [wr T, wi c, wi 0, wi a, wi x, wi i, wx, wx] [] σ (fun vo t => ∃ x, vo = some (wi x) ∧ (LoB σ T c (gv σ T 11) x ∧ (NFl σ T c (gv σ T 11) → x = 0)) ∧ σ = t) := by
  intro k
  induction k with
  | zero =>
    intro a x i h1 h2 h3 h4 hm
    have h60 := hS.hI.1
    have hkc := hS.2.2.2.2.2.2.2.1
    refine B_rng 1 rfl (fun ha1 => ?_)
    refine B_rng 2 rfl (fun ha2 => ?_)
    refine B_rng 3 rfl (fun ha3 => ?_)
    refine B_rng 4 rfl (fun ha4 => ?_)
    refine B_rng 5 rfl (fun ha5 => ?_)
    refine B_iload rfl my_64 rfl ?_
    refine B_aloadn rfl my_64 rfl ?_
    refine B_int hE.1 rfl my_64 rfl (wn_0_11 hT) hS.2.2.2.2.2.1 (fun r1 => ?_)
    refine B_ic_ge rfl my_64 rfl (tgt := 95) (nx := 17) rfl rfl (fun c2 => ?_) (fun c2 => ?_)
    · refine B_iload rfl my_64 rfl ?_
      refine B_iret rfl my_64 rfl ?_
      rw [show i = gv σ T 11 by omega] at h4
      rcases h4 with h4 | h4
      · exact ⟨_, rfl, ⟨fun q q1 q2 q3 => absurd q3 (h4.2.2 q q1 q2), fun _ => h4.2.1⟩, rfl⟩
      · exact ⟨_, rfl, ⟨h4.2.1, h4.2.2⟩, rfl⟩
    · exact absurd hm (by omega)
  | succ k ih =>
    intro a x i h1 h2 h3 h4 hm
    have h60 := hS.hI.1
    have hkc := hS.2.2.2.2.2.2.2.1
    refine B_rng 1 rfl (fun ha1 => ?_)
    refine B_rng 2 rfl (fun ha2 => ?_)
    refine B_rng 3 rfl (fun ha3 => ?_)
    refine B_rng 4 rfl (fun ha4 => ?_)
    refine B_rng 5 rfl (fun ha5 => ?_)
    refine B_iload rfl my_64 rfl ?_
    refine B_aloadn rfl my_64 rfl ?_
    refine B_int hE.1 rfl my_64 rfl (wn_0_11 hT) hS.2.2.2.2.2.1 (fun r1 => ?_)
    refine B_ic_ge rfl my_64 rfl (tgt := 95) (nx := 17) rfl rfl (fun c2 => ?_) (fun c2 => ?_)
    · refine B_iload rfl my_64 rfl ?_
      refine B_iret rfl my_64 rfl ?_
      rw [show i = gv σ T 11 by omega] at h4
      rcases h4 with h4 | h4
      · exact ⟨_, rfl, ⟨fun q q1 q2 q3 => absurd q3 (h4.2.2 q q1 q2), fun _ => h4.2.1⟩, rfl⟩
      · exact ⟨_, rfl, ⟨h4.2.1, h4.2.2⟩, rfl⟩
    · refine B_aloadn rfl my_64 rfl ?_
      refine B_iload rfl my_64 rfl ?_
      refine B_iloadn rfl my_64 rfl ?_
      refine B_cV hE.1 rfl (wc_0 hT) cw_64_63 (as := [wi i, wi c]) (rest := []) rfl (Nat.le_of_ble_eq_true rfl) (g_isFilledIn hE hT hS (by omega) (by omega)) (fun vo s9 hq => ?_)
      obtain ⟨x3, rfl, ⟨hz4, hfi⟩, rfl⟩ := hq
      show Bt E 64 24 [wr T, wi c, wi 0, wi a, wi x, wi i, wx, wx] [wi x3] σ _
      refine B_top (fun r5 => ?_)
      refine B_if_eq rfl my_64 rfl (tgt := 89) (nx := 27) rfl rfl (fun c6 => ?_) (fun c6 => ?_)
      · refine B_iinc rfl my_64 (by decide) rfl rfl rfl (by omega) (by omega) (show _ = [wr T, wi c, wi 0, wi a, wi x, wi (i + 1), wx, wx] from rfl) ?_
        refine B_goto rfl my_64 rfl (tgt := 8) rfl ?_
        refine B_loc (l' := [wr T, wi c, wi 0, wi a, wi x, wi (i + 1), wx, wx]) ⟨Or.inl rfl, Or.inl rfl, Or.inl rfl, Or.inl rfl, Or.inl rfl, Or.inl rfl, Or.inr rfl, Or.inr rfl, trivial⟩ ?_
        have hnf : ¬ fil σ T i c := fun e => by have := hfi.mpr e; omega
        refine ih _ _ _ (by omega) (by omega) (by omega) ?_ (by omega)
        rcases h4 with h4 | h4
        · exact Or.inl ⟨h4.1, h4.2.1, nfl_s h4.2.2 hnf⟩
        · exact Or.inr ⟨h4.1, lob_n h4.2.1 hnf, fun e => h4.2.2 (fun q q1 q2 => e q q1 (by omega))⟩
      · refine B_aloadn rfl my_64 rfl ?_
        refine B_iload rfl my_64 rfl ?_
        refine B_iloadn rfl my_64 rfl ?_
        refine B_cV hE.1 rfl (wc_0 hT) cw_64_62 (as := [wi i, wi c]) (rest := []) rfl (Nat.le_of_ble_eq_true rfl) (g_valueIn hE hT hS (by omega) (by omega) hc1 hc2) (fun vo s9 hq => ?_)
        obtain ⟨rfl, rfl⟩ := hq
        show Bt E 64 34 [wr T, wi c, wi 0, wi a, wi x, wi i, wx, wx] [wi (vi σ T i c)] σ _
        refine B_top (fun r7 => ?_)
        refine B_istore rfl my_64 (by decide) rfl (show _ = [wr T, wi c, wi 0, wi a, wi x, wi i, wi (vi σ T i c), wx] from rfl) ?_
        refine B_iloadn rfl my_64 rfl ?_
        refine B_if_eq rfl my_64 rfl (tgt := 55) (nx := 40) rfl rfl (fun _ => ?_) (fun c9 => absurd c9 (by decide))
        show Bt E 64 55 [wr T, wi c, wi 0, wi a, wi x, wi i, wi (vi σ T i c), wx] [] σ _
        refine B_iload rfl my_64 rfl ?_
        refine B_iload rfl my_64 rfl ?_
        refine B_ic_ge rfl my_64 rfl (tgt := 66) (nx := 62) rfl rfl (fun c9 => ?_) (fun c9 => ?_)
        · refine B_iconst rfl my_64 (by decide) ?_
          refine B_istore rfl my_64 (by decide) rfl (show _ = [wr T, wi c, wi 0, wi a, wi x, wi i, wi (vi σ T i c), wi 0] from rfl) ?_
          refine B_iloadn rfl my_64 rfl ?_
          refine B_if_eq rfl my_64 rfl (tgt := 78) (nx := 73) rfl rfl (fun c10 => ?_) (fun c10 => ?_)
          · refine B_iload rfl my_64 rfl ?_
            refine B_goto rfl my_64 rfl (tgt := 85) rfl ?_
            refine B_istore rfl my_64 (by decide) rfl (show _ = [wr T, wi c, wi 0, wi a, wi (vi σ T i c), wi i, wi (vi σ T i c), wi 0] from rfl) ?_
            refine B_iconst rfl my_64 (by decide) ?_
            refine B_istoren rfl my_64 (by decide) rfl (show _ = [wr T, wi c, wi 0, wi 1, wi (vi σ T i c), wi i, wi (vi σ T i c), wi 0] from rfl) ?_
            refine B_iinc rfl my_64 (by decide) rfl rfl rfl (by omega) (by omega) (show _ = [wr T, wi c, wi 0, wi 1, wi (vi σ T i c), wi (i + 1), wi (vi σ T i c), wi 0] from rfl) ?_
            refine B_goto rfl my_64 rfl (tgt := 8) rfl ?_
            refine B_loc (l' := [wr T, wi c, wi 0, wi 1, wi (vi σ T i c), wi (i + 1), wx, wx]) ⟨Or.inl rfl, Or.inl rfl, Or.inl rfl, Or.inl rfl, Or.inl rfl, Or.inl rfl, Or.inr rfl, Or.inr rfl, trivial⟩ ?_
            have hff : fil σ T i c := hfi.mp (by omega)
            refine ih _ _ _ (by omega) (by omega) (by omega) (Or.inr ⟨rfl, ?_, fun e => absurd hff (e i (by omega) (by omega))⟩) (by omega)
            exact lob_s (x := x) (y := vi σ T i c) (by
              rcases h4 with h4 | h4
              · exact Or.inr h4.2.2
              · exact Or.inl ⟨h4.2.1, by omega⟩) (by omega)
          · refine B_iload rfl my_64 rfl ?_
            refine B_if_eq rfl my_64 rfl (tgt := 83) (nx := 78) rfl rfl (fun _ => ?_) (fun c9 => absurd c9 (by decide))
            show Bt E 64 83 [wr T, wi c, wi 0, wi a, wi x, wi i, wi (vi σ T i c), wi 0] [] σ _
            refine B_iload rfl my_64 rfl ?_
            refine B_istore rfl my_64 (by decide) rfl (show _ = [wr T, wi c, wi 0, wi a, wi x, wi i, wi (vi σ T i c), wi 0] from rfl) ?_
            refine B_iconst rfl my_64 (by decide) ?_
            refine B_istoren rfl my_64 (by decide) rfl (show _ = [wr T, wi c, wi 0, wi 1, wi x, wi i, wi (vi σ T i c), wi 0] from rfl) ?_
            refine B_iinc rfl my_64 (by decide) rfl rfl rfl (by omega) (by omega) (show _ = [wr T, wi c, wi 0, wi 1, wi x, wi (i + 1), wi (vi σ T i c), wi 0] from rfl) ?_
            refine B_goto rfl my_64 rfl (tgt := 8) rfl ?_
            refine B_loc (l' := [wr T, wi c, wi 0, wi 1, wi x, wi (i + 1), wx, wx]) ⟨Or.inl rfl, Or.inl rfl, Or.inl rfl, Or.inl rfl, Or.inl rfl, Or.inl rfl, Or.inr rfl, Or.inr rfl, trivial⟩ ?_
            have hff : fil σ T i c := hfi.mp (by omega)
            refine ih _ _ _ (by omega) (by omega) (by omega) (Or.inr ⟨rfl, ?_, fun e => absurd hff (e i (by omega) (by omega))⟩) (by omega)
            exact lob_s (x := x) (y := x) (by
              rcases h4 with h4 | h4
              · exact Or.inr h4.2.2
              · exact Or.inl ⟨h4.2.1, by omega⟩) (by omega)
        · refine B_iconst rfl my_64 (by decide) ?_
          refine B_goto rfl my_64 rfl (tgt := 67) rfl ?_
          refine B_istore rfl my_64 (by decide) rfl (show _ = [wr T, wi c, wi 0, wi a, wi x, wi i, wi (vi σ T i c), wi 1] from rfl) ?_
          refine B_iloadn rfl my_64 rfl ?_
          refine B_if_eq rfl my_64 rfl (tgt := 78) (nx := 73) rfl rfl (fun c12 => ?_) (fun c12 => ?_)
          · refine B_iload rfl my_64 rfl ?_
            refine B_goto rfl my_64 rfl (tgt := 85) rfl ?_
            refine B_istore rfl my_64 (by decide) rfl (show _ = [wr T, wi c, wi 0, wi a, wi (vi σ T i c), wi i, wi (vi σ T i c), wi 1] from rfl) ?_
            refine B_iconst rfl my_64 (by decide) ?_
            refine B_istoren rfl my_64 (by decide) rfl (show _ = [wr T, wi c, wi 0, wi 1, wi (vi σ T i c), wi i, wi (vi σ T i c), wi 1] from rfl) ?_
            refine B_iinc rfl my_64 (by decide) rfl rfl rfl (by omega) (by omega) (show _ = [wr T, wi c, wi 0, wi 1, wi (vi σ T i c), wi (i + 1), wi (vi σ T i c), wi 1] from rfl) ?_
            refine B_goto rfl my_64 rfl (tgt := 8) rfl ?_
            refine B_loc (l' := [wr T, wi c, wi 0, wi 1, wi (vi σ T i c), wi (i + 1), wx, wx]) ⟨Or.inl rfl, Or.inl rfl, Or.inl rfl, Or.inl rfl, Or.inl rfl, Or.inl rfl, Or.inr rfl, Or.inr rfl, trivial⟩ ?_
            have hff : fil σ T i c := hfi.mp (by omega)
            refine ih _ _ _ (by omega) (by omega) (by omega) (Or.inr ⟨rfl, ?_, fun e => absurd hff (e i (by omega) (by omega))⟩) (by omega)
            exact lob_s (x := x) (y := vi σ T i c) (by
              rcases h4 with h4 | h4
              · exact Or.inr h4.2.2
              · exact Or.inl ⟨h4.2.1, by omega⟩) (by omega)
          · refine B_iload rfl my_64 rfl ?_
            refine B_if_eq rfl my_64 rfl (tgt := 83) (nx := 78) rfl rfl (fun c9 => absurd c9 (by decide)) (fun _ => ?_)
            show Bt E 64 78 [wr T, wi c, wi 0, wi a, wi x, wi i, wi (vi σ T i c), wi 1] [] σ _
            refine B_iload rfl my_64 rfl ?_
            refine B_goto rfl my_64 rfl (tgt := 85) rfl ?_
            refine B_istore rfl my_64 (by decide) rfl (show _ = [wr T, wi c, wi 0, wi a, wi (vi σ T i c), wi i, wi (vi σ T i c), wi 1] from rfl) ?_
            refine B_iconst rfl my_64 (by decide) ?_
            refine B_istoren rfl my_64 (by decide) rfl (show _ = [wr T, wi c, wi 0, wi 1, wi (vi σ T i c), wi i, wi (vi σ T i c), wi 1] from rfl) ?_
            refine B_iinc rfl my_64 (by decide) rfl rfl rfl (by omega) (by omega) (show _ = [wr T, wi c, wi 0, wi 1, wi (vi σ T i c), wi (i + 1), wi (vi σ T i c), wi 1] from rfl) ?_
            refine B_goto rfl my_64 rfl (tgt := 8) rfl ?_
            refine B_loc (l' := [wr T, wi c, wi 0, wi 1, wi (vi σ T i c), wi (i + 1), wx, wx]) ⟨Or.inl rfl, Or.inl rfl, Or.inl rfl, Or.inl rfl, Or.inl rfl, Or.inl rfl, Or.inr rfl, Or.inr rfl, trivial⟩ ?_
            have hff : fil σ T i c := hfi.mp (by omega)
            refine ih _ _ _ (by omega) (by omega) (by omega) (Or.inr ⟨rfl, ?_, fun e => absurd hff (e i (by omega) (by omega))⟩) (by omega)
            exact lob_s (x := x) (y := vi σ T i c) (by
              rcases h4 with h4 | h4
              · exact Or.inr h4.2.2
              · exact Or.inl ⟨h4.2.1, by omega⟩) (by omega)
theorem g_extreme0 {E : mE} {σ : wSt} {T : Nat} (hE : wE E) (hT : Tb T) (hS : SIt T σ) {c : Int} (hc1 : 0 ≤ c) (hc2 : c < min (gv σ (T + 1) 12) 20) : Fn E 64 [wr T, wi c, wi 0] σ (fun vo t => ∃ x, vo = some (wi x) ∧ (LoB σ T c (gv σ T 11) x ∧ (NFl σ T c (gv σ T 11) → x = 0)) ∧ σ = t) := by
  refine Fn.of (nL := 8) ?_
  show Bt E 64 0 [wr T, wi c, wi 0, wx, wx, wx, wx, wx] [] σ _
  refine B_rng 1 rfl (fun ha1 => ?_)
  refine B_rng 2 rfl (fun ha2 => ?_)
  refine B_iconst rfl my_64 (by decide) ?_
  refine B_istoren rfl my_64 (by decide) rfl (show _ = [wr T, wi c, wi 0, wi 0, wx, wx, wx, wx] from rfl) ?_
  refine B_iconst rfl my_64 (by decide) ?_
  refine B_istore rfl my_64 (by decide) rfl (show _ = [wr T, wi c, wi 0, wi 0, wi 0, wx, wx, wx] from rfl) ?_
  refine B_iconst rfl my_64 (by decide) ?_
  refine B_istore rfl my_64 (by decide) rfl (show _ = [wr T, wi c, wi 0, wi 0, wi 0, wi 0, wx, wx] from rfl) ?_
  exact l_extreme0 hE hT hS hc1 hc2 _ 0 0 0 (Or.inl rfl) (by omega) hS.2.2.2.2.2.2.1 (Or.inl ⟨rfl, rfl, fun q q1 q2 => by omega⟩) (Nat.le_refl _)
theorem l_extreme1 {E : mE} {σ : wSt} {T : Nat} (hE : wE E) (hT : Tb T) (hS : SIt T σ) {c : Int} (hc1 : 0 ≤ c) (hc2 : c < min (gv σ (T + 1) 12) 20) : ∀ (k : Nat) (a x i : Int), (a = 0 ∨ a = 1) → 0 ≤ i → i ≤ gv σ T 11 → (a = 0 ∧ x = 0 ∧ NFl σ T c i ∨ a = 1 ∧ HiB σ T c i x ∧ (NFl σ T c i → x = 0)) → (gv σ T 11 - i).toNat ≤ k → Bt E 64 8 [wr T, wi c, wi 1, wi a, wi x, wi i, wx, wx] [] σ (fun vo t => ∃ x, vo = some (wi x) ∧ (HiB σ T c (gv σ T 11) x ∧ (NFl σ T c (gv σ T 11) → x = 0)) ∧ σ = t) := by
  intro k
  induction k with
  | zero =>
    intro a x i h1 h2 h3 h4 hm
    have h60 := hS.hI.1
    have hkc := hS.2.2.2.2.2.2.2.1
    refine B_rng 1 rfl (fun ha1 => ?_)
    refine B_rng 2 rfl (fun ha2 => ?_)
    refine B_rng 3 rfl (fun ha3 => ?_)
    refine B_rng 4 rfl (fun ha4 => ?_)
    refine B_rng 5 rfl (fun ha5 => ?_)
    refine B_iload rfl my_64 rfl ?_
    refine B_aloadn rfl my_64 rfl ?_
    refine B_int hE.1 rfl my_64 rfl (wn_0_11 hT) hS.2.2.2.2.2.1 (fun r1 => ?_)
    refine B_ic_ge rfl my_64 rfl (tgt := 95) (nx := 17) rfl rfl (fun c2 => ?_) (fun c2 => ?_)
    · refine B_iload rfl my_64 rfl ?_
      refine B_iret rfl my_64 rfl ?_
      rw [show i = gv σ T 11 by omega] at h4
      rcases h4 with h4 | h4
      · exact ⟨_, rfl, ⟨fun q q1 q2 q3 => absurd q3 (h4.2.2 q q1 q2), fun _ => h4.2.1⟩, rfl⟩
      · exact ⟨_, rfl, ⟨h4.2.1, h4.2.2⟩, rfl⟩
    · exact absurd hm (by omega)
  | succ k ih =>
    intro a x i h1 h2 h3 h4 hm
    have h60 := hS.hI.1
    have hkc := hS.2.2.2.2.2.2.2.1
    refine B_rng 1 rfl (fun ha1 => ?_)
    refine B_rng 2 rfl (fun ha2 => ?_)
    refine B_rng 3 rfl (fun ha3 => ?_)
    refine B_rng 4 rfl (fun ha4 => ?_)
    refine B_rng 5 rfl (fun ha5 => ?_)
    refine B_iload rfl my_64 rfl ?_
    refine B_aloadn rfl my_64 rfl ?_
    refine B_int hE.1 rfl my_64 rfl (wn_0_11 hT) hS.2.2.2.2.2.1 (fun r1 => ?_)
    refine B_ic_ge rfl my_64 rfl (tgt := 95) (nx := 17) rfl rfl (fun c2 => ?_) (fun c2 => ?_)
    · refine B_iload rfl my_64 rfl ?_
      refine B_iret rfl my_64 rfl ?_
      rw [show i = gv σ T 11 by omega] at h4
      rcases h4 with h4 | h4
      · exact ⟨_, rfl, ⟨fun q q1 q2 q3 => absurd q3 (h4.2.2 q q1 q2), fun _ => h4.2.1⟩, rfl⟩
      · exact ⟨_, rfl, ⟨h4.2.1, h4.2.2⟩, rfl⟩
    · refine B_aloadn rfl my_64 rfl ?_
      refine B_iload rfl my_64 rfl ?_
      refine B_iloadn rfl my_64 rfl ?_
      refine B_cV hE.1 rfl (wc_0 hT) cw_64_63 (as := [wi i, wi c]) (rest := []) rfl (Nat.le_of_ble_eq_true rfl) (g_isFilledIn hE hT hS (by omega) (by omega)) (fun vo s9 hq => ?_)
      obtain ⟨x3, rfl, ⟨hz4, hfi⟩, rfl⟩ := hq
      show Bt E 64 24 [wr T, wi c, wi 1, wi a, wi x, wi i, wx, wx] [wi x3] σ _
      refine B_top (fun r5 => ?_)
      refine B_if_eq rfl my_64 rfl (tgt := 89) (nx := 27) rfl rfl (fun c6 => ?_) (fun c6 => ?_)
      · refine B_iinc rfl my_64 (by decide) rfl rfl rfl (by omega) (by omega) (show _ = [wr T, wi c, wi 1, wi a, wi x, wi (i + 1), wx, wx] from rfl) ?_
        refine B_goto rfl my_64 rfl (tgt := 8) rfl ?_
        refine B_loc (l' := [wr T, wi c, wi 1, wi a, wi x, wi (i + 1), wx, wx]) ⟨Or.inl rfl, Or.inl rfl, Or.inl rfl, Or.inl rfl, Or.inl rfl, Or.inl rfl, Or.inr rfl, Or.inr rfl, trivial⟩ ?_
        have hnf : ¬ fil σ T i c := fun e => by have := hfi.mpr e; omega
        refine ih _ _ _ (by omega) (by omega) (by omega) ?_ (by omega)
        rcases h4 with h4 | h4
        · exact Or.inl ⟨h4.1, h4.2.1, nfl_s h4.2.2 hnf⟩
        · exact Or.inr ⟨h4.1, hib_n h4.2.1 hnf, fun e => h4.2.2 (fun q q1 q2 => e q q1 (by omega))⟩
      · refine B_aloadn rfl my_64 rfl ?_
        refine B_iload rfl my_64 rfl ?_
        refine B_iloadn rfl my_64 rfl ?_
        refine B_cV hE.1 rfl (wc_0 hT) cw_64_62 (as := [wi i, wi c]) (rest := []) rfl (Nat.le_of_ble_eq_true rfl) (g_valueIn hE hT hS (by omega) (by omega) hc1 hc2) (fun vo s9 hq => ?_)
        obtain ⟨rfl, rfl⟩ := hq
        show Bt E 64 34 [wr T, wi c, wi 1, wi a, wi x, wi i, wx, wx] [wi (vi σ T i c)] σ _
        refine B_top (fun r7 => ?_)
        refine B_istore rfl my_64 (by decide) rfl (show _ = [wr T, wi c, wi 1, wi a, wi x, wi i, wi (vi σ T i c), wx] from rfl) ?_
        refine B_iloadn rfl my_64 rfl ?_
        refine B_if_eq rfl my_64 rfl (tgt := 55) (nx := 40) rfl rfl (fun c9 => absurd c9 (by decide)) (fun _ => ?_)
        show Bt E 64 40 [wr T, wi c, wi 1, wi a, wi x, wi i, wi (vi σ T i c), wx] [] σ _
        refine B_iload rfl my_64 rfl ?_
        refine B_iload rfl my_64 rfl ?_
        refine B_ic_le rfl my_64 rfl (tgt := 51) (nx := 47) rfl rfl (fun c9 => ?_) (fun c9 => ?_)
        · refine B_iconst rfl my_64 (by decide) ?_
          refine B_goto rfl my_64 rfl (tgt := 67) rfl ?_
          refine B_istore rfl my_64 (by decide) rfl (show _ = [wr T, wi c, wi 1, wi a, wi x, wi i, wi (vi σ T i c), wi 0] from rfl) ?_
          refine B_iloadn rfl my_64 rfl ?_
          refine B_if_eq rfl my_64 rfl (tgt := 78) (nx := 73) rfl rfl (fun c10 => ?_) (fun c10 => ?_)
          · refine B_iload rfl my_64 rfl ?_
            refine B_goto rfl my_64 rfl (tgt := 85) rfl ?_
            refine B_istore rfl my_64 (by decide) rfl (show _ = [wr T, wi c, wi 1, wi a, wi (vi σ T i c), wi i, wi (vi σ T i c), wi 0] from rfl) ?_
            refine B_iconst rfl my_64 (by decide) ?_
            refine B_istoren rfl my_64 (by decide) rfl (show _ = [wr T, wi c, wi 1, wi 1, wi (vi σ T i c), wi i, wi (vi σ T i c), wi 0] from rfl) ?_
            refine B_iinc rfl my_64 (by decide) rfl rfl rfl (by omega) (by omega) (show _ = [wr T, wi c, wi 1, wi 1, wi (vi σ T i c), wi (i + 1), wi (vi σ T i c), wi 0] from rfl) ?_
            refine B_goto rfl my_64 rfl (tgt := 8) rfl ?_
            refine B_loc (l' := [wr T, wi c, wi 1, wi 1, wi (vi σ T i c), wi (i + 1), wx, wx]) ⟨Or.inl rfl, Or.inl rfl, Or.inl rfl, Or.inl rfl, Or.inl rfl, Or.inl rfl, Or.inr rfl, Or.inr rfl, trivial⟩ ?_
            have hff : fil σ T i c := hfi.mp (by omega)
            refine ih _ _ _ (by omega) (by omega) (by omega) (Or.inr ⟨rfl, ?_, fun e => absurd hff (e i (by omega) (by omega))⟩) (by omega)
            exact hib_s (x := x) (y := vi σ T i c) (by
              rcases h4 with h4 | h4
              · exact Or.inr h4.2.2
              · exact Or.inl ⟨h4.2.1, by omega⟩) (by omega)
          · refine B_iload rfl my_64 rfl ?_
            refine B_if_eq rfl my_64 rfl (tgt := 83) (nx := 78) rfl rfl (fun _ => ?_) (fun c9 => absurd c9 (by decide))
            show Bt E 64 83 [wr T, wi c, wi 1, wi a, wi x, wi i, wi (vi σ T i c), wi 0] [] σ _
            refine B_iload rfl my_64 rfl ?_
            refine B_istore rfl my_64 (by decide) rfl (show _ = [wr T, wi c, wi 1, wi a, wi x, wi i, wi (vi σ T i c), wi 0] from rfl) ?_
            refine B_iconst rfl my_64 (by decide) ?_
            refine B_istoren rfl my_64 (by decide) rfl (show _ = [wr T, wi c, wi 1, wi 1, wi x, wi i, wi (vi σ T i c), wi 0] from rfl) ?_
            refine B_iinc rfl my_64 (by decide) rfl rfl rfl (by omega) (by omega) (show _ = [wr T, wi c, wi 1, wi 1, wi x, wi (i + 1), wi (vi σ T i c), wi 0] from rfl) ?_
            refine B_goto rfl my_64 rfl (tgt := 8) rfl ?_
            refine B_loc (l' := [wr T, wi c, wi 1, wi 1, wi x, wi (i + 1), wx, wx]) ⟨Or.inl rfl, Or.inl rfl, Or.inl rfl, Or.inl rfl, Or.inl rfl, Or.inl rfl, Or.inr rfl, Or.inr rfl, trivial⟩ ?_
            have hff : fil σ T i c := hfi.mp (by omega)
            refine ih _ _ _ (by omega) (by omega) (by omega) (Or.inr ⟨rfl, ?_, fun e => absurd hff (e i (by omega) (by omega))⟩) (by omega)
            exact hib_s (x := x) (y := x) (by
              rcases h4 with h4 | h4
              · exact Or.inr h4.2.2
              · exact Or.inl ⟨h4.2.1, by omega⟩) (by omega)
        · refine B_iconst rfl my_64 (by decide) ?_
          refine B_goto rfl my_64 rfl (tgt := 67) rfl ?_
          refine B_istore rfl my_64 (by decide) rfl (show _ = [wr T, wi c, wi 1, wi a, wi x, wi i, wi (vi σ T i c), wi 1] from rfl) ?_
          refine B_iloadn rfl my_64 rfl ?_
          refine B_if_eq rfl my_64 rfl (tgt := 78) (nx := 73) rfl rfl (fun c12 => ?_) (fun c12 => ?_)
          · refine B_iload rfl my_64 rfl ?_
            refine B_goto rfl my_64 rfl (tgt := 85) rfl ?_
            refine B_istore rfl my_64 (by decide) rfl (show _ = [wr T, wi c, wi 1, wi a, wi (vi σ T i c), wi i, wi (vi σ T i c), wi 1] from rfl) ?_
            refine B_iconst rfl my_64 (by decide) ?_
            refine B_istoren rfl my_64 (by decide) rfl (show _ = [wr T, wi c, wi 1, wi 1, wi (vi σ T i c), wi i, wi (vi σ T i c), wi 1] from rfl) ?_
            refine B_iinc rfl my_64 (by decide) rfl rfl rfl (by omega) (by omega) (show _ = [wr T, wi c, wi 1, wi 1, wi (vi σ T i c), wi (i + 1), wi (vi σ T i c), wi 1] from rfl) ?_
            refine B_goto rfl my_64 rfl (tgt := 8) rfl ?_
            refine B_loc (l' := [wr T, wi c, wi 1, wi 1, wi (vi σ T i c), wi (i + 1), wx, wx]) ⟨Or.inl rfl, Or.inl rfl, Or.inl rfl, Or.inl rfl, Or.inl rfl, Or.inl rfl, Or.inr rfl, Or.inr rfl, trivial⟩ ?_
            have hff : fil σ T i c := hfi.mp (by omega)
            refine ih _ _ _ (by omega) (by omega) (by omega) (Or.inr ⟨rfl, ?_, fun e => absurd hff (e i (by omega) (by omega))⟩) (by omega)
            exact hib_s (x := x) (y := vi σ T i c) (by
              rcases h4 with h4 | h4
              · exact Or.inr h4.2.2
              · exact Or.inl ⟨h4.2.1, by omega⟩) (by omega)
          · refine B_iload rfl my_64 rfl ?_
            refine B_if_eq rfl my_64 rfl (tgt := 83) (nx := 78) rfl rfl (fun c9 => absurd c9 (by decide)) (fun _ => ?_)
            show Bt E 64 78 [wr T, wi c, wi 1, wi a, wi x, wi i, wi (vi σ T i c), wi 1] [] σ _
            refine B_iload rfl my_64 rfl ?_
            refine B_goto rfl my_64 rfl (tgt := 85) rfl ?_
            refine B_istore rfl my_64 (by decide) rfl (show _ = [wr T, wi c, wi 1, wi a, wi (vi σ T i c), wi i, wi (vi σ T i c), wi 1] from rfl) ?_
            refine B_iconst rfl my_64 (by decide) ?_
            refine B_istoren rfl my_64 (by decide) rfl (show _ = [wr T, wi c, wi 1, wi 1, wi (vi σ T i c), wi i, wi (vi σ T i c), wi 1] from rfl) ?_
            refine B_iinc rfl my_64 (by decide) rfl rfl rfl (by omega) (by omega) (show _ = [wr T, wi c, wi 1, wi 1, wi (vi σ T i c), wi (i + 1), wi (vi σ T i c), wi 1] from rfl) ?_
            refine B_goto rfl my_64 rfl (tgt := 8) rfl ?_
            refine B_loc (l' := [wr T, wi c, wi 1, wi 1, wi (vi σ T i c), wi (i + 1), wx, wx]) ⟨Or.inl rfl, Or.inl rfl, Or.inl rfl, Or.inl rfl, Or.inl rfl, Or.inl rfl, Or.inr rfl, Or.inr rfl, trivial⟩ ?_
            have hff : fil σ T i c := hfi.mp (by omega)
            refine ih _ _ _ (by omega) (by omega) (by omega) (Or.inr ⟨rfl, ?_, fun e => absurd hff (e i (by omega) (by omega))⟩) (by omega)
            exact hib_s (x := x) (y := vi σ T i c) (by
              rcases h4 with h4 | h4
              · exact Or.inr h4.2.2
              · exact Or.inl ⟨h4.2.1, by omega⟩) (by omega)
theorem g_extreme1 {E : mE} {σ : wSt} {T : Nat} (hE : wE E) (hT : Tb T) (hS : SIt T σ) {c : Int} (hc1 : 0 ≤ c) (hc2 : c < min (gv σ (T + 1) 12) 20) : Fn E 64 [wr T, wi c, wi 1] σ (fun vo t => ∃ x, vo = some (wi x) ∧ (HiB σ T c (gv σ T 11) x ∧ (NFl σ T c (gv σ T 11) → x = 0)) ∧ σ = t) := by
  refine Fn.of (nL := 8) ?_
  show Bt E 64 0 [wr T, wi c, wi 1, wx, wx, wx, wx, wx] [] σ _
  refine B_rng 1 rfl (fun ha1 => ?_)
  refine B_rng 2 rfl (fun ha2 => ?_)
  refine B_iconst rfl my_64 (by decide) ?_
  refine B_istoren rfl my_64 (by decide) rfl (show _ = [wr T, wi c, wi 1, wi 0, wx, wx, wx, wx] from rfl) ?_
  refine B_iconst rfl my_64 (by decide) ?_
  refine B_istore rfl my_64 (by decide) rfl (show _ = [wr T, wi c, wi 1, wi 0, wi 0, wx, wx, wx] from rfl) ?_
  refine B_iconst rfl my_64 (by decide) ?_
  refine B_istore rfl my_64 (by decide) rfl (show _ = [wr T, wi c, wi 1, wi 0, wi 0, wi 0, wx, wx] from rfl) ?_
  exact l_extreme1 hE hT hS hc1 hc2 _ 0 0 0 (Or.inl rfl) (by omega) hS.2.2.2.2.2.2.1 (Or.inl ⟨rfl, rfl, fun q q1 q2 => by omega⟩) (Nat.le_refl _)
theorem fb_bmod64 {z : Int} (h1 : -9223372036854775808 ≤ z) (h2 : z < 9223372036854775808) : z.bmod (2 ^ 64) = z := by
  rw [Int.bmod_eq_of_le (by omega) (by omega)]
theorem wla_eq {a b : Int} (h1 : -9223372036854775808 ≤ a) (h2 : a < 9223372036854775808) (h3 : -9223372036854775808 ≤ b) (h4 : b < 9223372036854775808) (h5 : -9223372036854775808 ≤ a + b) (h6 : a + b < 9223372036854775808) : wla a b = a + b := by
  unfold wla
  rw [Int64.toInt_add, Int64.toInt_ofInt, Int64.toInt_ofInt, fb_bmod64 h1 h2, fb_bmod64 h3 h4, fb_bmod64 h5 h6]
theorem l_total {E : mE} {σ : wSt} {T : Nat} (hE : wE E) (hT : Tb T) (hS : SIt T σ) {c : Int} (hc1 : 0 ≤ c) (hc2 : c < min (gv σ (T + 1) 12) 20) : ∀ (k : Nat) (a i : Int), a = sv σ T c i.toNat → 0 ≤ i → i ≤ gv σ T 11 → -2147483648 * i ≤ a → a ≤ 2147483648 * i → (gv σ T 11 - i).toNat ≤ k → Bt E 65 5 [wr T, wi c, wl a, wx, wi i] [] σ (fun vo t => vo = some (wl (sv σ T c (gv σ T 11).toNat)) ∧ (-128849018880 ≤ sv σ T c (gv σ T 11).toNat ∧ sv σ T c (gv σ T 11).toNat ≤ 128849018880) ∧ σ = t) := by
  intro k
  induction k with
  | zero =>
    intro a i h1 h2 h3 h4 h5 hm
    have h60 := hS.hI.1
    have hkc := hS.2.2.2.2.2.2.2.1
    refine B_rng 1 rfl (fun ha1 => ?_)
    refine B_rng 4 rfl (fun ha4 => ?_)
    refine B_iload rfl my_65 rfl ?_
    refine B_aloadn rfl my_65 rfl ?_
    refine B_int hE.1 rfl my_65 rfl (wn_0_11 hT) hS.2.2.2.2.2.1 (fun r1 => ?_)
    refine B_ic_ge rfl my_65 rfl (tgt := 31) (nx := 14) rfl rfl (fun c2 => ?_) (fun c2 => ?_)
    · refine B_lloadn rfl my_65 rfl ?_
      refine B_lret rfl my_65 rfl ?_
      rw [h1, show i.toNat = (gv σ T 11).toNat by omega] at *
      exact ⟨rfl, by omega, rfl⟩
    · exact absurd hm (by omega)
  | succ k ih =>
    intro a i h1 h2 h3 h4 h5 hm
    have h60 := hS.hI.1
    have hkc := hS.2.2.2.2.2.2.2.1
    refine B_rng 1 rfl (fun ha1 => ?_)
    refine B_rng 4 rfl (fun ha4 => ?_)
    refine B_iload rfl my_65 rfl ?_
    refine B_aloadn rfl my_65 rfl ?_
    refine B_int hE.1 rfl my_65 rfl (wn_0_11 hT) hS.2.2.2.2.2.1 (fun r1 => ?_)
    refine B_ic_ge rfl my_65 rfl (tgt := 31) (nx := 14) rfl rfl (fun c2 => ?_) (fun c2 => ?_)
    · refine B_lloadn rfl my_65 rfl ?_
      refine B_lret rfl my_65 rfl ?_
      rw [h1, show i.toNat = (gv σ T 11).toNat by omega] at *
      exact ⟨rfl, by omega, rfl⟩
    · refine B_lloadn rfl my_65 rfl ?_
      refine B_aloadn rfl my_65 rfl ?_
      refine B_iload rfl my_65 rfl ?_
      refine B_iloadn rfl my_65 rfl ?_
      refine B_cV hE.1 rfl (wc_0 hT) cw_65_62 (as := [wi i, wi c]) (rest := [wl a]) rfl (Nat.le_of_ble_eq_true rfl) (g_valueIn hE hT hS (by omega) (by omega) hc1 hc2) (fun vo s9 hq => ?_)
      obtain ⟨rfl, rfl⟩ := hq
      show Bt E 65 22 [wr T, wi c, wl a, wx, wi i] [wi (vi σ T i c), wl a] σ _
      refine B_top (fun r3 => ?_)
      refine B_i2l rfl my_65 ?_
      refine B_ladd rfl my_65 ?_
      refine B_lstoren rfl my_65 (by decide) rfl (show _ = [wr T, wi c, wl (wla a (vi σ T i c)), wx, wi i] from rfl) ?_
      refine B_iinc rfl my_65 (by decide) rfl rfl rfl (by omega) (by omega) (show _ = [wr T, wi c, wl (wla a (vi σ T i c)), wx, wi (i + 1)] from rfl) ?_
      refine B_goto rfl my_65 rfl (tgt := 5) rfl ?_
      refine ih _ _ ?_ (by omega) (by omega) ?_ ?_ (by omega)
      · rw [wla_eq (by omega) (by omega) (by omega) (by omega) (by omega) (by omega), show (i + 1).toNat = i.toNat + 1 by omega, h1]
        show _ = sv σ T c i.toNat + vi σ T (i.toNat : Int) c
        rw [show ((i.toNat : Nat) : Int) = i by omega]
      · rw [wla_eq (by omega) (by omega) (by omega) (by omega) (by omega) (by omega)]
        omega
      · rw [wla_eq (by omega) (by omega) (by omega) (by omega) (by omega) (by omega)]
        omega
theorem g_total {E : mE} {σ : wSt} {T : Nat} (hE : wE E) (hT : Tb T) (hS : SIt T σ) {c : Int} (hc1 : 0 ≤ c) (hc2 : c < min (gv σ (T + 1) 12) 20) : Fn E 65 [wr T, wi c] σ (fun vo t => vo = some (wl (sv σ T c (gv σ T 11).toNat)) ∧ (-128849018880 ≤ sv σ T c (gv σ T 11).toNat ∧ sv σ T c (gv σ T 11).toNat ≤ 128849018880) ∧ σ = t) := by
  refine Fn.of (nL := 5) ?_
  show Bt E 65 0 [wr T, wi c, wx, wx, wx] [] σ _
  refine B_rng 1 rfl (fun ha1 => ?_)
  refine B_lconst rfl my_65 (n := 0) rfl ?_
  refine B_lstoren rfl my_65 (by decide) rfl (show _ = [wr T, wi c, wl 0, wx, wx] from rfl) ?_
  refine B_iconst rfl my_65 (by decide) ?_
  refine B_istore rfl my_65 (by decide) rfl (show _ = [wr T, wi c, wl 0, wx, wi 0] from rfl) ?_
  exact l_total hE hT hS hc1 hc2 _ 0 0 rfl (by omega) hS.2.2.2.2.2.2.1 (by omega) (by omega) (Nat.le_refl _)
theorem cfl_rng {σ : wSt} {T : Nat} {c : Int} : ∀ n : Nat, 0 ≤ cfl σ T c n ∧ cfl σ T c n ≤ n := by
  intro n
  induction n with
  | zero => exact ⟨Int.le_refl _, Int.le_refl _⟩
  | succ n ih =>
    unfold cfl
    split
    · omega
    · omega
theorem l_filled {E : mE} {σ : wSt} {T : Nat} (hE : wE E) (hT : Tb T) (hS : SIt T σ) {c : Int} : ∀ (k : Nat) (a i : Int), a = cfl σ T c i.toNat → 0 ≤ i → i ≤ gv σ T 11 → (gv σ T 11 - i).toNat ≤ k → Bt E 66 4 [wr T, wi c, wi a, wi i] [] σ (fun vo t => vo = some (wi (cfl σ T c (gv σ T 11).toNat)) ∧ σ = t) := by
  intro k
  induction k with
  | zero =>
    intro a i h1 h2 h3 hm
    have h60 := hS.hI.1
    have hkc := hS.2.2.2.2.2.2.2.1
    have hb := cfl_rng (σ := σ) (T := T) (c := c) i.toNat
    refine B_rng 1 rfl (fun ha1 => ?_)
    refine B_rng 2 rfl (fun ha2 => ?_)
    refine B_rng 3 rfl (fun ha3 => ?_)
    refine B_iloadn rfl my_66 rfl ?_
    refine B_aloadn rfl my_66 rfl ?_
    refine B_int hE.1 rfl my_66 rfl (wn_0_11 hT) hS.2.2.2.2.2.1 (fun r1 => ?_)
    refine B_ic_ge rfl my_66 rfl (tgt := 35) (nx := 12) rfl rfl (fun c2 => ?_) (fun c2 => ?_)
    · refine B_iloadn rfl my_66 rfl ?_
      refine B_iret rfl my_66 rfl ?_
      rw [h1, show i.toNat = (gv σ T 11).toNat by omega]
      exact ⟨rfl, rfl⟩
    · exact absurd hm (by omega)
  | succ k ih =>
    intro a i h1 h2 h3 hm
    have h60 := hS.hI.1
    have hkc := hS.2.2.2.2.2.2.2.1
    have hb := cfl_rng (σ := σ) (T := T) (c := c) i.toNat
    refine B_rng 1 rfl (fun ha1 => ?_)
    refine B_rng 2 rfl (fun ha2 => ?_)
    refine B_rng 3 rfl (fun ha3 => ?_)
    refine B_iloadn rfl my_66 rfl ?_
    refine B_aloadn rfl my_66 rfl ?_
    refine B_int hE.1 rfl my_66 rfl (wn_0_11 hT) hS.2.2.2.2.2.1 (fun r1 => ?_)
    refine B_ic_ge rfl my_66 rfl (tgt := 35) (nx := 12) rfl rfl (fun c2 => ?_) (fun c2 => ?_)
    · refine B_iloadn rfl my_66 rfl ?_
      refine B_iret rfl my_66 rfl ?_
      rw [h1, show i.toNat = (gv σ T 11).toNat by omega]
      exact ⟨rfl, rfl⟩
    · refine B_iloadn rfl my_66 rfl ?_
      refine B_aloadn rfl my_66 rfl ?_
      refine B_iloadn rfl my_66 rfl ?_
      refine B_iloadn rfl my_66 rfl ?_
      refine B_cV hE.1 rfl (wc_0 hT) cw_66_63 (as := [wi i, wi c]) (rest := [wi a]) rfl (Nat.le_of_ble_eq_true rfl) (g_isFilledIn hE hT hS (by omega) (by omega)) (fun vo s9 hq => ?_)
      obtain ⟨x3, rfl, ⟨hz4, hfi⟩, rfl⟩ := hq
      show Bt E 66 19 [wr T, wi c, wi a, wi i] [wi x3, wi a] σ _
      refine B_top (fun r5 => ?_)
      refine B_if_eq rfl my_66 rfl (tgt := 26) (nx := 22) rfl rfl (fun c6 => ?_) (fun c6 => ?_)
      · refine B_iconst rfl my_66 (by decide) ?_
        refine B_iadd rfl my_66 (by omega) (by omega) ?_
        refine B_istoren rfl my_66 (by decide) rfl (show _ = [wr T, wi c, wi (a + 0), wi i] from rfl) ?_
        refine B_iinc rfl my_66 (by decide) rfl rfl rfl (by omega) (by omega) (show _ = [wr T, wi c, wi (a + 0), wi (i + 1)] from rfl) ?_
        refine B_goto rfl my_66 rfl (tgt := 4) rfl ?_
        refine ih _ _ ?_ (by omega) (by omega) (by omega)
        rw [show (i + 1).toNat = i.toNat + 1 by omega]
        show _ = cfl σ T c i.toNat + (if rd σ (T + 25) 501 (ca σ T (rd σ (T + 23) 60 ((i.toNat : Nat) : Int)) c) ≠ 0 then 1 else 0)
        rw [show ((i.toNat : Nat) : Int) = i by omega, h1]
        rw [if_neg (fun e => by have := hfi.mpr e; omega)]
      · refine B_iconst rfl my_66 (by decide) ?_
        refine B_goto rfl my_66 rfl (tgt := 27) rfl ?_
        refine B_iadd rfl my_66 (by omega) (by omega) ?_
        refine B_istoren rfl my_66 (by decide) rfl (show _ = [wr T, wi c, wi (a + 1), wi i] from rfl) ?_
        refine B_iinc rfl my_66 (by decide) rfl rfl rfl (by omega) (by omega) (show _ = [wr T, wi c, wi (a + 1), wi (i + 1)] from rfl) ?_
        refine B_goto rfl my_66 rfl (tgt := 4) rfl ?_
        refine ih _ _ ?_ (by omega) (by omega) (by omega)
        rw [show (i + 1).toNat = i.toNat + 1 by omega]
        show _ = cfl σ T c i.toNat + (if rd σ (T + 25) 501 (ca σ T (rd σ (T + 23) 60 ((i.toNat : Nat) : Int)) c) ≠ 0 then 1 else 0)
        rw [show ((i.toNat : Nat) : Int) = i by omega, h1]
        rw [if_pos (show rd σ (T + 25) 501 (ca σ T (rd σ (T + 23) 60 i) c) ≠ 0 from hfi.mp (by omega))]
theorem g_filledInKept {E : mE} {σ : wSt} {T : Nat} (hE : wE E) (hT : Tb T) (hS : SIt T σ) {c : Int} : Gv E 66 [wr T, wi c] σ (wi (cfl σ T c (gv σ T 11).toNat)) := by
  refine Fn.of (nL := 4) ?_
  show Bt E 66 0 [wr T, wi c, wx, wx] [] σ _
  refine B_rng 1 rfl (fun ha1 => ?_)
  refine B_iconst rfl my_66 (by decide) ?_
  refine B_istoren rfl my_66 (by decide) rfl (show _ = [wr T, wi c, wi 0, wx] from rfl) ?_
  refine B_iconst rfl my_66 (by decide) ?_
  refine B_istoren rfl my_66 (by decide) rfl (show _ = [wr T, wi c, wi 0, wi 0] from rfl) ?_
  exact l_filled hE hT hS _ 0 0 rfl (by omega) hS.2.2.2.2.2.2.1 (Nat.le_refl _)
theorem l_placeOf {E : mE} {σ : wSt} {T : Nat} (hE : wE E) (hT : Tb T) (hS : SIt T σ) {c : Int} (hc1 : 0 ≤ c) (hc2 : c < min (gv σ (T + 1) 12) 20) {v : Int} : ∀ (k : Nat) (i : Int), 0 ≤ i → i ≤ gv σ T 11 → (∀ q, 0 ≤ q → q < i → fil σ T q c → vi σ T q c ≠ v) → (gv σ T 11 - i).toNat ≤ k → Bt E 67 2 [wr T, wi c, wi v, wi i] [] σ (fun vo t => ∃ x, vo = some (wi x) ∧ FdQ σ T c (gv σ T 11) v x ∧ σ = t) := by
  intro k
  induction k with
  | zero =>
    intro i h1 h2 h3 hm
    have h60 := hS.hI.1
    have hkc := hS.2.2.2.2.2.2.2.1
    refine B_rng 1 rfl (fun ha1 => ?_)
    refine B_rng 2 rfl (fun ha2 => ?_)
    refine B_rng 3 rfl (fun ha3 => ?_)
    refine B_iloadn rfl my_67 rfl ?_
    refine B_aloadn rfl my_67 rfl ?_
    refine B_int hE.1 rfl my_67 rfl (wn_0_11 hT) hS.2.2.2.2.2.1 (fun r1 => ?_)
    refine B_ic_ge rfl my_67 rfl (tgt := 37) (nx := 10) rfl rfl (fun c2 => ?_) (fun c2 => ?_)
    · refine B_iconst rfl my_67 (by decide) ?_
      refine B_iret rfl my_67 rfl ?_
      exact ⟨_, rfl, fun q q1 q2 q3 q4 => absurd q4 (h3 q q1 (by omega) q3), rfl⟩
    · exact absurd hm (by omega)
  | succ k ih =>
    intro i h1 h2 h3 hm
    have h60 := hS.hI.1
    have hkc := hS.2.2.2.2.2.2.2.1
    refine B_rng 1 rfl (fun ha1 => ?_)
    refine B_rng 2 rfl (fun ha2 => ?_)
    refine B_rng 3 rfl (fun ha3 => ?_)
    refine B_iloadn rfl my_67 rfl ?_
    refine B_aloadn rfl my_67 rfl ?_
    refine B_int hE.1 rfl my_67 rfl (wn_0_11 hT) hS.2.2.2.2.2.1 (fun r1 => ?_)
    refine B_ic_ge rfl my_67 rfl (tgt := 37) (nx := 10) rfl rfl (fun c2 => ?_) (fun c2 => ?_)
    · refine B_iconst rfl my_67 (by decide) ?_
      refine B_iret rfl my_67 rfl ?_
      exact ⟨_, rfl, fun q q1 q2 q3 q4 => absurd q4 (h3 q q1 (by omega) q3), rfl⟩
    · refine B_aloadn rfl my_67 rfl ?_
      refine B_iloadn rfl my_67 rfl ?_
      refine B_iloadn rfl my_67 rfl ?_
      refine B_cV hE.1 rfl (wc_0 hT) cw_67_63 (as := [wi i, wi c]) (rest := []) rfl (Nat.le_of_ble_eq_true rfl) (g_isFilledIn hE hT hS (by omega) (by omega)) (fun vo s9 hq => ?_)
      obtain ⟨x3, rfl, ⟨hz4, hfi⟩, rfl⟩ := hq
      show Bt E 67 16 [wr T, wi c, wi v, wi i] [wi x3] σ _
      refine B_top (fun r5 => ?_)
      refine B_if_eq rfl my_67 rfl (tgt := 31) (nx := 19) rfl rfl (fun c6 => ?_) (fun c6 => ?_)
      · refine B_iinc rfl my_67 (by decide) rfl rfl rfl (by omega) (by omega) (show _ = [wr T, wi c, wi v, wi (i + 1)] from rfl) ?_
        refine B_goto rfl my_67 rfl (tgt := 2) rfl ?_
        refine ih _ (by omega) (by omega) (fdq_s h3 (fun e => ?_)) (by omega)
        have := hfi.mpr e
        omega
      · refine B_aloadn rfl my_67 rfl ?_
        refine B_iloadn rfl my_67 rfl ?_
        refine B_iloadn rfl my_67 rfl ?_
        refine B_cV hE.1 rfl (wc_0 hT) cw_67_62 (as := [wi i, wi c]) (rest := []) rfl (Nat.le_of_ble_eq_true rfl) (g_valueIn hE hT hS (by omega) (by omega) hc1 hc2) (fun vo s9 hq => ?_)
        obtain ⟨rfl, rfl⟩ := hq
        show Bt E 67 25 [wr T, wi c, wi v, wi i] [wi (vi σ T i c)] σ _
        refine B_top (fun r7 => ?_)
        refine B_iloadn rfl my_67 rfl ?_
        refine B_ic_ne rfl my_67 rfl (tgt := 31) (nx := 29) rfl rfl (fun c8 => ?_) (fun c8 => ?_)
        · refine B_iinc rfl my_67 (by decide) rfl rfl rfl (by omega) (by omega) (show _ = [wr T, wi c, wi v, wi (i + 1)] from rfl) ?_
          refine B_goto rfl my_67 rfl (tgt := 2) rfl ?_
          refine ih _ (by omega) (by omega) (fdq_s h3 (fun e => ?_)) (by omega)
          have := hfi.mpr e
          omega
        · refine B_iloadn rfl my_67 rfl ?_
          refine B_iret rfl my_67 rfl ?_
          refine ⟨_, rfl, fun q q1 q2 q3 q4 => ⟨h1, ?_⟩, rfl⟩
          by_cases e : q < i
          · exact absurd q4 (h3 q q1 e q3)
          · omega
theorem g_placeOf {E : mE} {σ : wSt} {T : Nat} (hE : wE E) (hT : Tb T) (hS : SIt T σ) {c : Int} (hc1 : 0 ≤ c) (hc2 : c < min (gv σ (T + 1) 12) 20) {v : Int} : Ev E 67 [wr T, wi c, wi v] σ (fun x => FdQ σ T c (gv σ T 11) v x) := by
  refine Fn.of (nL := 4) ?_
  show Bt E 67 0 [wr T, wi c, wi v, wx] [] σ _
  refine B_rng 1 rfl (fun ha1 => ?_)
  refine B_rng 2 rfl (fun ha2 => ?_)
  refine B_iconst rfl my_67 (by decide) ?_
  refine B_istoren rfl my_67 (by decide) rfl (show _ = [wr T, wi c, wi v, wi 0] from rfl) ?_
  exact l_placeOf hE hT hS hc1 hc2 _ 0 (by omega) hS.2.2.2.2.2.2.1 (fun q q1 q2 => by omega) (Nat.le_refl _)
