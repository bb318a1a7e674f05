/-! ===== the first checksum, the second ===== -/
theorem cw_100_108 : wcV 100 0 108 6 0 0 = true := by decide +kernel
theorem cw_100_109 : wcV 100 0 109 6 1 1 = true := by decide +kernel
def PFd (σ : wSt) : Prop := gv σ 11 8 = 0 ∧ gv σ 46 8 = 1 ∧ gv σ 81 8 = 2 ∧ gv σ 116 8 = 3
/-- the parters of the tables -/
def PKd (σ : wSt) : Prop := (∀ U, Tb U → kn σ U 8) ∧ PFd σ
/-- what was told is known -/
def TKn (σ : wSt) : Prop := (∀ i, kr σ 7 3 i) ∧ (-1 ≤ rd σ 7 3 0 ∧ rd σ 7 3 0 ≤ 3) ∧ (-1 ≤ rd σ 7 3 2 ∧ rd σ 7 3 2 ≤ 1) ∧ kn σ 6 2 ∧ ∀ c, kr σ 9 20 c
/-- the text is read, tables are settled or not -/
def QBs (σ : wSt) : Prop := (kn σ 2 6 ∧ gv σ 2 6 = 1) ∧ (∀ U, Tb U → KRd U σ ∧ RI U σ) ∧ TKn σ ∧ (∀ U, Tb U → kn σ U 12 ∧ (gv σ U 12 = 0 ∨ gv σ U 12 = 1) ∧ (gv σ U 12 = 1 → kn σ U 11)) ∧ kn σ 3 1 ∧ PKd σ
theorem pk_off {σ s : wSt} (h : PKd σ) (ho : ∀ U, Tb U → s U 8 = σ U 8) : PKd s := by
  have g : ∀ U, Tb U → gv s U 8 = gv σ U 8 := fun U hU => by
    unfold gv
    rw [ho U hU]
  refine ⟨fun U hU => ?_, ?_⟩
  · unfold kn
    rw [ho U hU]
    exact h.1 U hU
  · unfold PFd
    rw [g 11 tb11, g 46 tb46, g 81 tb81, g 116 tb116]
    exact h.2
theorem tkn_off {σ s : wSt} {R : Nat → Prop} (h : TKn σ) (ho : Off R σ s) (h8 : ¬ R 8) (h6 : ¬ R 6) (h10 : ¬ R 10) : TKn s := by
  obtain ⟨h1, h2, h3, h4, h5⟩ := h
  refine ⟨fun i => off_kr ho h8 (h1 i), ?_, ?_, (off_kn ho h6).mpr h4, fun c => off_kr ho h10 (h5 c)⟩
  · rw [off_rd ho h8]; exact h2
  · rw [off_rd ho h8]; exact h3
theorem pts_off {σ s : wSt} {U : Nat} {R : Nat → Prop} (ho : Off R σ s) (h : ¬ R (U + 1)) : pts s U = pts σ U := by
  unfold pts
  rw [off_gv ho h, off_gv ho h, off_gv ho h]
theorem gp_off {σ s : wSt} {R : Nat → Prop} (ho : Off R σ s) (h : ∀ U, Tb U → ¬ R (U + 1)) : gp s = gp σ := by
  unfold gp
  rw [pts_off ho (h 11 tb11), pts_off ho (h 46 tb46), pts_off ho (h 81 tb81), pts_off ho (h 116 tb116)]
theorem pn_off {σ s : wSt} {R : Nat → Prop} (ho : Off R σ s) (h : ∀ U, Tb U → ¬ R (U + 1)) (h8 : ¬ R 8) : pn s = pn σ := by
  unfold pn
  rw [gp_off ho h, off_rd ho h8]
def SWq (E : mE) (U : Nat) (σ t : wSt) : Prop := (gv σ U 12 = 1 ∧ σ = t) ∨ (gv σ U 12 = 0 ∧ SIt U t ∧ SFr U σ t ∧ KCd E U σ (gv t U 11))
def WBs (E : mE) (T : Nat) (t : wSt) : Prop := QBs t ∧ T = tof (pn t) ∧ SIt T t ∧ (kn t T 8 ∧ gv t T 8 = pn t) ∧ KCd E T t (gv t T 11)
theorem WBs.nw {E : mE} {T : Nat} {t : wSt} (h : WBs E T t) : NWd t T := ⟨h.1.1, h.1.2.1, ⟨h.1.2.2.1.1 0, h.1.2.2.1.2.1.1, h.1.2.2.1.2.1.2⟩, h.2.1, h.2.2.1, h.2.2.2.1⟩
/-- settling one table -/
theorem qb_set {σ t : wSt} {U : Nat} (hU : Tb U) (h : QBs σ) (hs : SIt U t) (ho : SFr U σ t) : QBs t := by
  obtain ⟨⟨a1, a2⟩, a3, a4, a5, a6⟩ := h
  have o := ho.1
  refine ⟨⟨(off_kn o (by omega)).mpr a1, by rw [off_gv o (by omega)]; exact a2⟩, fun V hV => ?_, tkn_off a4 o (by omega) (by omega) (by omega), fun V hV => ?_, (off_kn o (by omega)).mpr a6.1, pk_off a6.2 (fun V hV => ?_)⟩
  · by_cases e : V = U
    · subst e
      exact hs.1
    · exact ⟨krd_off (a3 V hV).1 o (fun a e1 e2 e3 => by omega), ri_off (a3 V hV).2 o (fun a e1 e2 e3 => by omega)⟩
  · by_cases e : V = U
    · subst e
      exact ⟨hs.2.1.1.2.2, Or.inr hs.2.1.2.1, fun _ => hs.2.2.2.2.2.1⟩
    · obtain ⟨b1, b2, b3⟩ := a5 V hV
      have n : ¬ RSt U V := by omega
      rw [off_gv o n]
      exact ⟨(off_kn o n).mpr b1, b2, fun g => (off_kn o n).mpr (b3 g)⟩
  · by_cases e : V = U
    · subst e
      exact ho.2
    · exact o V (by omega) 8
theorem ks_set {σ t : wSt} {T U : Nat} (hT : Tb T) (hU : Tb U) (o : Off (RSt U) σ t) : KSt T t = KSt T σ := ks_eq o (fun a e1 e2 e3 => by omega) (by omega) (by omega) (fun b _ => o 8 (by omega) b)
theorem dg0_off {σ s : wSt} {T : Nat} {R : Nat → Prop} {q : Int} (ho : Off R σ s) (h : ∀ U, Tb U → ¬ R (U + 1)) (h3 : ¬ R 3) (hT : Tb T) (hr : ∀ a, T ≤ a → a ≤ T + 33 → ¬ R a) : dg0 s T q = dg0 σ T q := by
  have e : ∀ a b, T ≤ a → a ≤ T + 33 → gv s a b = gv σ a b := fun a b x1 x2 => off_gv ho (hr a x1 x2)
  unfold dg0
  rw [pts_off ho (h 11 tb11), pts_off ho (h 46 tb46), pts_off ho (h 81 tb81), pts_off ho (h 116 tb116), off_gv ho h3, e T 8 (by omega) (by omega), e T 9 (by omega) (by omega), e T 10 (by omega) (by omega), e T 11 (by omega) (by omega), e (T + 1) 9 (by omega) (by omega), e (T + 1) 12 (by omega) (by omega), e (T + 16) 3 (by omega) (by omega)]
/-- what a step of settledWith leaves -/
def StpQ (E : mE) (T U : Nat) (d : Int) (s t : wSt) : Prop := WBs E T t ∧ D1g E T t d ∧ (∀ V, Tb V → V ≠ U → gv t V 11 = gv s V 11 ∧ gv t V 12 = gv s V 12) ∧ gv t U 12 = 1 ∧ kn t U 11
theorem sw_step {E : mE} {T U : Nat} {s t : wSt} {d : Int} (hT : Tb T) (hU : Tb U) (h : WBs E T s) (hd : D1g E T s d) (hw : SWq E U s t) : StpQ E T U d s t := by
  rcases hw with ⟨g1, rfl⟩ | ⟨g1, g2, g3, g4⟩
  · exact ⟨h, hd, fun V _ _ => ⟨rfl, rfl⟩, g1, (h.1.2.2.2.1 U hU).2.2 g1⟩
  · have ne : T ≠ U := fun e => by
      subst e
      have := h.2.2.1.2.1.2.1
      omega
    have o := g3.1
    have hr : ∀ a, T ≤ a → a ≤ T + 33 → ¬ RSt U a := fun a a1 a2 e => by omega
    have hp : ∀ V, Tb V → ¬ RSt U (V + 1) := fun V hV e => by omega
    have epn := pn_off o hp (by omega)
    obtain ⟨q, r1, r2, b1, b2, b3, b4⟩ := hd
    have er : RSr T t = RSr T s := rsr_eq o hr
    refine ⟨⟨qb_set hU h.1 g2 g3, by rw [epn]; exact h.2.1, sit_off h.2.2.1 o hr, ⟨(off_kn o (hr T (by omega) (by omega))).mpr h.2.2.2.1.1, by rw [off_gv o (hr T (by omega) (by omega)), epn]; exact h.2.2.2.1.2⟩, ?_⟩, ⟨q, r1, r2, by rw [er]; exact b1, by rw [er, dg0_off o hp (by omega) hT hr]; exact b2, by rw [er]; exact b3, by rw [er]; exact b4⟩, fun V hV hn => ?_, g2.2.1.2.1, g2.2.2.2.2.2.1⟩
    · obtain ⟨s9, k1, k2, k3⟩ := h.2.2.2.2
      refine ⟨s9, ?_, k2, ?_⟩
      · rw [ks_set hT hU o]; exact k1
      · rw [off_gv o (hr T (by omega) (by omega))]; exact k3
    · have n : ¬ RSt U V := by omega
      exact ⟨off_gv o n, off_gv o n⟩
/-- the tallies forgotten -/
abbrev Rty (a : Nat) : Prop := a = 45 ∨ a = 80 ∨ a = 115 ∨ a = 150
def NTa (σ : wSt) : wSt := fun a b => if Rty a then none else σ a b
theorem nta_off {σ : wSt} : Off Rty σ (NTa σ) := fun a ha b => if_neg ha
theorem nta_sub {σ : wSt} : Sub (NTa σ) σ := fun a b h => by
  by_cases g : Rty a
  · unfold kn NTa at h
    rw [if_pos g] at h
    cases h
  · unfold kn NTa at h
    unfold kn gv NTa
    rw [if_neg g] at h ⊢
    exact ⟨h, rfl⟩
theorem nta_nty {σ : wSt} {T : Nat} (hT : Tb T) : NTy T (NTa σ) := fun b h => by
  have g : Rty (T + 34) := by
    rcases hT with rfl | rfl | rfl | rfl
    · exact Or.inl rfl
    · exact Or.inr (Or.inl rfl)
    · exact Or.inr (Or.inr (Or.inl rfl))
    · exact Or.inr (Or.inr (Or.inr rfl))
  unfold kn NTa at h
  rw [if_pos g] at h
  cases h
theorem wb_nta {E : mE} {T : Nat} {t : wSt} (hT : Tb T) (h : WBs E T t) : WBs E T (NTa t) := by
  have o := nta_off (σ := t)
  have hr : ∀ U, Tb U → ∀ a, U ≤ a → a ≤ U + 33 → ¬ Rty a := fun U hU a a1 a2 e => by omega
  have hp : ∀ V, Tb V → ¬ Rty (V + 1) := fun V hV e => by omega
  have epn := pn_off o hp (by omega)
  obtain ⟨⟨⟨a1, a2⟩, a3, a4, a5, a6⟩, b1, b2, b3, s9, k1, k2, k3⟩ := h
  refine ⟨⟨⟨(off_kn o (by omega)).mpr a1, by rw [off_gv o (by omega)]; exact a2⟩, fun V hV => ⟨krd_off (a3 V hV).1 o (fun a e1 e2 => hr V hV a (by omega) (by omega)), ri_off (a3 V hV).2 o (fun a e1 e2 => hr V hV a (by omega) (by omega))⟩, tkn_off a4 o (by omega) (by omega) (by omega), fun V hV => ?_, (off_kn o (by omega)).mpr a6.1, pk_off a6.2 (fun V hV => o V (hr V hV V (by omega) (by omega)) 8)⟩, by rw [epn]; exact b1, sit_off b2 o (hr T hT), ⟨(off_kn o (hr T hT T (by omega) (by omega))).mpr b3.1, by rw [off_gv o (hr T hT T (by omega) (by omega)), epn]; exact b3.2⟩, s9, ?_, k2, ?_⟩
  · obtain ⟨c1, c2, c3⟩ := a5 V hV
    have n : ¬ Rty V := hr V hV V (by omega) (by omega)
    rw [off_gv o n]
    exact ⟨(off_kn o n).mpr c1, c2, fun g => (off_kn o n).mpr (c3 g)⟩
  · rw [ks_eq o (fun a e1 e2 => hr T hT a (by omega) (by omega)) (by omega) (by omega) (fun b _ => o 8 (by omega) b)]
    exact k1
  · rw [off_gv o (hr T hT T (by omega) (by omega))]; exact k3
theorem d1g_nta {E : mE} {T : Nat} {t : wSt} {d : Int} (hT : Tb T) (h : D1g E T t d) : D1g E T (NTa t) d := by
  have o := nta_off (σ := t)
  have hr : ∀ a, T ≤ a → a ≤ T + 33 → ¬ Rty a := fun a a1 a2 e => by omega
  obtain ⟨q, r1, r2, b1, b2, b3, b4⟩ := h
  have er : RSr T (NTa t) = RSr T t := rsr_eq o hr
  exact ⟨q, r1, r2, by rw [er]; exact b1, by rw [er, dg0_off o (fun V hV e => by omega) (by omega) hT hr]; exact b2, by rw [er]; exact b3, by rw [er]; exact b4⟩
def mix4 (d : Int) (t : wSt) : Int := mxd (mxd (mxd (mxd d (gv t 11 11)) (gv t 46 11)) (gv t 81 11)) (gv t 116 11)
theorem g_sw1 {E : mE} {σ : wSt} (hE : wE E) (hQ : kn σ 2 6 ∧ gv σ 2 6 = 1) {n : Int} (h1 : 0 ≤ n) (h2 : n ≤ 3) (hg : kn σ (tof n) 12 ∧ gv σ (tof n) 12 = 1) : Gv E 109 [wr 2, wi n] σ (wr (tof n)) := by
  refine Fn.of (nL := 3) ?_
  show Bt E 109 0 [wr 2, wi n, wx] [] σ _
  refine B_rng 1 rfl (fun ha1 => ?_)
  refine B_aloadn rfl my_109 rfl ?_
  refine B_cV hE.1 rfl rfl cw_109_111 (as := []) (rest := []) rfl (Nat.le_of_ble_eq_true rfl) (g_readText1 hE hQ.1 hQ.2) (fun vo s9 hq => ?_)
  obtain ⟨rfl, rfl⟩ := hq
  show Bt E 109 4 [wr 2, wi n, wx] [] σ _
  refine B_aloadn rfl my_109 rfl ?_
  refine B_iloadn rfl my_109 rfl ?_
  refine B_cV hE.1 rfl rfl cw_109_110 (as := [wi n]) (rest := []) rfl (Nat.le_of_ble_eq_true rfl) (g_tableWith hE h1 h2) (fun vo s9 hq => ?_)
  obtain ⟨rfl, rfl⟩ := hq
  obtain ⟨U, hU⟩ : ∃ U, U = tof n := ⟨_, rfl⟩
  rw [← hU] at hg ⊢
  have hUt : Tb U := by rw [hU]; exact tof_tb _
  show Bt E 109 9 [wr 2, wi n, wx] [wr U] σ _
  refine B_astoren rfl my_109 (by decide) rfl (show _ = [wr 2, wi n, wr U] from rfl) ?_
  refine B_aloadn rfl my_109 rfl ?_
  refine B_aloadn rfl my_109 rfl ?_
  refine B_ref hE.1 rfl my_109 rfl (r := 6) rfl ?_
  refine B_cV hE.1 rfl (wc_0 hUt) cw_109_40 (as := [wr 6]) (rest := []) rfl (Nat.le_of_ble_eq_true rfl) (g_settle1 hE hUt hg.1 hg.2) (fun vo s9 hq => ?_)
  obtain ⟨rfl, rfl⟩ := hq
  show Bt E 109 18 [wr 2, wi n, wr U] [] σ _
  refine B_aloadn rfl my_109 rfl ?_
  refine B_aret rfl my_109 rfl ?_
  exact ⟨rfl, rfl⟩
theorem g_sw0 {E : mE} {σ : wSt} (hE : wE E) (hQ : QBs σ) {n : Int} (h1 : 0 ≤ n) (h2 : n ≤ 3) (hg : gv σ (tof n) 12 = 0) : Fn E 109 [wr 2, wi n] σ (fun vo t => vo = some (wr (tof n)) ∧ SWq E (tof n) σ t) := by
  refine Fn.of (nL := 3) ?_
  show Bt E 109 0 [wr 2, wi n, wx] [] σ _
  refine B_rng 1 rfl (fun ha1 => ?_)
  refine B_aloadn rfl my_109 rfl ?_
  refine B_cV hE.1 rfl rfl cw_109_111 (as := []) (rest := []) rfl (Nat.le_of_ble_eq_true rfl) (g_readText1 hE hQ.1.1 hQ.1.2) (fun vo s9 hq => ?_)
  obtain ⟨rfl, rfl⟩ := hq
  show Bt E 109 4 [wr 2, wi n, wx] [] σ _
  refine B_aloadn rfl my_109 rfl ?_
  refine B_iloadn rfl my_109 rfl ?_
  refine B_cV hE.1 rfl rfl cw_109_110 (as := [wi n]) (rest := []) rfl (Nat.le_of_ble_eq_true rfl) (g_tableWith hE h1 h2) (fun vo s9 hq => ?_)
  obtain ⟨rfl, rfl⟩ := hq
  obtain ⟨U, hU⟩ : ∃ U, U = tof n := ⟨_, rfl⟩
  rw [← hU] at hg ⊢
  have hUt : Tb U := by rw [hU]; exact tof_tb _
  show Bt E 109 9 [wr 2, wi n, wx] [wr U] σ _
  refine B_astoren rfl my_109 (by decide) rfl (show _ = [wr 2, wi n, wr U] from rfl) ?_
  refine B_aloadn rfl my_109 rfl ?_
  refine B_aloadn rfl my_109 rfl ?_
  refine B_ref hE.1 rfl my_109 rfl (r := 6) rfl ?_
  refine B_cV hE.1 rfl (wc_0 hUt) cw_109_40 (as := [wr 6]) (rest := []) rfl (Nat.le_of_ble_eq_true rfl) (g_settle hE hUt (hQ.2.1 U hUt).1 (hQ.2.1 U hUt).2 (hQ.2.2.2.1 U hUt).1 hg (hQ.2.2.1.1 1) (hQ.2.2.1.1 2) hQ.2.2.1.2.2.1 hQ.2.2.1.2.2.2.1 hQ.2.2.1.2.2.2.2) (fun vo s1 hq => ?_)
  obtain ⟨rfl, si, sf, kc⟩ := hq
  show Bt E 109 18 [wr 2, wi n, wr U] [] s1 _
  refine B_aloadn rfl my_109 rfl ?_
  refine B_aret rfl my_109 rfl ?_
  exact ⟨rfl, Or.inr ⟨hg, si, sf, kc⟩⟩
theorem g_sw {E : mE} {σ : wSt} (hE : wE E) (hQ : QBs σ) {n : Int} (h1 : 0 ≤ n) (h2 : n ≤ 3) : Fn E 109 [wr 2, wi n] σ (fun vo t => vo = some (wr (tof n)) ∧ SWq E (tof n) σ t) := by
  have hb := hQ.2.2.2.1 (tof n) (tof_tb n)
  rcases hb.2.1 with g | g
  · exact g_sw0 hE hQ h1 h2 g
  · exact (g_sw1 hE hQ.1 h1 h2 ⟨hb.1, g⟩).mono (fun vo s hq => ⟨hq.1, Or.inl ⟨g, hq.2⟩⟩)
theorem t_dig2 {E : mE} {σ : wSt} {T : Nat} (hE : wE E) (hT : Tb T) {d : Int} (hB : WBs E T σ) (hD : D1g E T σ d) : Bt E 100 131 [wr 2, wr T, wl d, wx, wi 0] [] σ (fun vo t => ∃ d T, vo = some (wl (mix4 d t)) ∧ D1g E T t d ∧ WBs E T t ∧ (∀ U, Tb U → kn t U 12 ∧ gv t U 12 = 1 ∧ kn t U 11)) := by
  refine B_iload rfl my_100 rfl ?_
  refine B_iconst rfl my_100 (by decide) ?_
  refine B_ic_gt rfl my_100 rfl (tgt := 158) (nx := 137) rfl rfl (fun c9 => absurd c9 (by decide)) (fun _ => ?_)
  show Bt E 100 137 [wr 2, wr T, wl d, wx, wi 0] [] σ _
  refine B_lloadn rfl my_100 rfl ?_
  refine B_aloadn rfl my_100 rfl ?_
  refine B_iload rfl my_100 rfl ?_
  refine B_cV hE.1 rfl rfl cw_100_109 (as := [wi 0]) (rest := [wl d]) rfl (Nat.le_of_ble_eq_true rfl) (g_sw hE hB.1 (by decide) (by decide)) (fun vo s1 hq => ?_)
  obtain ⟨rfl, sw1⟩ := hq
  have st1 := sw_step hT tb11 hB hD sw1
  show Bt E 100 144 [wr 2, wr T, wl d, wx, wi 0] [wr 11, wl d] s1 _
  refine B_int hE.1 rfl my_100 rfl rfl st1.2.2.2.2 (fun r2 => ?_)
  refine B_i2l rfl my_100 ?_
  refine B_cS rfl cw_100_104_0 (as := [wl d, wl (gv s1 11 11)]) (rest := []) rfl (Nat.le_of_ble_eq_true rfl) g_mixed (fun vo s9 hq => ?_)
  obtain ⟨rfl, rfl⟩ := hq
  show Bt E 100 151 [wr 2, wr T, wl d, wx, wi 0] [wl (mxd d (gv s1 11 11))] s1 _
  refine B_lstoren rfl my_100 (by decide) rfl (show _ = [wr 2, wr T, wl (mxd d (gv s1 11 11)), wx, wi 0] from rfl) ?_
  refine B_iinc rfl my_100 (by decide) rfl rfl rfl (by omega) (by omega) (show _ = [wr 2, wr T, wl (mxd d (gv s1 11 11)), wx, wi 1] from rfl) ?_
  refine B_goto rfl my_100 rfl (tgt := 131) rfl ?_
  refine B_iload rfl my_100 rfl ?_
  refine B_iconst rfl my_100 (by decide) ?_
  refine B_ic_gt rfl my_100 rfl (tgt := 158) (nx := 137) rfl rfl (fun c9 => absurd c9 (by decide)) (fun _ => ?_)
  show Bt E 100 137 [wr 2, wr T, wl (mxd d (gv s1 11 11)), wx, wi 1] [] s1 _
  refine B_lloadn rfl my_100 rfl ?_
  refine B_aloadn rfl my_100 rfl ?_
  refine B_iload rfl my_100 rfl ?_
  refine B_cV hE.1 rfl rfl cw_100_109 (as := [wi 1]) (rest := [wl (mxd d (gv s1 11 11))]) rfl (Nat.le_of_ble_eq_true rfl) (g_sw hE st1.1.1 (by decide) (by decide)) (fun vo s2 hq => ?_)
  obtain ⟨rfl, sw2⟩ := hq
  have st2 := sw_step hT tb46 st1.1 st1.2.1 sw2
  show Bt E 100 144 [wr 2, wr T, wl (mxd d (gv s1 11 11)), wx, wi 1] [wr 46, wl (mxd d (gv s1 11 11))] s2 _
  refine B_int hE.1 rfl my_100 rfl rfl st2.2.2.2.2 (fun r4 => ?_)
  refine B_i2l rfl my_100 ?_
  refine B_cS rfl cw_100_104_0 (as := [wl (mxd d (gv s1 11 11)), wl (gv s2 46 11)]) (rest := []) rfl (Nat.le_of_ble_eq_true rfl) g_mixed (fun vo s9 hq => ?_)
  obtain ⟨rfl, rfl⟩ := hq
  show Bt E 100 151 [wr 2, wr T, wl (mxd d (gv s1 11 11)), wx, wi 1] [wl (mxd (mxd d (gv s1 11 11)) (gv s2 46 11))] s2 _
  refine B_lstoren rfl my_100 (by decide) rfl (show _ = [wr 2, wr T, wl (mxd (mxd d (gv s1 11 11)) (gv s2 46 11)), wx, wi 1] from rfl) ?_
  refine B_iinc rfl my_100 (by decide) rfl rfl rfl (by omega) (by omega) (show _ = [wr 2, wr T, wl (mxd (mxd d (gv s1 11 11)) (gv s2 46 11)), wx, wi 2] from rfl) ?_
  refine B_goto rfl my_100 rfl (tgt := 131) rfl ?_
  refine B_iload rfl my_100 rfl ?_
  refine B_iconst rfl my_100 (by decide) ?_
  refine B_ic_gt rfl my_100 rfl (tgt := 158) (nx := 137) rfl rfl (fun c9 => absurd c9 (by decide)) (fun _ => ?_)
  show Bt E 100 137 [wr 2, wr T, wl (mxd (mxd d (gv s1 11 11)) (gv s2 46 11)), wx, wi 2] [] s2 _
  refine B_lloadn rfl my_100 rfl ?_
  refine B_aloadn rfl my_100 rfl ?_
  refine B_iload rfl my_100 rfl ?_
  refine B_cV hE.1 rfl rfl cw_100_109 (as := [wi 2]) (rest := [wl (mxd (mxd d (gv s1 11 11)) (gv s2 46 11))]) rfl (Nat.le_of_ble_eq_true rfl) (g_sw hE st2.1.1 (by decide) (by decide)) (fun vo s3 hq => ?_)
  obtain ⟨rfl, sw3⟩ := hq
  have st3 := sw_step hT tb81 st2.1 st2.2.1 sw3
  show Bt E 100 144 [wr 2, wr T, wl (mxd (mxd d (gv s1 11 11)) (gv s2 46 11)), wx, wi 2] [wr 81, wl (mxd (mxd d (gv s1 11 11)) (gv s2 46 11))] s3 _
  refine B_int hE.1 rfl my_100 rfl rfl st3.2.2.2.2 (fun r6 => ?_)
  refine B_i2l rfl my_100 ?_
  refine B_cS rfl cw_100_104_0 (as := [wl (mxd (mxd d (gv s1 11 11)) (gv s2 46 11)), wl (gv s3 81 11)]) (rest := []) rfl (Nat.le_of_ble_eq_true rfl) g_mixed (fun vo s9 hq => ?_)
  obtain ⟨rfl, rfl⟩ := hq
  show Bt E 100 151 [wr 2, wr T, wl (mxd (mxd d (gv s1 11 11)) (gv s2 46 11)), wx, wi 2] [wl (mxd (mxd (mxd d (gv s1 11 11)) (gv s2 46 11)) (gv s3 81 11))] s3 _
  refine B_lstoren rfl my_100 (by decide) rfl (show _ = [wr 2, wr T, wl (mxd (mxd (mxd d (gv s1 11 11)) (gv s2 46 11)) (gv s3 81 11)), wx, wi 2] from rfl) ?_
  refine B_iinc rfl my_100 (by decide) rfl rfl rfl (by omega) (by omega) (show _ = [wr 2, wr T, wl (mxd (mxd (mxd d (gv s1 11 11)) (gv s2 46 11)) (gv s3 81 11)), wx, wi 3] from rfl) ?_
  refine B_goto rfl my_100 rfl (tgt := 131) rfl ?_
  refine B_iload rfl my_100 rfl ?_
  refine B_iconst rfl my_100 (by decide) ?_
  refine B_ic_gt rfl my_100 rfl (tgt := 158) (nx := 137) rfl rfl (fun c9 => absurd c9 (by decide)) (fun _ => ?_)
  show Bt E 100 137 [wr 2, wr T, wl (mxd (mxd (mxd d (gv s1 11 11)) (gv s2 46 11)) (gv s3 81 11)), wx, wi 3] [] s3 _
  refine B_lloadn rfl my_100 rfl ?_
  refine B_aloadn rfl my_100 rfl ?_
  refine B_iload rfl my_100 rfl ?_
  refine B_cV hE.1 rfl rfl cw_100_109 (as := [wi 3]) (rest := [wl (mxd (mxd (mxd d (gv s1 11 11)) (gv s2 46 11)) (gv s3 81 11))]) rfl (Nat.le_of_ble_eq_true rfl) (g_sw hE st3.1.1 (by decide) (by decide)) (fun vo s4 hq => ?_)
  obtain ⟨rfl, sw4⟩ := hq
  have st4 := sw_step hT tb116 st3.1 st3.2.1 sw4
  show Bt E 100 144 [wr 2, wr T, wl (mxd (mxd (mxd d (gv s1 11 11)) (gv s2 46 11)) (gv s3 81 11)), wx, wi 3] [wr 116, wl (mxd (mxd (mxd d (gv s1 11 11)) (gv s2 46 11)) (gv s3 81 11))] s4 _
  refine B_int hE.1 rfl my_100 rfl rfl st4.2.2.2.2 (fun r8 => ?_)
  refine B_i2l rfl my_100 ?_
  refine B_cS rfl cw_100_104_0 (as := [wl (mxd (mxd (mxd d (gv s1 11 11)) (gv s2 46 11)) (gv s3 81 11)), wl (gv s4 116 11)]) (rest := []) rfl (Nat.le_of_ble_eq_true rfl) g_mixed (fun vo s9 hq => ?_)
  obtain ⟨rfl, rfl⟩ := hq
  show Bt E 100 151 [wr 2, wr T, wl (mxd (mxd (mxd d (gv s1 11 11)) (gv s2 46 11)) (gv s3 81 11)), wx, wi 3] [wl (mxd (mxd (mxd (mxd d (gv s1 11 11)) (gv s2 46 11)) (gv s3 81 11)) (gv s4 116 11))] s4 _
  refine B_lstoren rfl my_100 (by decide) rfl (show _ = [wr 2, wr T, wl (mxd (mxd (mxd (mxd d (gv s1 11 11)) (gv s2 46 11)) (gv s3 81 11)) (gv s4 116 11)), wx, wi 3] from rfl) ?_
  refine B_iinc rfl my_100 (by decide) rfl rfl rfl (by omega) (by omega) (show _ = [wr 2, wr T, wl (mxd (mxd (mxd (mxd d (gv s1 11 11)) (gv s2 46 11)) (gv s3 81 11)) (gv s4 116 11)), wx, wi 4] from rfl) ?_
  refine B_goto rfl my_100 rfl (tgt := 131) rfl ?_
  refine B_iload rfl my_100 rfl ?_
  refine B_iconst rfl my_100 (by decide) ?_
  refine B_ic_gt rfl my_100 rfl (tgt := 158) (nx := 137) rfl rfl (fun _ => ?_) (fun c9 => absurd c9 (by decide))
  show Bt E 100 158 [wr 2, wr T, wl (mxd (mxd (mxd (mxd d (gv s1 11 11)) (gv s2 46 11)) (gv s3 81 11)) (gv s4 116 11)), wx, wi 4] [] s4 _
  refine B_lloadn rfl my_100 rfl ?_
  refine B_lret rfl my_100 rfl ?_
  refine ⟨d, T, congrArg (fun z => some (wl z)) ?_, st4.2.1, st4.1, fun U hU => ?_⟩
  · have a2 := (st2.2.2.1 11 tb11 (by decide)).1
    have a3 := (st3.2.2.1 11 tb11 (by decide)).1
    have a4 := (st4.2.2.1 11 tb11 (by decide)).1
    have b3 := (st3.2.2.1 46 tb46 (by decide)).1
    have b4 := (st4.2.2.1 46 tb46 (by decide)).1
    have c4 := (st4.2.2.1 81 tb81 (by decide)).1
    unfold mix4
    rw [a4, a3, a2, b4, b3, c4]
  · have hk := st4.1.1.2.2.2.1 U hU
    have e : gv s4 U 12 = 1 := by
      rcases hU with rfl | rfl | rfl | rfl
      · rw [(st4.2.2.1 11 tb11 (by decide)).2, (st3.2.2.1 11 tb11 (by decide)).2, (st2.2.2.1 11 tb11 (by decide)).2]
        exact st1.2.2.2.1
      · rw [(st4.2.2.1 46 tb46 (by decide)).2, (st3.2.2.1 46 tb46 (by decide)).2]
        exact st2.2.2.2.1
      · rw [(st4.2.2.1 81 tb81 (by decide)).2]
        exact st3.2.2.2.1
      · exact st4.2.2.2.1
    exact ⟨hk.1, e, hk.2.2 e⟩
theorem t_dig3 {E : mE} {σ : wSt} {T : Nat} (hE : wE E) {d : Int} (hQ : kn σ 2 6 ∧ gv σ 2 6 = 1) (hA : ∀ U, Tb U → kn σ U 12 ∧ gv σ U 12 = 1 ∧ kn σ U 11) : Bt E 100 131 [wr 2, wr T, wl d, wx, wi 0] [] σ (fun vo t => vo = some (wl (mix4 d σ)) ∧ σ = t) := by
  refine B_iload rfl my_100 rfl ?_
  refine B_iconst rfl my_100 (by decide) ?_
  refine B_ic_gt rfl my_100 rfl (tgt := 158) (nx := 137) rfl rfl (fun c9 => absurd c9 (by decide)) (fun _ => ?_)
  show Bt E 100 137 [wr 2, wr T, wl d, wx, wi 0] [] σ _
  refine B_lloadn rfl my_100 rfl ?_
  refine B_aloadn rfl my_100 rfl ?_
  refine B_iload rfl my_100 rfl ?_
  refine B_cV hE.1 rfl rfl cw_100_109 (as := [wi 0]) (rest := [wl d]) rfl (Nat.le_of_ble_eq_true rfl) (g_sw1 hE hQ (by decide) (by decide) ⟨(hA 11 tb11).1, (hA 11 tb11).2.1⟩) (fun vo s9 hq => ?_)
  obtain ⟨rfl, rfl⟩ := hq
  show Bt E 100 144 [wr 2, wr T, wl d, wx, wi 0] [wr 11, wl d] σ _
  refine B_int hE.1 rfl my_100 rfl rfl (hA 11 tb11).2.2 (fun r2 => ?_)
  refine B_i2l rfl my_100 ?_
  refine B_cS rfl cw_100_104_0 (as := [wl d, wl (gv σ 11 11)]) (rest := []) rfl (Nat.le_of_ble_eq_true rfl) g_mixed (fun vo s9 hq => ?_)
  obtain ⟨rfl, rfl⟩ := hq
  show Bt E 100 151 [wr 2, wr T, wl d, wx, wi 0] [wl (mxd d (gv σ 11 11))] σ _
  refine B_lstoren rfl my_100 (by decide) rfl (show _ = [wr 2, wr T, wl (mxd d (gv σ 11 11)), wx, wi 0] from rfl) ?_
  refine B_iinc rfl my_100 (by decide) rfl rfl rfl (by omega) (by omega) (show _ = [wr 2, wr T, wl (mxd d (gv σ 11 11)), wx, wi 1] from rfl) ?_
  refine B_goto rfl my_100 rfl (tgt := 131) rfl ?_
  refine B_iload rfl my_100 rfl ?_
  refine B_iconst rfl my_100 (by decide) ?_
  refine B_ic_gt rfl my_100 rfl (tgt := 158) (nx := 137) rfl rfl (fun c9 => absurd c9 (by decide)) (fun _ => ?_)
  show Bt E 100 137 [wr 2, wr T, wl (mxd d (gv σ 11 11)), wx, wi 1] [] σ _
  refine B_lloadn rfl my_100 rfl ?_
  refine B_aloadn rfl my_100 rfl ?_
  refine B_iload rfl my_100 rfl ?_
  refine B_cV hE.1 rfl rfl cw_100_109 (as := [wi 1]) (rest := [wl (mxd d (gv σ 11 11))]) rfl (Nat.le_of_ble_eq_true rfl) (g_sw1 hE hQ (by decide) (by decide) ⟨(hA 46 tb46).1, (hA 46 tb46).2.1⟩) (fun vo s9 hq => ?_)
  obtain ⟨rfl, rfl⟩ := hq
  show Bt E 100 144 [wr 2, wr T, wl (mxd d (gv σ 11 11)), wx, wi 1] [wr 46, wl (mxd d (gv σ 11 11))] σ _
  refine B_int hE.1 rfl my_100 rfl rfl (hA 46 tb46).2.2 (fun r4 => ?_)
  refine B_i2l rfl my_100 ?_
  refine B_cS rfl cw_100_104_0 (as := [wl (mxd d (gv σ 11 11)), wl (gv σ 46 11)]) (rest := []) rfl (Nat.le_of_ble_eq_true rfl) g_mixed (fun vo s9 hq => ?_)
  obtain ⟨rfl, rfl⟩ := hq
  show Bt E 100 151 [wr 2, wr T, wl (mxd d (gv σ 11 11)), wx, wi 1] [wl (mxd (mxd d (gv σ 11 11)) (gv σ 46 11))] σ _
  refine B_lstoren rfl my_100 (by decide) rfl (show _ = [wr 2, wr T, wl (mxd (mxd d (gv σ 11 11)) (gv σ 46 11)), wx, wi 1] from rfl) ?_
  refine B_iinc rfl my_100 (by decide) rfl rfl rfl (by omega) (by omega) (show _ = [wr 2, wr T, wl (mxd (mxd d (gv σ 11 11)) (gv σ 46 11)), wx, wi 2] from rfl) ?_
  refine B_goto rfl my_100 rfl (tgt := 131) rfl ?_
  refine B_iload rfl my_100 rfl ?_
  refine B_iconst rfl my_100 (by decide) ?_
  refine B_ic_gt rfl my_100 rfl (tgt := 158) (nx := 137) rfl rfl (fun c9 => absurd c9 (by decide)) (fun _ => ?_)
  show Bt E 100 137 [wr 2, wr T, wl (mxd (mxd d (gv σ 11 11)) (gv σ 46 11)), wx, wi 2] [] σ _
  refine B_lloadn rfl my_100 rfl ?_
  refine B_aloadn rfl my_100 rfl ?_
  refine B_iload rfl my_100 rfl ?_
  refine B_cV hE.1 rfl rfl cw_100_109 (as := [wi 2]) (rest := [wl (mxd (mxd d (gv σ 11 11)) (gv σ 46 11))]) rfl (Nat.le_of_ble_eq_true rfl) (g_sw1 hE hQ (by decide) (by decide) ⟨(hA 81 tb81).1, (hA 81 tb81).2.1⟩) (fun vo s9 hq => ?_)
  obtain ⟨rfl, rfl⟩ := hq
  show Bt E 100 144 [wr 2, wr T, wl (mxd (mxd d (gv σ 11 11)) (gv σ 46 11)), wx, wi 2] [wr 81, wl (mxd (mxd d (gv σ 11 11)) (gv σ 46 11))] σ _
  refine B_int hE.1 rfl my_100 rfl rfl (hA 81 tb81).2.2 (fun r6 => ?_)
  refine B_i2l rfl my_100 ?_
  refine B_cS rfl cw_100_104_0 (as := [wl (mxd (mxd d (gv σ 11 11)) (gv σ 46 11)), wl (gv σ 81 11)]) (rest := []) rfl (Nat.le_of_ble_eq_true rfl) g_mixed (fun vo s9 hq => ?_)
  obtain ⟨rfl, rfl⟩ := hq
  show Bt E 100 151 [wr 2, wr T, wl (mxd (mxd d (gv σ 11 11)) (gv σ 46 11)), wx, wi 2] [wl (mxd (mxd (mxd d (gv σ 11 11)) (gv σ 46 11)) (gv σ 81 11))] σ _
  refine B_lstoren rfl my_100 (by decide) rfl (show _ = [wr 2, wr T, wl (mxd (mxd (mxd d (gv σ 11 11)) (gv σ 46 11)) (gv σ 81 11)), wx, wi 2] from rfl) ?_
  refine B_iinc rfl my_100 (by decide) rfl rfl rfl (by omega) (by omega) (show _ = [wr 2, wr T, wl (mxd (mxd (mxd d (gv σ 11 11)) (gv σ 46 11)) (gv σ 81 11)), wx, wi 3] from rfl) ?_
  refine B_goto rfl my_100 rfl (tgt := 131) rfl ?_
  refine B_iload rfl my_100 rfl ?_
  refine B_iconst rfl my_100 (by decide) ?_
  refine B_ic_gt rfl my_100 rfl (tgt := 158) (nx := 137) rfl rfl (fun c9 => absurd c9 (by decide)) (fun _ => ?_)
  show Bt E 100 137 [wr 2, wr T, wl (mxd (mxd (mxd d (gv σ 11 11)) (gv σ 46 11)) (gv σ 81 11)), wx, wi 3] [] σ _
  refine B_lloadn rfl my_100 rfl ?_
  refine B_aloadn rfl my_100 rfl ?_
  refine B_iload rfl my_100 rfl ?_
  refine B_cV hE.1 rfl rfl cw_100_109 (as := [wi 3]) (rest := [wl (mxd (mxd (mxd d (gv σ 11 11)) (gv σ 46 11)) (gv σ 81 11))]) rfl (Nat.le_of_ble_eq_true rfl) (g_sw1 hE hQ (by decide) (by decide) ⟨(hA 116 tb116).1, (hA 116 tb116).2.1⟩) (fun vo s9 hq => ?_)
  obtain ⟨rfl, rfl⟩ := hq
  show Bt E 100 144 [wr 2, wr T, wl (mxd (mxd (mxd d (gv σ 11 11)) (gv σ 46 11)) (gv σ 81 11)), wx, wi 3] [wr 116, wl (mxd (mxd (mxd d (gv σ 11 11)) (gv σ 46 11)) (gv σ 81 11))] σ _
  refine B_int hE.1 rfl my_100 rfl rfl (hA 116 tb116).2.2 (fun r8 => ?_)
  refine B_i2l rfl my_100 ?_
  refine B_cS rfl cw_100_104_0 (as := [wl (mxd (mxd (mxd d (gv σ 11 11)) (gv σ 46 11)) (gv σ 81 11)), wl (gv σ 116 11)]) (rest := []) rfl (Nat.le_of_ble_eq_true rfl) g_mixed (fun vo s9 hq => ?_)
  obtain ⟨rfl, rfl⟩ := hq
  show Bt E 100 151 [wr 2, wr T, wl (mxd (mxd (mxd d (gv σ 11 11)) (gv σ 46 11)) (gv σ 81 11)), wx, wi 3] [wl (mxd (mxd (mxd (mxd d (gv σ 11 11)) (gv σ 46 11)) (gv σ 81 11)) (gv σ 116 11))] σ _
  refine B_lstoren rfl my_100 (by decide) rfl (show _ = [wr 2, wr T, wl (mxd (mxd (mxd (mxd d (gv σ 11 11)) (gv σ 46 11)) (gv σ 81 11)) (gv σ 116 11)), wx, wi 3] from rfl) ?_
  refine B_iinc rfl my_100 (by decide) rfl rfl rfl (by omega) (by omega) (show _ = [wr 2, wr T, wl (mxd (mxd (mxd (mxd d (gv σ 11 11)) (gv σ 46 11)) (gv σ 81 11)) (gv σ 116 11)), wx, wi 4] from rfl) ?_
  refine B_goto rfl my_100 rfl (tgt := 131) rfl ?_
  refine B_iload rfl my_100 rfl ?_
  refine B_iconst rfl my_100 (by decide) ?_
  refine B_ic_gt rfl my_100 rfl (tgt := 158) (nx := 137) rfl rfl (fun _ => ?_) (fun c9 => absurd c9 (by decide))
  show Bt E 100 158 [wr 2, wr T, wl (mxd (mxd (mxd (mxd d (gv σ 11 11)) (gv σ 46 11)) (gv σ 81 11)) (gv σ 116 11)), wx, wi 4] [] σ _
  refine B_lloadn rfl my_100 rfl ?_
  refine B_lret rfl my_100 rfl ?_
  exact ⟨rfl, rfl⟩
theorem k_digest1 {E : mE} {σ : wSt} {T : Nat} (hE : wE E) (hW : NWd σ T) (hN : NTy T σ) (h3 : kn σ 3 1) (hA : ∀ U, Tb U → kn σ U 12 ∧ gv σ U 12 = 1 ∧ kn σ U 11) : Fn E 100 [wr 2] σ (fun vo t => ∃ d, vo = some (wl (mix4 d σ)) ∧ D1g E T σ d ∧ σ = t) := by
  have hT : Tb T := hW.tb
  refine Fn.of (nL := 5) ?_
  show Bt E 100 0 [wr 2, wx, wx, wx, wx] [] σ _
  refine B_aloadn rfl my_100 rfl ?_
  refine B_cV hE.1 rfl rfl cw_100_108 (as := []) (rest := []) rfl (Nat.le_of_ble_eq_true rfl) (g_tableNow1 hE hW) (fun vo s9 hq => ?_)
  obtain ⟨rfl, rfl⟩ := hq
  show Bt E 100 4 [wr 2, wx, wx, wx, wx] [wr T] σ _
  refine t_dig1 hE hT hW.2.2.2.2.1 hN hW.2.2.2.2.2.1 hW.2.1 h3 (fun d hd => ?_)
  exact (t_dig3 hE hW.1 hA).mono (fun vo t hq => ⟨d, hq.1, hd, hq.2⟩)
theorem pf_tof {σ : wSt} {q : Int} (h : PFd σ) (h1 : 0 ≤ q) (h2 : q ≤ 3) : gv σ (tof q) 8 = q := by
  have hq : q = 0 ∨ q = 1 ∨ q = 2 ∨ q = 3 := by omega
  rcases hq with rfl | rfl | rfl | rfl
  · exact h.1
  · exact h.2.1
  · exact h.2.2.1
  · exact h.2.2.2
theorem wb_of {E : mE} {σ s t : wSt} {T : Nat} (hr0 : -1 ≤ rd σ 7 3 0 ∧ rd σ 7 3 0 ≤ 3) (hr2 : -1 ≤ rd σ 7 3 2 ∧ rd σ 7 3 2 ≤ 1) (hp : PFd σ) (hRT : RT σ s) (hT : T = tof (pn s)) (hs : SIt T t) (ho : SFr T s t) (hk : KCd E T s (gv t T 11)) : WBs E T t := by
  obtain ⟨a1, a2, a3, a4, a5, a6⟩ := hRT
  have hTt : Tb T := by rw [hT]; exact tof_tb _
  have e8 : rd s 7 3 0 = rd σ 7 3 0 := off_rd a6 (by unfold Rx; omega)
  have e82 : rd s 7 3 2 = rd σ 7 3 2 := off_rd a6 (by unfold Rx; omega)
  have hQ : QBs s := ⟨⟨a1 2 6, a3⟩, fun U hU => ⟨fun a _ _ b => a1 a b, a2 U hU⟩, ⟨fun i _ _ => a1 _ _, by rw [e8]; exact hr0, by rw [e82]; exact hr2, a1 6 2, fun c _ _ => a1 _ _⟩, fun U hU => ⟨a1 U 12, Or.inl (a4 U hU), fun _ => a1 U 11⟩, a1 3 1, fun U hU => a1 U 8, by
    unfold PFd
    rw [a5 11 tb11 8 (by decide), a5 46 tb46 8 (by decide), a5 81 tb81 8 (by decide), a5 116 tb116 8 (by decide)]
    exact hp⟩
  have o := ho.1
  have epn : pn t = pn s := pn_off o (fun V hV e => by omega) (by omega)
  have hpn := pn_rng (σ := s) (by rw [e8]; exact hr0.1) (by rw [e8]; exact hr0.2)
  refine ⟨qb_set hTt hQ hs ho, by rw [epn]; exact hT, hs, ⟨?_, ?_⟩, ?_⟩
  · unfold kn
    rw [ho.2]
    exact a1 T 8
  · have e : gv t T 8 = gv s T 8 := by
      unfold gv
      rw [ho.2]
    rw [e, a5 T hTt 8 (by decide), epn, hT]
    exact pf_tof hp hpn.1 hpn.2
  · obtain ⟨s9, k1, k2, k3⟩ := hk
    refine ⟨s9, ?_, k2, k3⟩
    rw [ks_set hTt hTt o]
    exact k1
theorem g_tableNow0 {E : mE} {σ : wSt} (hE : wE E) (hA : Al σ) (hX : TX σ) (hf : gv σ 2 6 = 0) (hS : ∀ T, Tb T → ∀ i, 0 ≤ rd σ (T + 2) 500 i) (hr0 : -1 ≤ rd σ 7 3 0 ∧ rd σ 7 3 0 ≤ 3) (hr2 : -1 ≤ rd σ 7 3 2 ∧ rd σ 7 3 2 ≤ 1) (hp : PFd σ) : Fn E 108 [wr 2] σ (fun vo t => ∃ T, vo = some (wr T) ∧ WBs E T t) := by
  refine Fn.of (nL := 3) ?_
  show Bt E 108 0 [wr 2, wx, wx] [] σ _
  refine B_aloadn rfl my_108 rfl ?_
  refine B_cV hE.1 rfl rfl cw_108_111 (as := []) (rest := []) rfl (Nat.le_of_ble_eq_true rfl) (g_readText hE hA hX hf hS) (fun vo s1 hq => ?_)
  obtain ⟨rfl, rt⟩ := hq
  have hA1 := rt.1
  have e73 : rd s1 7 3 0 = rd σ 7 3 0 := off_rd rt.2.2.2.2.2 (by unfold Rx; omega)
  have e72 : rd s1 7 3 2 = rd σ 7 3 2 := off_rd rt.2.2.2.2.2 (by unfold Rx; omega)
  have hg := gp_rng (σ := s1)
  show Bt E 108 4 [wr 2, wx, wx] [] s1 _
  refine B_aloadn rfl my_108 rfl ?_
  refine B_ref hE.1 rfl my_108 rfl (r := 6) rfl ?_
  refine B_ref hE.1 rfl my_108 rfl (r := 7) rfl ?_
  refine B_iconst rfl my_108 (by decide) ?_
  refine B_cV hE.1 rfl nmc_7.1 cw_108_20 (as := [wi 0]) (rest := []) rfl (Nat.le_of_ble_eq_true rfl) (g_at hE nmc_7 (by decide) (kr_of fun _ => hA1 _ _)) (fun vo s9 hq => ?_)
  obtain ⟨rfl, rfl⟩ := hq
  show Bt E 108 15 [wr 2, wx, wx] [wi (rd s1 7 3 0)] s1 _
  refine B_top (fun r1 => ?_)
  refine B_istoren rfl my_108 (by decide) rfl (show _ = [wr 2, wi (rd s1 7 3 0), wx] from rfl) ?_
  refine B_aloadn rfl my_108 rfl ?_
  refine B_iloadn rfl my_108 rfl ?_
  refine B_iconst rfl my_108 (by decide) ?_
  refine B_ic_ne rfl my_108 rfl (tgt := 29) (nx := 22) rfl rfl (fun c2 => ?_) (fun c2 => ?_)
  · refine B_iloadn rfl my_108 rfl ?_
    refine B_cV hE.1 rfl rfl cw_108_110 (as := [wi (rd s1 7 3 0)]) (rest := []) rfl (Nat.le_of_ble_eq_true rfl) (g_tableWith hE (by omega) (by omega)) (fun vo s9 hq => ?_)
    obtain ⟨rfl, rfl⟩ := hq
    obtain ⟨U, hU⟩ : ∃ U, U = tof (rd s1 7 3 0) := ⟨_, rfl⟩
    rw [← hU]
    have hUt : Tb U := by rw [hU]; exact tof_tb _
    have hUp : U = tof (pn s1) := by rw [hU]; unfold pn; rw [if_neg (by omega)]
    show Bt E 108 33 [wr 2, wi (rd s1 7 3 0), wx] [wr U] s1 _
    refine B_astoren rfl my_108 (by decide) rfl (show _ = [wr 2, wi (rd s1 7 3 0), wr U] from rfl) ?_
    refine B_aloadn rfl my_108 rfl ?_
    refine B_aloadn rfl my_108 rfl ?_
    refine B_ref hE.1 rfl my_108 rfl (r := 6) rfl ?_
    refine B_cV hE.1 rfl (wc_0 hUt) cw_108_40 (as := [wr 6]) (rest := []) rfl (Nat.le_of_ble_eq_true rfl) (g_settle hE hUt (fun a _ _ b => hA1 a b) (rt.2.1 U hUt) (hA1 _ _) (rt.2.2.2.1 U hUt) (kr_of fun _ => hA1 _ _) (kr_of fun _ => hA1 _ _) (by omega) (hA1 _ _) (fun c => kr_of fun _ => hA1 _ _)) (fun vo s2 hq => ?_)
    obtain ⟨rfl, si, sf, kc⟩ := hq
    show Bt E 108 42 [wr 2, wi (rd s1 7 3 0), wr U] [] s2 _
    refine B_aloadn rfl my_108 rfl ?_
    refine B_aret rfl my_108 rfl ?_
    exact ⟨U, rfl, wb_of hr0 hr2 hp rt hUp si sf kc⟩
  · refine B_aloadn rfl my_108 rfl ?_
    refine B_cV hE.1 rfl rfl cw_108_113 (as := []) (rest := [wr 2]) rfl (Nat.le_of_ble_eq_true rfl) (g_guessedParter hE (fun U hU => fun a _ _ b => hA1 a b) rt.2.1) (fun vo s9 hq => ?_)
    obtain ⟨rfl, rfl⟩ := hq
    show Bt E 108 26 [wr 2, wi (rd s1 7 3 0), wx] [wi (gp s1), wr 2] s1 _
    refine B_top (fun r3 => ?_)
    refine B_goto rfl my_108 rfl (tgt := 30) rfl ?_
    refine B_cV hE.1 rfl rfl cw_108_110 (as := [wi (gp s1)]) (rest := []) rfl (Nat.le_of_ble_eq_true rfl) (g_tableWith hE (by omega) (by omega)) (fun vo s9 hq => ?_)
    obtain ⟨rfl, rfl⟩ := hq
    obtain ⟨U, hU⟩ : ∃ U, U = tof (gp s1) := ⟨_, rfl⟩
    rw [← hU]
    have hUt : Tb U := by rw [hU]; exact tof_tb _
    have hUp : U = tof (pn s1) := by rw [hU]; unfold pn; rw [if_pos (by omega)]
    show Bt E 108 33 [wr 2, wi (rd s1 7 3 0), wx] [wr U] s1 _
    refine B_astoren rfl my_108 (by decide) rfl (show _ = [wr 2, wi (rd s1 7 3 0), wr U] from rfl) ?_
    refine B_aloadn rfl my_108 rfl ?_
    refine B_aloadn rfl my_108 rfl ?_
    refine B_ref hE.1 rfl my_108 rfl (r := 6) rfl ?_
    refine B_cV hE.1 rfl (wc_0 hUt) cw_108_40 (as := [wr 6]) (rest := []) rfl (Nat.le_of_ble_eq_true rfl) (g_settle hE hUt (fun a _ _ b => hA1 a b) (rt.2.1 U hUt) (hA1 _ _) (rt.2.2.2.1 U hUt) (kr_of fun _ => hA1 _ _) (kr_of fun _ => hA1 _ _) (by omega) (hA1 _ _) (fun c => kr_of fun _ => hA1 _ _)) (fun vo s2 hq => ?_)
    obtain ⟨rfl, si, sf, kc⟩ := hq
    show Bt E 108 42 [wr 2, wi (rd s1 7 3 0), wr U] [] s2 _
    refine B_aloadn rfl my_108 rfl ?_
    refine B_aret rfl my_108 rfl ?_
    exact ⟨U, rfl, wb_of hr0 hr2 hp rt hUp si sf kc⟩
theorem k_digest0 {E : mE} {σ : wSt} (hE : wE E) (hA : Al σ) (hX : TX σ) (hf : gv σ 2 6 = 0) (hS : ∀ T, Tb T → ∀ i, 0 ≤ rd σ (T + 2) 500 i) (hr0 : -1 ≤ rd σ 7 3 0 ∧ rd σ 7 3 0 ≤ 3) (hr2 : -1 ≤ rd σ 7 3 2 ∧ rd σ 7 3 2 ≤ 1) (hp : PFd σ) : Fn E 100 [wr 2] σ (fun vo t => ∃ d T, vo = some (wl (mix4 d t)) ∧ D1g E T t d ∧ WBs E T t ∧ NTy T t ∧ (∀ U, Tb U → kn t U 12 ∧ gv t U 12 = 1 ∧ kn t U 11)) := by
  refine Fn.post (Q := fun vo t => ∃ d T, vo = some (wl (mix4 d t)) ∧ D1g E T t d ∧ WBs E T t ∧ (∀ U, Tb U → kn t U 12 ∧ gv t U 12 = 1 ∧ kn t U 11)) ?_ (fun vo s hq => ?_)
  rotate_left
  · obtain ⟨d, T, rfl, q1, q2, q3⟩ := hq
    have hT : Tb T := q2.nw.tb
    have o := nta_off (σ := s)
    refine ⟨NTa s, nta_sub, d, T, ?_, d1g_nta hT q1, wb_nta hT q2, nta_nty hT, fun U hU => ?_⟩
    · unfold mix4
      rw [off_gv o (by omega), off_gv o (by omega), off_gv o (by omega), off_gv o (by omega)]
    · have n : ¬ Rty U := by omega
      rw [off_gv o n]
      exact ⟨(off_kn o n).mpr (q3 U hU).1, (q3 U hU).2.1, (off_kn o n).mpr (q3 U hU).2.2⟩
  refine Fn.of (nL := 5) ?_
  show Bt E 100 0 [wr 2, wx, wx, wx, wx] [] σ _
  refine B_aloadn rfl my_100 rfl ?_
  refine B_cV hE.1 rfl rfl cw_100_108 (as := []) (rest := []) rfl (Nat.le_of_ble_eq_true rfl) (g_tableNow0 hE hA hX hf hS hr0 hr2 hp) (fun vo s1 hq => ?_)
  obtain ⟨T, rfl, hB⟩ := hq
  have hT : Tb T := hB.nw.tb
  show Bt E 100 4 [wr 2, wx, wx, wx, wx] [wr T] s1 _
  have hB2 := wb_nta hT hB
  refine Bt.sub nta_sub ?_
  exact t_dig1 hE hT hB2.2.2.1 (nta_nty hT) hB2.2.2.2.1.1 hB2.1.2.1 hB2.1.2.2.2.2.1 (fun d hd => t_dig2 hE hT hB2 hd)
