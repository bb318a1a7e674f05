/-! ===== Table: settle as a whole ===== -/
theorem cw_40_41 : wcV 40 0 41 3 0 0 = true := by decide +kernel
abbrev RSt (T a : Nat) : Prop := a = T ∨ (T + 16 ≤ a ∧ a ≤ T + 34)
/-- a settled table -/
def SIt (T : Nat) (σ : wSt) : Prop := (KRd T σ ∧ RI T σ) ∧ ((kn σ T 9 ∧ kn σ T 10 ∧ kn σ T 12) ∧ gv σ T 12 = 1 ∧ (gv σ T 10 = 0 ∨ gv σ T 10 = 1)) ∧ KVw T σ (gv σ (T + 1) 8) ∧ (∀ c, 0 ≤ c → c < min (gv σ (T + 1) 12) 20 → kr σ (T + 31) 20 c ∧ ∀ r, gv σ T 10 ≤ r → r < gv σ (T + 1) 9 → ca σ T r c ≠ -1 → RPf σ σ T c r) ∧ FIv T σ (gv σ (T + 1) 9) ∧ KPi T σ (gv σ (T + 1) 9)
def SFr (T : Nat) (σ t : wSt) : Prop := Off (RSt T) σ t ∧ t T 8 = σ T 8
theorem rpf_to {T : Nat} {σ s t : wSt} {c r : Int} {R : Nat → Prop} (h : RPf σ s T c r) (ho : Off R σ t) (h1 : ∀ a, T + 1 ≤ a → a ≤ T + 15 → ¬ R a) (h2 : ¬ R (T + 26)) (e10 : gv t T 10 = gv σ T 10) (hs : ∀ b, t (T + 30) b = s (T + 30) b) : RPf t t T c r := by
  have ec : ∀ z, ca t T z c = ca σ T z c := fun z => ca_off ho h1
  have e1 : ∀ i, rd t (T + 29) 501 i = rd s (T + 29) 501 i := fun i => by
    unfold rd gv
    rw [hs]
  unfold RPf Ahd at h ⊢
  rw [ec, off_rd ho h2, e10, e1, off_rd ho (h1 _ (by omega) (by omega))]
  obtain ⟨g1, g2, g3⟩ := h
  refine ⟨fun k1 k2 => ?_, g2, fun e => ?_⟩
  · have := g1 k1 k2
    unfold kn at this ⊢
    rw [hs]
    exact this
  · obtain ⟨g4, z, z1, z2, z3, z4⟩ := g3 e
    refine ⟨g4, z, z1, z2, ?_, ?_⟩
    · rw [ec]; exact z3
    · rw [ec, off_rd ho (h1 _ (by omega) (by omega))]; exact z4
theorem fi_down {T : Nat} {σ : wSt} {i j : Int} (h : FIv T σ i) (hj : i = j ∨ i = gv σ T 10) : FIv T σ j := by
  rcases hj with rfl | e
  · exact h
  · obtain ⟨h1, h2, h3, h4⟩ := h
    refine ⟨h1, h2, fun k k1 k2 => ?_, h4⟩
    have := (h3 k k1 k2).2.1
    omega
theorem kp_down {T : Nat} {σ : wSt} {i j : Int} (h : KPi T σ i) (h0 : 0 ≤ j) (hj : i = j ∨ i = gv σ T 10) : KPi T σ j := by
  rcases hj with rfl | e
  · exact h
  · obtain ⟨h1, h2, h3, h4, h5⟩ := h
    have hk : ¬ 0 < gv σ T 11 := fun g => by
      have := (h4 0 (by omega) g).2.1
      omega
    exact ⟨h1, h2, by omega, fun q q1 q2 => by omega, fun q q1 q2 => by omega⟩
/-- the end of settle -/
theorem settle_end {T : Nat} {σ τ s t : wSt} {i : Int} (hR : KRd T σ) (hI : RI T σ) (hD : DIv T σ τ) (hC : CIv T τ s (min (gv τ (T + 1) 12) 20)) (hA : AIv T s t i) (h1 : gv s (T + 1) 9 ≤ i) (h2 : i ≤ gv s (T + 1) 9 ∨ i = gv s T 10) : SIt T (wup t T 12 1) ∧ SFr T σ (wup t T 12 1) := by
  have ow : Off (fun a => a = T) t (wup t T 12 1) := off_wup rfl
  have oA : Off (Rg6 T) s (wup t T 12 1) := hA.1.tr (ow.mono (fun a e => Or.inl e))
  have eA : ∀ b, b ≠ 11 → b ≠ 12 → (wup t T 12 1) T b = s T b := fun b b1 b2 => by
    rw [wup_ne (fun e => b2 e.2)]
    exact hA.2.1 b b1
  have eC : ∀ b, s T b = τ T b := fun b => hC.1 T (by omega) b
  have g10 : gv (wup t T 12 1) T 10 = gv s T 10 := by
    unfold gv
    rw [eA 10 (by decide) (by decide)]
  have g10t : gv (wup t T 12 1) T 10 = gv t T 10 := gv_ne (fun e => absurd e.2 (by decide))
  have g10s : gv s T 10 = gv τ T 10 := by
    unfold gv
    rw [eC]
  have hRt : KRd T τ := krd_off hR hD.1 (fun a e1 e2 e => by omega)
  have hIt : RI T τ := ri_off hI hD.1 (fun a e1 e2 e => by omega)
  have hRs : KRd T s := krd_off hRt hC.1 (fun a e1 e2 e => by omega)
  have hIs : RI T s := ri_off hIt hC.1 (fun a e1 e2 e => by omega)
  have e9 : gv (wup t T 12 1) (T + 1) 9 = gv s (T + 1) 9 := off_gv oA (by omega)
  have e9t : gv s (T + 1) 9 = gv τ (T + 1) 9 := off_gv hC.1 (by omega)
  have e8 : gv (wup t T 12 1) (T + 1) 8 = gv s (T + 1) 8 := off_gv oA (by omega)
  have e12 : gv (wup t T 12 1) (T + 1) 12 = gv s (T + 1) 12 := off_gv oA (by omega)
  have e12t : gv s (T + 1) 12 = gv τ (T + 1) 12 := off_gv hC.1 (by omega)
  have oCA : Off (fun a => Rg5 T a ∨ Rg6 T a) τ (wup t T 12 1) := (hC.1.mono (fun a e => Or.inl e)).tr (oA.mono (fun a e => Or.inr e))
  have k12 : ∀ b, b ≠ 11 → b ≠ 12 → kn τ T b → kn (wup t T 12 1) T b := fun b b1 b2 h => by
    unfold kn
    rw [eA b b1 b2, eC]
    exact h
  have hd : gv (wup t T 12 1) T 10 = 0 ∨ gv (wup t T 12 1) T 10 = 1 := by
    rw [g10, g10s]
    exact hD.2.2.2.1
  have h0 := hIs.1
  refine ⟨⟨⟨krd_off hRs oA (fun a e1 e2 e => by omega), ri_off hIs oA (fun a e1 e2 e => by omega)⟩, ⟨⟨k12 9 (by decide) (by decide) hD.2.2.1.1, k12 10 (by decide) (by decide) hD.2.2.1.2, kn_eq⟩, gv_eq, hd⟩, ?_, fun c c1 c2 => ⟨?_, fun r r1 r2 r3 => ?_⟩, ?_, ?_⟩, ?_, ?_⟩
  · rw [e8]
    have := hD.2.2.2.2
    rw [show gv s (T + 1) 8 = gv τ (T + 1) 8 from off_gv hC.1 (by omega)]
    exact kv_off this oCA (by omega) (by omega) (by omega)
  · rw [e12, e12t] at c2
    exact off_kr oA (by omega) (hC.2.1 c c1 c2)
  · rw [e12, e12t] at c2
    rw [g10, g10s] at r1
    rw [e9, e9t] at r2
    rw [ca_off oCA (fun a e1 e2 e => by omega)] at r3
    exact rpf_to (hC.2.2 c c1 c2 r r1 r2 r3) oCA (fun a e1 e2 e => by omega) (by omega) (by rw [g10, g10s]) (fun b => oA _ (by omega) b)
  · rw [e9]
    have f1 : FIv T (wup t T 12 1) i := fi_off hA.2.2.1 ow (by rw [g10t]) (by omega) (fun a e1 e2 e => by omega)
    exact fi_down f1 (by omega)
  · rw [e9]
    have f2 : KPi T (wup t T 12 1) i := by
      obtain ⟨q1, q2, q3, q4, q5⟩ := hA.2.2.2.2
      have e11 : gv (wup t T 12 1) T 11 = gv t T 11 := gv_ne (fun e => absurd e.2 (by decide))
      refine ⟨kn_up q1, by rw [e11]; exact q2, by rw [e11]; exact q3, fun q k1 k2 => ?_, fun q k1 k2 => ?_⟩
      · rw [e11] at k2
        obtain ⟨x1, x2, x3⟩ := q4 q k1 k2
        rw [g10t, rd_wup (by omega), rd_wup (by omega), gv_ne (by omega), gv_ne (by omega)]
        exact ⟨kr_wup x1, x2, fun k k1 k2 => by rw [rd_wup (by omega)]; exact x3 k k1 k2⟩
      · rw [e11] at k2
        rw [rd_wup (by omega), rd_wup (by omega)]
        exact q5 q k1 k2
    exact kp_down f2 (by omega) (by omega)
  · exact (hD.1.mono (fun a e => by omega)).tr (oCA.mono (fun a e => by omega))
  · rw [eA 8 (by decide) (by decide), eC]
    exact hD.2.1 8 (by decide) (by decide)
theorem t_settleB {E : mE} {σ : wSt} {T : Nat} (hE : wE E) (hT : Tb T) (hR : KRd T σ) (hI : RI T σ) {τ s : wSt} {P : Option wV → wSt → Prop} (hD : DIv T σ τ) (hrl : ∀ c, kr τ 9 20 c) (hC : CIv T τ s (min (gv τ (T + 1) 12) 20)) (kont : ∀ t i, AIv T s t i → gv s (T + 1) 9 ≤ i → (i ≤ gv s (T + 1) 9 ∨ i = gv s T 10) → P none (wup t T 12 1)) : Bt E 40 147 [wr T, wr 6, wx, wx] [] s P := by
  have h11 := tb_ge hT
  have hRt : KRd T τ := krd_off hR hD.1 (fun a e1 e2 e => by omega)
  have hIt : RI T τ := ri_off hI hD.1 (fun a e1 e2 e => by omega)
  have hRs : KRd T s := krd_off hRt hC.1 (fun a e1 e2 e => by omega)
  have hIs : RI T s := ri_off hIt hC.1 (fun a e1 e2 e => by omega)
  have kh : kn s T 10 := (off_kn hC.1 (by omega)).mpr hD.2.2.1.2
  have gh : gv s T 10 = gv τ T 10 := off_gv hC.1 (by omega)
  have hd := hD.2.2.2.1
  have h0 := hIs.1
  refine B_aloadn rfl my_40 rfl ?_
  refine B_ref hE.1 rfl my_40 rfl (r := (T + 16)) (wf_0_1 hT) ?_
  refine B_iconst rfl my_40 (by decide) ?_
  refine B_put hE.1 rfl my_40 rfl (wn_16_3 hT) (Or.inl rfl) ?_
  refine B_aloadn rfl my_40 rfl ?_
  refine B_iconst rfl my_40 (by decide) ?_
  refine B_put hE.1 rfl my_40 rfl (wn_0_11 hT) (Or.inl rfl) ?_
  refine B_aloadn rfl my_40 rfl ?_
  refine B_int hE.1 rfl my_40 rfl (wn_0_10 hT) (kn_up (kn_up kh)) (fun r1 => ?_)
  refine B_istoren rfl my_40 (by decide) rfl (show _ = [wr T, wr 6, wi (gv (wup (wup s (T + 16) 3 0) T 11 0) T 10), wx] from rfl) ?_
  have hd1 : gv (wup (wup s (T + 16) 3 0) T 11 0) T 10 = gv s T 10 := by
    rw [gv_ne (fun e => absurd e.2 (by decide)), gv_ne (by omega)]
  rw [hd1]
  have e9t : gv s (T + 1) 9 = gv τ (T + 1) 9 := off_gv hC.1 (by omega)
  have e12t : gv s (T + 1) 12 = gv τ (T + 1) 12 := off_gv hC.1 (by omega)
  have hKV : KVw T s (gv s (T + 1) 8) := by
    rw [show gv s (T + 1) 8 = gv τ (T + 1) 8 from off_gv hC.1 (by omega)]
    exact kv_off hD.2.2.2.2 hC.1 (by omega) (by omega) (by omega)
  refine l_settleA hE hT hRs hIs hKV kh (by omega) (fun c c1 c2 => ?_) (fun r c q1 q2 q3 q4 q5 => ?_) (fun c => off_kr hC.1 (by omega) (hrl c)) kont _ _ (gv s T 10) ⟨?_, fun b hb => ?_, ⟨?_, ?_, fun k k1 k2 => ?_, fun k k1 k2 => ?_⟩, fun g => ?_, ⟨kn_eq, ?_, ?_, fun q q1 q2 => ?_, fun q q1 q2 => ?_⟩⟩ (by omega) (Or.inr rfl) (Int.le_refl _) (Nat.le_refl _)
  · exact hC.2.1 c c1 (by omega)
  · rw [ca_off hC.1 (fun a e1 e2 e => by omega)] at q5 ⊢
    exact (hC.2.2 c q3 (by omega) r (by omega) (by omega) q5).1
  · exact (off_wup (R := Rg6 T) (by omega)).tr (off_wup (R := Rg6 T) (by omega))
  · rw [wup_ne (fun e => hb e.2), wup_ne (by omega)]
  · exact kn_up kn_eq
  · rw [gv_ne (by omega), gv_eq]; decide
  · rw [gv_ne (by omega), gv_eq] at k2
    omega
  · rw [gv_ne (by omega), gv_eq] at k2
    omega
  · rw [gv_ne (by omega), gv_eq]
    have := hIs.2.1 (gv s T 10) (by omega) g
    omega
  · rw [gv_eq]; decide
  · rw [gv_eq]; omega
  · rw [gv_eq] at q2
    omega
  · rw [gv_eq] at q2
    omega
theorem g_settle0 {E : mE} {σ : wSt} {T : Nat} (hE : wE E) (hT : Tb T) (hR : KRd T σ) (hI : RI T σ) (k12 : kn σ T 12) (h12 : gv σ T 12 = 0) (hc1 : kr σ 7 3 1) (hc2 : kr σ 7 3 2) (hv2 : -1 ≤ rd σ 7 3 2 ∧ rd σ 7 3 2 ≤ 1) (hsh : kn σ 6 2) (hrl : ∀ c, kr σ 9 20 c) : Fn E 40 [wr T, wr 6] σ (fun vo t => vo = none ∧ SIt T t ∧ SFr T σ t) := by
  refine Fn.of (nL := 4) ?_
  show Bt E 40 0 [wr T, wr 6, wx, wx] [] σ _
  refine B_aloadn rfl my_40 rfl ?_
  refine B_int hE.1 rfl my_40 rfl (wn_0_12 hT) k12 (fun r1 => ?_)
  refine B_if_eq rfl my_40 rfl (tgt := 8) (nx := 7) rfl rfl (fun c2 => ?_) (fun c2 => ?_)
  · refine B_aloadn rfl my_40 rfl ?_
    refine B_aloadn rfl my_40 rfl ?_
    refine B_ref hE.1 rfl my_40 rfl (r := 7) rfl ?_
    refine B_iconst rfl my_40 (by decide) ?_
    refine B_cV hE.1 rfl nmc_7.1 cw_40_20 (as := [wi 1]) (rest := [wr T]) rfl (Nat.le_of_ble_eq_true rfl) (g_at hE nmc_7 (by decide) hc1) (fun vo s9 hq => ?_)
    obtain ⟨rfl, rfl⟩ := hq
    show Bt E 40 17 [wr T, wr 6, wx, wx] [wi (rd σ 7 3 1), wr T] σ _
    refine B_top (fun r3 => ?_)
    refine B_iconst rfl my_40 (by decide) ?_
    refine B_ic_ne rfl my_40 rfl (tgt := 28) (nx := 21) rfl rfl (fun c4 => ?_) (fun c4 => ?_)
    · refine B_aloadn rfl my_40 rfl ?_
      refine B_ref hE.1 rfl my_40 rfl (r := 7) rfl ?_
      refine B_iconst rfl my_40 (by decide) ?_
      refine B_cV hE.1 rfl nmc_7.1 cw_40_20 (as := [wi 1]) (rest := [wr T]) rfl (Nat.le_of_ble_eq_true rfl) (g_at hE nmc_7 (by decide) hc1) (fun vo s9 hq => ?_)
      obtain ⟨rfl, rfl⟩ := hq
      show Bt E 40 36 [wr T, wr 6, wx, wx] [wi (rd σ 7 3 1), wr T] σ _
      refine B_top (fun r5 => ?_)
      refine B_put hE.1 rfl my_40 rfl (wn_0_9 hT) (Or.inl rfl) ?_
      refine B_iconst rfl my_40 (by decide) ?_
      refine B_istoren rfl my_40 (by decide) rfl (show _ = [wr T, wr 6, wi 0, wx] from rfl) ?_
      have h11 := tb_ge hT
      refine l_settleE hE hT hR hI (fun s hs => ?_) _ _ 0 ⟨off_wup (R := Rg3 T) (Or.inl rfl), fun b hb => wup_ne (fun e => hb e.2), kn_eq, fun c c1 c2 => by omega⟩ (by omega) (by have := hI.1; omega) (Nat.le_refl _)
      refine t_settleD hE hT hR hI hc2 hv2 hsh hs (fun τ hD => ?_)
      have hRt : KRd T τ := krd_off hR hD.1 (fun a e1 e2 e => by omega)
      have hIt : RI T τ := ri_off hI hD.1 (fun a e1 e2 e => by omega)
      have hu := hIt.uw
      have hd := hD.2.2.2.1
      refine l_settleC hE hT hRt hIt hD.2.2.2.2 hD.2.2.1.2 (by omega) ((off_kn hD.1 (by omega)).mpr hsh) (fun s2 hC => ?_) _ τ 0 ⟨Off.rf, fun c c1 c2 => by omega, fun c c1 c2 => by omega⟩ (by omega) (by omega) (Nat.le_refl _)
      refine t_settleB hE hT hR hI hD (fun c => off_kr hD.1 (by omega) (hrl c)) hC (fun t i hA g1 g2 => ?_)
      exact ⟨rfl, settle_end hR hI hD hC hA g1 g2⟩
    · refine B_aloadn rfl my_40 rfl ?_
      refine B_cV hE.1 rfl (wc_0 hT) cw_40_41 (as := []) (rest := [wr T]) rfl (Nat.le_of_ble_eq_true rfl) (g_guessedMark hE hT hR hI) (fun vo s9 hq => ?_)
      obtain ⟨x6, rfl, hz7, rfl⟩ := hq
      show Bt E 40 25 [wr T, wr 6, wx, wx] [wi x6, wr T] σ _
      refine B_top (fun r8 => ?_)
      refine B_goto rfl my_40 rfl (tgt := 36) rfl ?_
      refine B_put hE.1 rfl my_40 rfl (wn_0_9 hT) (Or.inl rfl) ?_
      refine B_iconst rfl my_40 (by decide) ?_
      refine B_istoren rfl my_40 (by decide) rfl (show _ = [wr T, wr 6, wi 0, wx] from rfl) ?_
      have h11 := tb_ge hT
      refine l_settleE hE hT hR hI (fun s hs => ?_) _ _ 0 ⟨off_wup (R := Rg3 T) (Or.inl rfl), fun b hb => wup_ne (fun e => hb e.2), kn_eq, fun c c1 c2 => by omega⟩ (by omega) (by have := hI.1; omega) (Nat.le_refl _)
      refine t_settleD hE hT hR hI hc2 hv2 hsh hs (fun τ hD => ?_)
      have hRt : KRd T τ := krd_off hR hD.1 (fun a e1 e2 e => by omega)
      have hIt : RI T τ := ri_off hI hD.1 (fun a e1 e2 e => by omega)
      have hu := hIt.uw
      have hd := hD.2.2.2.1
      refine l_settleC hE hT hRt hIt hD.2.2.2.2 hD.2.2.1.2 (by omega) ((off_kn hD.1 (by omega)).mpr hsh) (fun s2 hC => ?_) _ τ 0 ⟨Off.rf, fun c c1 c2 => by omega, fun c c1 c2 => by omega⟩ (by omega) (by omega) (Nat.le_refl _)
      refine t_settleB hE hT hR hI hD (fun c => off_kr hD.1 (by omega) (hrl c)) hC (fun t i hA g1 g2 => ?_)
      exact ⟨rfl, settle_end hR hI hD hC hA g1 g2⟩
  · refine B_ret rfl my_40 rfl ?_
    exfalso
    omega
theorem g_settle1 {E : mE} {σ : wSt} {T : Nat} (hE : wE E) (hT : Tb T) (k12 : kn σ T 12) (h12 : gv σ T 12 = 1) : Fn E 40 [wr T, wr 6] σ (fun vo t => vo = none ∧ σ = t) := by
  refine Fn.of (nL := 4) ?_
  show Bt E 40 0 [wr T, wr 6, wx, wx] [] σ _
  refine B_aloadn rfl my_40 rfl ?_
  refine B_int hE.1 rfl my_40 rfl (wn_0_12 hT) k12 (fun r1 => ?_)
  refine B_if_eq rfl my_40 rfl (tgt := 8) (nx := 7) rfl rfl (fun c2 => ?_) (fun c2 => ?_)
  · exact absurd c2 (by omega)
  · refine B_ret rfl my_40 rfl ?_
    exact ⟨rfl, rfl⟩
/-- what settle goes by -/
def KSt (T : Nat) (σ : wSt) : wSt := fun a b => if (T + 1 ≤ a ∧ a ≤ T + 15) ∨ a = 6 ∨ (a = 8 ∧ b ≠ 0) ∨ a = 10 then σ a b else if a = T ∧ b = 12 then some 0 else none
theorem ks_in {T a b : Nat} {σ : wSt} (h : (T + 1 ≤ a ∧ a ≤ T + 15) ∨ a = 6 ∨ (a = 8 ∧ b ≠ 0) ∨ a = 10) : KSt T σ a b = σ a b := if_pos h
theorem ks_sub {T : Nat} {σ : wSt} (k12 : kn σ T 12) (h12 : gv σ T 12 = 0) : Sub (KSt T σ) σ := fun a b h => by
  by_cases g : (T + 1 ≤ a ∧ a ≤ T + 15) ∨ a = 6 ∨ (a = 8 ∧ b ≠ 0) ∨ a = 10
  · unfold kn at h ⊢
    unfold gv
    rw [ks_in g] at h ⊢
    exact ⟨h, rfl⟩
  · by_cases f : a = T ∧ b = 12
    · obtain ⟨rfl, rfl⟩ := f
      refine ⟨k12, ?_⟩
      rw [h12]
      unfold gv KSt
      rw [if_neg g, if_pos ⟨rfl, rfl⟩]
      rfl
    · unfold kn KSt at h
      rw [if_neg g, if_neg f] at h
      cases h
theorem ks_eq {T : Nat} {σ τ : wSt} {R : Nat → Prop} (h : Off R σ τ) (h1 : ∀ a, T + 1 ≤ a → a ≤ T + 15 → ¬ R a) (h6 : ¬ R 6) (h10 : ¬ R 10) (h8 : ∀ b, b ≠ 0 → τ 8 b = σ 8 b) : KSt T τ = KSt T σ := by
  funext a b
  unfold KSt
  by_cases g : (T + 1 ≤ a ∧ a ≤ T + 15) ∨ a = 6 ∨ (a = 8 ∧ b ≠ 0) ∨ a = 10
  · rw [if_pos g, if_pos g]
    rcases g with g | rfl | ⟨rfl, g⟩ | rfl
    · exact h a (h1 a g.1 g.2) b
    · exact h 6 h6 b
    · exact h8 b g
    · exact h 10 h10 b
  · rw [if_neg g, if_neg g]
/-- settle keeps k rows of such a reading, told such things -/
def KCd (E : mE) (T : Nat) (σ : wSt) (k : Int) : Prop := ∃ s, Fx E 40 [wr T, wr 6] (KSt T σ) none s ∧ kn s T 11 ∧ gv s T 11 = k
theorem kcd_fn {E : mE} {T : Nat} {σ τ : wSt} {k q : Int} (hT : Tb T) (ho : Ok [] [wr T, wr 6] (KSt T σ)) (h1 : KCd E T σ k) (h2 : KCd E T τ q) (he : KSt T τ = KSt T σ) : k = q := by
  obtain ⟨s, f1, g1, rfl⟩ := h1
  obtain ⟨t, f2, g2, rfl⟩ := h2
  rw [he] at f2
  obtain ⟨-, h, w1, w2⟩ := Fx.fn ho f1 f2
  exact Wr.int w1 w2 (wn_0_11 hT) g1 g2
theorem g_settle {E : mE} {σ : wSt} {T : Nat} (hE : wE E) (hT : Tb T) (hR : KRd T σ) (hI : RI T σ) (k12 : kn σ T 12) (h12 : gv σ T 12 = 0) (hc1 : kr σ 7 3 1) (hc2 : kr σ 7 3 2) (hv2 : -1 ≤ rd σ 7 3 2 ∧ rd σ 7 3 2 ≤ 1) (hsh : kn σ 6 2) (hrl : ∀ c, kr σ 9 20 c) : Fn E 40 [wr T, wr 6] σ (fun vo t => vo = none ∧ SIt T t ∧ SFr T σ t ∧ KCd E T σ (gv t T 11)) := by
  intro ho
  have hs := ks_sub k12 h12
  have h11 := tb_ge hT
  have o : Off (fun a => ¬ ((T + 1 ≤ a ∧ a ≤ T + 15) ∨ a = 6 ∨ a = 10)) σ (KSt T σ) := fun a ha b => ks_in (by omega)
  have r7 : ∀ i, i ≠ 0 → rd (KSt T σ) 7 3 i = rd σ 7 3 i := fun i hi => by
    unfold rd
    by_cases g : 0 ≤ i ∧ i < ((3 : Nat) : Int)
    · rw [if_pos g, if_pos g]
      unfold gv
      rw [ks_in (by omega)]
    · rw [if_neg g, if_neg g]
  have k7 : ∀ i, i ≠ 0 → kr σ 7 3 i → kr (KSt T σ) 7 3 i := fun i hi h a1 a2 => by
    have := h a1 a2
    unfold kn at this ⊢
    rw [ks_in (by omega)]
    exact this
  obtain ⟨vo, t, ⟨rfl, h1, h2⟩, f1⟩ := g_settle0 hE hT hR hI k12 h12 hc1 hc2 hv2 hsh hrl ho
  obtain ⟨vo2, s, ⟨rfl, h3, h4⟩, f2⟩ := g_settle0 (σ := KSt T σ) hE hT (krd_off hR o (fun a e1 e2 e => by omega)) (ri_off hI o (fun a e1 e2 e => by omega)) (by
    unfold kn KSt
    rw [if_neg (by omega), if_pos ⟨rfl, rfl⟩]
    rfl) (by
    unfold gv KSt
    rw [if_neg (by omega), if_pos ⟨rfl, rfl⟩]
    rfl) (k7 1 (by decide) hc1) (k7 2 (by decide) hc2) (by rw [r7 2 (by decide)]; exact hv2) ((off_kn o (by omega)).mpr hsh) (fun c => off_kr o (by omega) (hrl c)) (ho.sub hs)
  obtain ⟨-, h, w1, w2⟩ := Fx.fn ho f1 (f2.sub hs)
  have k1 := h1.2.2.2.2.2.1
  have k2 := h3.2.2.2.2.2.1
  exact ⟨none, t, ⟨rfl, h1, h2, s, f2, k2, (Wr.int w1 w2 (wn_0_11 hT) k1 k2).symm⟩, f1⟩
