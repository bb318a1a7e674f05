/-! ===== Table: settle ===== -/
theorem cw_40_20 : wcV 40 0 20 1 1 1 = true := by decide +kernel
theorem cw_40_21 : wcV 40 0 21 1 2 2 = true := by decide +kernel
theorem cw_40_33 : wcV 40 0 33 2 0 0 = true := by decide +kernel
theorem cw_40_42 : wcV 40 0 42 3 1 1 = true := by decide +kernel
theorem cw_40_43 : wcV 40 0 43 3 1 1 = true := by decide +kernel
theorem cw_40_44 : wcV 40 0 44 3 2 2 = true := by decide +kernel
theorem cw_40_46 : wcV 40 0 46 3 1 1 = true := by decide +kernel
theorem cw_40_47 : wcV 40 0 47 3 1 1 = true := by decide +kernel
theorem cw_40_49 : wcV 40 0 49 3 2 2 = true := by decide +kernel
theorem cw_40_52 : wcV 40 0 52 3 1 1 = true := by decide +kernel
/-- a cell's kind and value, as far as it matters -/
def NCf (T : Nat) (σ : wSt) (c : Int) : Prop := 0 ≤ rd σ (T + 25) 501 c ∧ rd σ (T + 25) 501 c ≤ 5 ∧ (rd σ (T + 25) 501 c = 0 ↔ rd σ (T + 6) 501 c = 0) ∧ (rd σ (T + 25) 501 c = 5 → rd σ (T + 27) 501 c = rd σ (T + 6) 501 c) ∧ (rd σ (T + 25) 501 c = 0 → rd σ (T + 27) 501 c = 0)
abbrev Rg3 (T a : Nat) : Prop := a = T ∨ a = T + 26 ∨ a = T + 28
abbrev Rg4 (T a : Nat) : Prop := a = T ∨ a = T + 26 ∨ a = T + 28 ∨ a = T + 34
abbrev Rg5 (T a : Nat) : Prop := a = T + 34 ∨ a = T + 32 ∨ a = T + 30
abbrev Rg6 (T a : Nat) : Prop := a = T ∨ (T + 16 ≤ a ∧ a ≤ T + 22) ∨ a = T + 24
def KVw (T : Nat) (s : wSt) (i : Int) : Prop := ∀ c, 0 ≤ c → c < i → kr s (T + 25) 501 c ∧ kr s (T + 27) 501 c ∧ NCf T s c
theorem kv_off {T : Nat} {σ s : wSt} {i : Int} {R : Nat → Prop} (h : KVw T σ i) (ho : Off R σ s) (h1 : ¬ R (T + 7)) (h2 : ¬ R (T + 26)) (h3 : ¬ R (T + 28)) : KVw T s i := fun c c1 c2 => by
  obtain ⟨g1, g2, g3⟩ := h c c1 c2
  refine ⟨off_kr ho h2 g1, off_kr ho h3 g2, ?_⟩
  unfold NCf at g3 ⊢
  rw [off_rd ho h2, off_rd ho h1, off_rd ho h3]
  exact g3
theorem kv_kk2 {T : Nat} {s : wSt} (h : KVw T s (gv s (T + 1) 8)) : KK T s := fun c c1 c2 => (h c c1 c2).1
theorem kv_sk {T : Nat} {s : wSt} (h : KVw T s (gv s (T + 1) 8)) : SK T s := fun c c1 c2 => by
  obtain ⟨-, -, g1, g2, g3, -⟩ := h c c1 c2
  exact ⟨g1, g2, g3⟩
def EIv (T : Nat) (σ s : wSt) (i : Int) : Prop := Off (Rg3 T) σ s ∧ (∀ b, b ≠ 9 → s T b = σ T b) ∧ kn s T 9 ∧ KVw T s i
theorem ei_step {T : Nat} {σ s : wSt} {i kd va : Int} (h : EIv T σ s i) (h1 : 0 ≤ i) (h2 : i < 501) (hn : 0 ≤ kd ∧ kd ≤ 5 ∧ (kd = 0 ↔ rd s (T + 6) 501 i = 0) ∧ (kd = 5 → va = rd s (T + 6) 501 i) ∧ (kd = 0 → va = 0)) : EIv T σ (pt (pt s (T + 25) 501 i kd) (T + 27) 501 i va) (i + 1) := by
  obtain ⟨g1, g2, g3, g4⟩ := h
  have o : Off (fun a => a = T + 26 ∨ a = T + 28) s (pt (pt s (T + 25) 501 i kd) (T + 27) 501 i va) := (off_pt (R := fun a => a = T + 26 ∨ a = T + 28) (Or.inl rfl)).tr (off_pt (R := fun a => a = T + 26 ∨ a = T + 28) (Or.inr rfl))
  refine ⟨g1.tr (o.mono (fun a e => by omega)), fun b hb => ?_, kn_pt (kn_pt g3), fun c c1 c2 => ?_⟩
  · rw [o T (by omega)]
    exact g2 b hb
  · by_cases e : c = i
    · subst e
      refine ⟨kr_pt kr_pt_eq, kr_pt_eq, ?_⟩
      unfold NCf
      rw [rd_pt_ne (by omega), rd_pt_eq h1 (by omega), rd_pt_eq h1 (by omega), rd_pt_ne (by omega), rd_pt_ne (by omega)]
      exact hn
    · obtain ⟨f1, f2, f3⟩ := g4 c c1 (by omega)
      refine ⟨kr_pt (kr_pt f1), kr_pt (kr_pt f2), ?_⟩
      unfold NCf at f3 ⊢
      rw [rd_pt_ne (by omega), rd_pt_nk e, rd_pt_nk e, rd_pt_ne (by omega), rd_pt_ne (by omega), rd_pt_ne (by omega)]
      exact f3
def DIv (T : Nat) (σ s : wSt) : Prop := Off (Rg4 T) σ s ∧ (∀ b, b ≠ 9 → b ≠ 10 → s T b = σ T b) ∧ (kn s T 9 ∧ kn s T 10) ∧ (gv s T 10 = 0 ∨ gv s T 10 = 1) ∧ KVw T s (gv s (T + 1) 8)
theorem di_of {T : Nat} {σ s t : wSt} {x : Int} (h : EIv T σ s (gv σ (T + 1) 8)) (ho : Off (fun a => a = T + 34) s t) (hx : x = 0 ∨ x = 1) : DIv T σ (wup t T 10 x) := by
  obtain ⟨g1, g2, g3, g4⟩ := h
  have o : Off (fun a => a = T ∨ a = T + 34) s (wup t T 10 x) := (ho.mono (fun a e => Or.inr e)).tr (off_wup (R := fun a => a = T ∨ a = T + 34) (Or.inl rfl))
  refine ⟨(g1.mono (fun a e => by omega)).tr (o.mono (fun a e => by omega)), fun b b1 b2 => ?_, ⟨kn_up ((off_kn ho (by omega)).mpr g3), kn_eq⟩, ?_, ?_⟩
  · rw [wup_ne (fun e => b2 e.2), ho T (by omega)]
    exact g2 b b1
  · rw [gv_eq]; exact hx
  · rw [off_gv o (by omega), off_gv g1 (by omega)]
    exact kv_off g4 o (by omega) (by omega) (by omega)
theorem l_settleE {E : mE} {σ : wSt} {T : Nat} (hE : wE E) (hT : Tb T) (hR : KRd T σ) (hI : RI T σ) {P : Option wV → wSt → Prop} (kont : ∀ s, EIv T σ s (gv σ (T + 1) 8) → Bt E 40 63 [wr T, wr 6, wx, wx] [] s P) : ∀ (k : Nat) (s : wSt) (i : Int), EIv T σ s i → 0 ≤ i → i ≤ gv σ (T + 1) 8 → (gv σ (T + 1) 8 - i).toNat ≤ k → Bt E 40 41 [wr T, wr 6, wi i, wx] [] s P := by
  intro k
  induction k with
  | zero =>
    intro s i h1 h2 h3 hm
    have hRs : KRd T s := krd_off hR h1.1 (fun a e1 e2 e => by omega)
    have hIs : RI T s := ri_off hI h1.1 (fun a e1 e2 e => by omega)
    have h11 := tb_ge hT
    have e8 : gv s (T + 1) 8 = gv σ (T + 1) 8 := off_gv h1.1 (by omega)
    have h0 := hI.1
    refine B_rng 2 rfl (fun ha2 => ?_)
    refine B_iloadn rfl my_40 rfl ?_
    refine B_aloadn rfl my_40 rfl ?_
    refine B_ref hE.1 rfl my_40 rfl (r := (T + 1)) (wf_0_0 hT) ?_
    refine B_int hE.1 rfl my_40 rfl (wn_1_8 hT) (hRs _ (by omega) (by omega) _) (fun r1 => ?_)
    refine B_ic_ge rfl my_40 rfl (tgt := 63) (nx := 52) rfl rfl (fun c2 => ?_) (fun c2 => ?_)
    · refine B_loc (l' := [wr T, wr 6, wx, wx]) ⟨Or.inl rfl, Or.inl rfl, Or.inr rfl, Or.inr rfl, trivial⟩ ?_
      have e : i = gv σ (T + 1) 8 := by omega
      subst e
      exact kont _ h1
    · exact absurd hm (by omega)
  | succ k ih =>
    intro s i h1 h2 h3 hm
    have hRs : KRd T s := krd_off hR h1.1 (fun a e1 e2 e => by omega)
    have hIs : RI T s := ri_off hI h1.1 (fun a e1 e2 e => by omega)
    have h11 := tb_ge hT
    have e8 : gv s (T + 1) 8 = gv σ (T + 1) 8 := off_gv h1.1 (by omega)
    have h0 := hI.1
    refine B_rng 2 rfl (fun ha2 => ?_)
    refine B_iloadn rfl my_40 rfl ?_
    refine B_aloadn rfl my_40 rfl ?_
    refine B_ref hE.1 rfl my_40 rfl (r := (T + 1)) (wf_0_0 hT) ?_
    refine B_int hE.1 rfl my_40 rfl (wn_1_8 hT) (hRs _ (by omega) (by omega) _) (fun r1 => ?_)
    refine B_ic_ge rfl my_40 rfl (tgt := 63) (nx := 52) rfl rfl (fun c2 => ?_) (fun c2 => ?_)
    · refine B_loc (l' := [wr T, wr 6, wx, wx]) ⟨Or.inl rfl, Or.inl rfl, Or.inr rfl, Or.inr rfl, trivial⟩ ?_
      have e : i = gv σ (T + 1) 8 := by omega
      subst e
      exact kont _ h1
    · refine B_aloadn rfl my_40 rfl ?_
      refine B_iloadn rfl my_40 rfl ?_
      refine B_cV hE.1 rfl (wc_0 hT) cw_40_42 (as := [wi i]) (rest := []) rfl (Nat.le_of_ble_eq_true rfl) (g_nameCell hE hT hRs hIs h1.2.2.1 (by omega) (by omega)) (fun vo s9 hq => ?_)
      obtain ⟨rfl, kd, va, hn, rfl⟩ := hq
      show Bt E 40 57 [wr T, wr 6, wi i, wx] [] (pt (pt s (T + 25) 501 i kd) (T + 27) 501 i va) _
      refine B_iinc rfl my_40 (by decide) rfl rfl rfl (by omega) (by omega) (show _ = [wr T, wr 6, wi (i + 1), wx] from rfl) ?_
      refine B_goto rfl my_40 rfl (tgt := 41) rfl ?_
      exact ih _ _ (ei_step h1 h2 (by omega) hn) (by omega) (by omega) (by omega)
theorem t_settleD {E : mE} {σ : wSt} {T : Nat} (hE : wE E) (hT : Tb T) (hR : KRd T σ) (hI : RI T σ) {s : wSt} {P : Option wV → wSt → Prop} (hc2 : kr σ 7 3 2) (hv2 : -1 ≤ rd σ 7 3 2 ∧ rd σ 7 3 2 ≤ 1) (hsh : kn σ 6 2) (h1 : EIv T σ s (gv σ (T + 1) 8)) (kont : ∀ s, DIv T σ s → Bt E 40 100 [wr T, wr 6, wi 0, wx] [] s P) : Bt E 40 63 [wr T, wr 6, wx, wx] [] s P := by
  have hRs : KRd T s := krd_off hR h1.1 (fun a e1 e2 e => by omega)
  have hIs : RI T s := ri_off hI h1.1 (fun a e1 e2 e => by omega)
  have h11 := tb_ge hT
  have e8 : gv s (T + 1) 8 = gv σ (T + 1) 8 := off_gv h1.1 (by omega)
  have hKV : KVw T s (gv s (T + 1) 8) := by
    rw [e8]
    exact h1.2.2.2
  have e72 : rd s 7 3 2 = rd σ 7 3 2 := off_rd h1.1 (by omega)
  refine B_aloadn rfl my_40 rfl ?_
  refine B_aloadn rfl my_40 rfl ?_
  refine B_ref hE.1 rfl my_40 rfl (r := 7) rfl ?_
  refine B_iconst rfl my_40 (by decide) ?_
  refine B_cV hE.1 rfl nmc_7.1 cw_40_20 (as := [wi 2]) (rest := [wr T]) rfl (Nat.le_of_ble_eq_true rfl) (g_at hE nmc_7 (by decide) (off_kr h1.1 (by omega) hc2)) (fun vo s9 hq => ?_)
  obtain ⟨rfl, rfl⟩ := hq
  show Bt E 40 72 [wr T, wr 6, wx, wx] [wi (rd s 7 3 2), wr T] s _
  refine B_top (fun r1 => ?_)
  refine B_iconst rfl my_40 (by decide) ?_
  refine B_ic_ne rfl my_40 rfl (tgt := 87) (nx := 76) rfl rfl (fun c2 => ?_) (fun c2 => ?_)
  · refine B_aloadn rfl my_40 rfl ?_
    refine B_ref hE.1 rfl my_40 rfl (r := 7) rfl ?_
    refine B_iconst rfl my_40 (by decide) ?_
    refine B_cV hE.1 rfl nmc_7.1 cw_40_20 (as := [wi 2]) (rest := [wr T]) rfl (Nat.le_of_ble_eq_true rfl) (g_at hE nmc_7 (by decide) (off_kr h1.1 (by omega) hc2)) (fun vo s9 hq => ?_)
    obtain ⟨rfl, rfl⟩ := hq
    show Bt E 40 95 [wr T, wr 6, wx, wx] [wi (rd s 7 3 2), wr T] s _
    refine B_top (fun r3 => ?_)
    refine B_put hE.1 rfl my_40 rfl (wn_0_10 hT) (Or.inl rfl) ?_
    refine B_iconst rfl my_40 (by decide) ?_
    refine B_istoren rfl my_40 (by decide) rfl (show _ = [wr T, wr 6, wi 0, wx] from rfl) ?_
    exact kont _ (di_of h1 Off.rf (by omega))
  · refine B_aloadn rfl my_40 rfl ?_
    refine B_aloadn rfl my_40 rfl ?_
    refine B_int hE.1 rfl my_40 rfl rfl ((off_kn h1.1 (by omega)).mpr hsh) (fun r4 => ?_)
    refine B_cV hE.1 rfl (wc_0 hT) cw_40_43 (as := [wi (gv s 6 2)]) (rest := [wr T]) rfl (Nat.le_of_ble_eq_true rfl) (g_guessedHeading hE hT hRs hIs (kv_kk2 hKV) (kv_sk hKV)) (fun vo s1 hq => ?_)
    obtain ⟨x, rfl, hx, o1⟩ := hq
    show Bt E 40 84 [wr T, wr 6, wx, wx] [wi x, wr T] s1 _
    refine B_top (fun r5 => ?_)
    refine B_goto rfl my_40 rfl (tgt := 95) rfl ?_
    refine B_put hE.1 rfl my_40 rfl (wn_0_10 hT) (Or.inl rfl) ?_
    refine B_iconst rfl my_40 (by decide) ?_
    refine B_istoren rfl my_40 (by decide) rfl (show _ = [wr T, wr 6, wi 0, wx] from rfl) ?_
    exact kont _ (di_of h1 o1 hx)
theorem rpf_off {T : Nat} {σ s t : wSt} {c r : Int} {R : Nat → Prop} (h : RPf s t T c r) (ho : Off R σ s) (h1 : ∀ a, T ≤ a → a ≤ T + 15 → ¬ R a) (h2 : ¬ R (T + 26)) : RPf σ t T c r := by
  have ec : ∀ z, ca s T z c = ca σ T z c := fun z => ca_off ho (fun a a1 a2 => h1 a (by omega) a2)
  unfold RPf Ahd at h ⊢
  rw [ec, off_rd ho h2, off_gv ho (h1 _ (by omega) (by omega)), off_rd ho (h1 _ (by omega) (by omega))] at h
  obtain ⟨g1, g2, g3⟩ := h
  refine ⟨g1, g2, fun e => ?_⟩
  obtain ⟨g4, z, z1, z2, z3, z4⟩ := g3 e
  refine ⟨g4, z, z1, z2, ?_, ?_⟩
  · rw [← ec]; exact z3
  · rw [← ec, ← off_rd ho (h1 _ (by omega) (by omega))]; exact z4
def CIv (T : Nat) (σ s : wSt) (i : Int) : Prop := Off (Rg5 T) σ s ∧ (∀ c, 0 ≤ c → c < i → kr s (T + 31) 20 c) ∧ ∀ c, 0 ≤ c → c < i → ∀ r, gv σ T 10 ≤ r → r < gv σ (T + 1) 9 → ca σ T r c ≠ -1 → RPf σ s T c r
theorem ci_step {T : Nat} {σ s s1 s3 : wSt} {i x j : Int} (hI : RI T σ) (h : CIv T σ s i) (h0 : 0 ≤ i) (h1 : i < 20) (o1 : Off (fun a => a = T + 34) s s1) (hj : gv σ (T + 1) 9 ≤ j) (mq : MkR T (pt s1 (T + 31) 20 i x) s3 i j) : CIv T σ s3 (i + 1) := by
  obtain ⟨g1, g2, g3⟩ := h
  have o2 : Off (Rg5 T) σ (pt s1 (T + 31) 20 i x) := (g1.tr (o1.mono (fun a e => Or.inl e))).tr (off_pt (R := Rg5 T) (Or.inr (Or.inl rfl)))
  have o3 : Off (Rg5 T) σ s3 := o2.tr (mq.1.mono (fun a e => Or.inr (Or.inr e)))
  have eh : gv (pt s1 (T + 31) 20 i x) T 10 = gv σ T 10 := off_gv o2 (by omega)
  have ec : ∀ r c, ca (pt s1 (T + 31) 20 i x) T r c = ca σ T r c := fun r c => ca_off o2 (fun a e1 e2 e => by omega)
  refine ⟨o3, fun c c1 c2 => ?_, fun c c1 c2 r r1 r2 r3 => ?_⟩
  · refine off_kr mq.1 (by omega) ?_
    by_cases e : c = i
    · subst e
      exact kr_pt_eq
    · exact kr_pt (off_kr o1 (by omega) (g2 c c1 (by omega)))
  · by_cases e : c = i
    · subst e
      exact rpf_off (mq.2.2.1 r (by omega) (by omega) (by rw [ec]; exact r3)) o2 (fun a e1 e2 e => by omega) (by omega)
    · obtain ⟨f1, f2, f3⟩ := g3 c c1 (by omega) r r1 r2 r3
      have ex : rd s3 (T + 29) 501 (ca σ T r c) = rd s (T + 29) 501 (ca σ T r c) := by
        rw [mq.2.2.2 _ (fun q hq => by rw [ec] at hq ⊢; exact ca_ne hI (Or.inr e) r3 hq), rd_pt_ne (by omega)]
        exact off_rd o1 (by omega)
      refine ⟨fun k1 k2 => mq.2.1 _ (kn_pt ((off_kn o1 (by omega)).mpr (f1 k1 k2))), ?_, ?_⟩
      · rw [ex]; exact f2
      · rw [ex]; exact f3
theorem l_settleC {E : mE} {σ : wSt} {T : Nat} (hE : wE E) (hT : Tb T) (hR : KRd T σ) (hI : RI T σ) (hKV : KVw T σ (gv σ (T + 1) 8)) (hh : kn σ T 10) (hd : 0 ≤ gv σ T 10 ∧ gv σ T 10 ≤ 1) (hsh : kn σ 6 2) {P : Option wV → wSt → Prop} (kont : ∀ s, CIv T σ s (min (gv σ (T + 1) 12) 20) → Bt E 40 147 [wr T, wr 6, wx, wx] [] s P) : ∀ (k : Nat) (s : wSt) (i : Int), CIv T σ s i → 0 ≤ i → i ≤ min (gv σ (T + 1) 12) 20 → (20 - i).toNat ≤ k → Bt E 40 100 [wr T, wr 6, wi i, wx] [] s P := by
  intro k
  induction k with
  | zero =>
    intro s i h1 h2 h3 hm
    have hRs : KRd T s := krd_off hR h1.1 (fun a e1 e2 e => by omega)
    have hIs : RI T s := ri_off hI h1.1 (fun a e1 e2 e => by omega)
    have h11 := tb_ge hT
    have e12 : gv s (T + 1) 12 = gv σ (T + 1) 12 := off_gv h1.1 (by omega)
    have e10 : gv s T 10 = gv σ T 10 := off_gv h1.1 (by omega)
    have hKs : KVw T s (gv s (T + 1) 8) := by
      rw [off_gv h1.1 (by omega)]
      exact kv_off hKV h1.1 (by omega) (by omega) (by omega)
    have hu := hI.uw
    refine B_rng 2 rfl (fun ha2 => ?_)
    refine B_iloadn rfl my_40 rfl ?_
    refine B_aloadn rfl my_40 rfl ?_
    refine B_ref hE.1 rfl my_40 rfl (r := (T + 1)) (wf_0_0 hT) ?_
    refine B_cV hE.1 rfl (wc_1 hT) cw_40_33 (as := []) (rest := [wi i]) rfl (Nat.le_of_ble_eq_true rfl) (g_columnCount hE hT hRs) (fun vo s9 hq => ?_)
    obtain ⟨rfl, rfl⟩ := hq
    show Bt E 40 108 [wr T, wr 6, wi i, wx] [wi (min (gv s (T + 1) 12) 20), wi i] s _
    refine B_top (fun r1 => ?_)
    refine B_ic_ge rfl my_40 rfl (tgt := 147) (nx := 111) rfl rfl (fun c2 => ?_) (fun c2 => ?_)
    · refine B_loc (l' := [wr T, wr 6, wx, wx]) ⟨Or.inl rfl, Or.inl rfl, Or.inr rfl, Or.inr rfl, trivial⟩ ?_
      have e : i = min (gv σ (T + 1) 12) 20 := by omega
      rw [e] at h1
      exact kont _ h1
    · exact absurd hm (by omega)
  | succ k ih =>
    intro s i h1 h2 h3 hm
    have hRs : KRd T s := krd_off hR h1.1 (fun a e1 e2 e => by omega)
    have hIs : RI T s := ri_off hI h1.1 (fun a e1 e2 e => by omega)
    have h11 := tb_ge hT
    have e12 : gv s (T + 1) 12 = gv σ (T + 1) 12 := off_gv h1.1 (by omega)
    have e10 : gv s T 10 = gv σ T 10 := off_gv h1.1 (by omega)
    have hKs : KVw T s (gv s (T + 1) 8) := by
      rw [off_gv h1.1 (by omega)]
      exact kv_off hKV h1.1 (by omega) (by omega) (by omega)
    have hu := hI.uw
    refine B_rng 2 rfl (fun ha2 => ?_)
    refine B_iloadn rfl my_40 rfl ?_
    refine B_aloadn rfl my_40 rfl ?_
    refine B_ref hE.1 rfl my_40 rfl (r := (T + 1)) (wf_0_0 hT) ?_
    refine B_cV hE.1 rfl (wc_1 hT) cw_40_33 (as := []) (rest := [wi i]) rfl (Nat.le_of_ble_eq_true rfl) (g_columnCount hE hT hRs) (fun vo s9 hq => ?_)
    obtain ⟨rfl, rfl⟩ := hq
    show Bt E 40 108 [wr T, wr 6, wi i, wx] [wi (min (gv s (T + 1) 12) 20), wi i] s _
    refine B_top (fun r1 => ?_)
    refine B_ic_ge rfl my_40 rfl (tgt := 147) (nx := 111) rfl rfl (fun c2 => ?_) (fun c2 => ?_)
    · refine B_loc (l' := [wr T, wr 6, wx, wx]) ⟨Or.inl rfl, Or.inl rfl, Or.inr rfl, Or.inr rfl, trivial⟩ ?_
      have e : i = min (gv σ (T + 1) 12) 20 := by omega
      rw [e] at h1
      exact kont _ h1
    · refine B_aloadn rfl my_40 rfl ?_
      refine B_iloadn rfl my_40 rfl ?_
      refine B_aloadn rfl my_40 rfl ?_
      refine B_int hE.1 rfl my_40 rfl (wn_0_10 hT) ((off_kn h1.1 (by omega)).mpr hh) (fun r3 => ?_)
      refine B_cV hE.1 rfl (wc_0 hT) cw_40_44 (as := [wi i, wi (gv s T 10)]) (rest := []) rfl (Nat.le_of_ble_eq_true rfl) (g_tallyKinds hE hT hRs hIs (kv_kk2 hKs) (kv_sk hKs) (by omega) (by omega)) (fun vo s1 hq => ?_)
      obtain ⟨rfl, ty1⟩ := hq
      have hy1 := ty_yk hIs (by omega) ty1
      show Bt E 40 120 [wr T, wr 6, wi i, wx] [] s1 _
      refine B_aloadn rfl my_40 rfl ?_
      refine B_ref hE.1 rfl my_40 rfl (r := (T + 31)) (wf_0_6 hT) ?_
      refine B_iloadn rfl my_40 rfl ?_
      refine B_aloadn rfl my_40 rfl ?_
      refine B_aloadn rfl my_40 rfl ?_
      refine B_int hE.1 rfl my_40 rfl rfl ((off_kn ty1.1 (by omega)).mpr ((off_kn h1.1 (by omega)).mpr hsh)) (fun r4 => ?_)
      refine B_cV hE.1 rfl (wc_0 hT) cw_40_46 (as := [wi (gv s1 6 2)]) (rest := [wi i, wr (T + 31)]) rfl (Nat.le_of_ble_eq_true rfl) (g_talliedKind hE hT hy1) (fun vo s9 hq => ?_)
      obtain ⟨x5, rfl, hz6, rfl⟩ := hq
      show Bt E 40 133 [wr T, wr 6, wi i, wx] [wi x5, wi i, wr (T + 31)] s1 _
      refine B_top (fun r7 => ?_)
      refine B_cV hE.1 rfl (nm_31 hT).1 cw_40_21 (as := [wi i, wi x5]) (rest := []) rfl (Nat.le_of_ble_eq_true rfl) (g_put hE (nm_31 hT) (by decide)) (fun vo s9 hq => ?_)
      obtain ⟨rfl, rfl⟩ := hq
      show Bt E 40 136 [wr T, wr 6, wi i, wx] [] (pt s1 (T + 31) 20 i x5) _
      refine B_aloadn rfl my_40 rfl ?_
      refine B_iloadn rfl my_40 rfl ?_
      have o2 : Off (Rg5 T) σ (pt s1 (T + 31) 20 i x5) := (h1.1.tr (ty1.1.mono (fun a e => Or.inl e))).tr (off_pt (R := Rg5 T) (Or.inr (Or.inl rfl)))
      have hK2 : KVw T (pt s1 (T + 31) 20 i x5) (gv (pt s1 (T + 31) 20 i x5) (T + 1) 8) := by
        rw [off_gv o2 (by omega)]
        exact kv_off hKV o2 (by omega) (by omega) (by omega)
      have e10b : gv (pt s1 (T + 31) 20 i x5) T 10 = gv σ T 10 := off_gv o2 (by omega)
      have e9b : gv (pt s1 (T + 31) 20 i x5) (T + 1) 9 = gv σ (T + 1) 9 := off_gv o2 (by omega)
      refine B_cV hE.1 rfl (wc_0 hT) cw_40_47 (as := [wi i]) (rest := []) rfl (Nat.le_of_ble_eq_true rfl) (g_markRepeats hE hT (krd_off hR o2 (fun a e1 e2 e => by omega)) (ri_off hI o2 (fun a e1 e2 e => by omega)) (kv_kk2 hK2) (kv_sk hK2) ((off_kn o2 (by omega)).mpr hh) (by omega)) (fun vo s3 hq => ?_)
      obtain ⟨rfl, j, hj, mq⟩ := hq
      show Bt E 40 141 [wr T, wr 6, wi i, wx] [] s3 _
      refine B_iinc rfl my_40 (by decide) rfl rfl rfl (by omega) (by omega) (show _ = [wr T, wr 6, wi (i + 1), wx] from rfl) ?_
      refine B_goto rfl my_40 rfl (tgt := 100) rfl ?_
      exact ih _ _ (ci_step hI h1 h2 (by omega) ty1.1 (by omega) mq) (by omega) (by omega) (by omega)
/-- what is kept, up to a row -/
def KPi (T : Nat) (σ : wSt) (i : Int) : Prop := kn σ T 11 ∧ 0 ≤ gv σ T 11 ∧ gv σ T 11 ≤ i ∧ (∀ q, 0 ≤ q → q < gv σ T 11 → kr σ (T + 23) 60 q ∧ (gv σ T 10 ≤ rd σ (T + 23) 60 q ∧ rd σ (T + 23) 60 q < i ∧ rd σ (T + 14) 60 (rd σ (T + 23) 60 q) = gv σ (T + 1) 12) ∧ ∀ k, 0 ≤ k → k < gv σ (T + 16) 3 → rd σ (T + 17) 561 k ≠ rd σ (T + 23) 60 q) ∧ ∀ q, 0 < q → q < gv σ T 11 → rd σ (T + 23) 60 (q - 1) < rd σ (T + 23) 60 q
theorem kp_up {T : Nat} {σ : wSt} {i j : Int} (h : KPi T σ i) (hij : i ≤ j) : KPi T σ j := by
  obtain ⟨h1, h2, h3, h4, h5⟩ := h
  refine ⟨h1, h2, by omega, fun q q1 q2 => ?_, h5⟩
  obtain ⟨g1, g2, g3⟩ := h4 q q1 q2
  exact ⟨g1, ⟨g2.1, by omega, g2.2.2⟩, g3⟩
theorem kp_ff {T : Nat} {σ t : wSt} {i : Int} (h : KPi T σ i) (ho : Off (Rfl T) σ t) (hf : Frw T σ t i) : KPi T t i := by
  obtain ⟨h1, h2, h3, h4, h5⟩ := h
  have e11 : gv t T 11 = gv σ T 11 := off_gv ho (fun e => by have := e.1; omega)
  have ek : ∀ q, rd t (T + 23) 60 q = rd σ (T + 23) 60 q := fun q => off_rd ho (fun e => by have := e.2; omega)
  refine ⟨(off_kn ho (fun e => by have := e.1; omega)).mpr h1, by omega, by omega, fun q q1 q2 => ?_, fun q q1 q2 => ?_⟩
  · obtain ⟨g1, g2, g3⟩ := h4 q q1 (by omega)
    refine ⟨off_kr ho (fun e => by have := e.2; omega) g1, ?_, fun k k1 k2 => ?_⟩
    · rw [ek, off_gv ho (fun e => by have := e.1; omega), off_gv ho (fun e => by have := e.1; omega), off_rd ho (fun e => by have := e.1; omega)]
      exact g2
    · rw [ek]
      by_cases e : k < gv σ (T + 16) 3
      · rw [hf.1 k e]
        exact g3 k k1 e
      · rw [hf.2 k (by omega) k2]
        omega
  · rw [ek, ek]
    exact h5 q q1 (by omega)
theorem kp_new {T : Nat} {σ : wSt} {i : Int} (h : KPi T σ i) (hf : ∀ k, 0 ≤ k → k < gv σ (T + 16) 3 → rd σ (T + 17) 561 k ≠ i) (hw : rd σ (T + 14) 60 i = gv σ (T + 1) 12) (hh : gv σ T 10 ≤ i) (h6 : gv σ T 11 < 60) : KPi T (wup (pt σ (T + 23) 60 (gv σ T 11) i) T 11 (gv σ T 11 + 1)) (i + 1) := by
  obtain ⟨h1, h2, h3, h4, h5⟩ := h
  have o : Off (fun a => a = T ∨ a = T + 24) σ (wup (pt σ (T + 23) 60 (gv σ T 11) i) T 11 (gv σ T 11 + 1)) := (off_pt (R := fun a => a = T ∨ a = T + 24) (Or.inr rfl)).tr (off_wup (R := fun a => a = T ∨ a = T + 24) (Or.inl rfl))
  have e10 : gv (wup (pt σ (T + 23) 60 (gv σ T 11) i) T 11 (gv σ T 11 + 1)) T 10 = gv σ T 10 := by
    rw [gv_ne (fun e => absurd e.2 (by decide)), gv_pt (by omega)]
  refine ⟨kn_eq, by rw [gv_eq]; omega, by rw [gv_eq]; omega, fun q q1 q2 => ?_, fun q q1 q2 => ?_⟩
  · rw [gv_eq] at q2
    rw [e10, off_gv o (by omega), off_gv o (by omega), rd_wup (by omega)]
    by_cases e : q = gv σ T 11
    · subst e
      rw [rd_pt_eq (by omega) (by omega), off_rd o (by omega)]
      exact ⟨kr_wup kr_pt_eq, ⟨hh, by omega, hw⟩, fun k k1 k2 => by rw [off_rd o (by omega)]; exact hf k k1 k2⟩
    · obtain ⟨g1, g2, g3⟩ := h4 q q1 (by omega)
      rw [rd_pt_nk e, off_rd o (by omega)]
      exact ⟨kr_wup (kr_pt g1), ⟨g2.1, by omega, g2.2.2⟩, fun k k1 k2 => by rw [off_rd o (by omega)]; exact g3 k k1 k2⟩
  · rw [gv_eq] at q2
    rw [rd_wup (by omega), rd_wup (by omega), rd_pt_nk (show q - 1 ≠ gv σ T 11 by omega)]
    by_cases e : q = gv σ T 11
    · subst e
      rw [rd_pt_eq (by omega) (by omega)]
      exact (h4 (gv σ T 11 - 1) (by omega) (by omega)).2.1.2.1
    · rw [rd_pt_nk e]
      exact h5 q q1 (by omega)
def AIv (T : Nat) (σ s : wSt) (i : Int) : Prop := Off (Rg6 T) σ s ∧ (∀ b, b ≠ 11 → s T b = σ T b) ∧ FIv T s i ∧ (i < gv σ (T + 1) 9 → gv s (T + 16) 3 ≤ i + rd σ (T + 12) 60 i) ∧ KPi T s i
theorem l_settleA {E : mE} {σ : wSt} {T : Nat} (hE : wE E) (hT : Tb T) (hR : KRd T σ) (hI : RI T σ) (hKV : KVw T σ (gv σ (T + 1) 8)) (hh : kn σ T 10) (hd : 0 ≤ gv σ T 10 ∧ gv σ T 10 ≤ 1) (hck : ∀ c, 0 ≤ c → c < min (gv σ (T + 1) 12) 20 → kr σ (T + 31) 20 c) (hrp : ∀ r c, gv σ T 10 ≤ r → r < gv σ (T + 1) 9 → 0 ≤ c → c < min (gv σ (T + 1) 12) 20 → ca σ T r c ≠ -1 → kr σ (T + 29) 501 (ca σ T r c)) (hrl : ∀ c, kr σ 9 20 c) {P : Option wV → wSt → Prop} (kont : ∀ t i, AIv T σ t i → gv σ (T + 1) 9 ≤ i → (i ≤ gv σ (T + 1) 9 ∨ i = gv σ T 10) → P none (wup t T 12 1)) : ∀ (k : Nat) (s : wSt) (i : Int), AIv T σ s i → 0 ≤ i → (i ≤ gv σ (T + 1) 9 ∨ i = gv σ T 10) → gv σ T 10 ≤ i → (gv σ (T + 1) 9 - i).toNat ≤ k → Bt E 40 165 [wr T, wr 6, wi i, wx] [] s P := by
  intro k
  induction k with
  | zero =>
    intro s i h1 h2 h3 h4 hm
    have hRs : KRd T s := krd_off hR h1.1 (fun a e1 e2 e => by omega)
    have hIs : RI T s := ri_off hI h1.1 (fun a e1 e2 e => by omega)
    have h11 := tb_ge hT
    have e9 : gv s (T + 1) 9 = gv σ (T + 1) 9 := off_gv h1.1 (by omega)
    have e12 : gv s (T + 1) 12 = gv σ (T + 1) 12 := off_gv h1.1 (by omega)
    have e10 : gv s T 10 = gv σ T 10 := by
      unfold gv
      rw [h1.2.1 10 (by decide)]
    have hKs : KVw T s (gv s (T + 1) 8) := by
      rw [off_gv h1.1 (by omega)]
      exact kv_off hKV h1.1 (by omega) (by omega) (by omega)
    have hcks : ∀ c, 0 ≤ c → c < min (gv s (T + 1) 12) 20 → kr s (T + 31) 20 c := fun c c1 c2 => off_kr h1.1 (by omega) (hck c c1 (by rw [← e12]; exact c2))
    have hrps : ∀ r c, gv s T 10 ≤ r → r < gv s (T + 1) 9 → 0 ≤ c → c < min (gv s (T + 1) 12) 20 → ca s T r c ≠ -1 → kr s (T + 29) 501 (ca s T r c) := fun r c q1 q2 q3 q4 q5 => by
      rw [ca_off h1.1 (fun a e1 e2 e => by omega)] at q5 ⊢
      exact off_kr h1.1 (by omega) (hrp r c (by omega) (by omega) q3 (by omega) q5)
    have hrls : ∀ c, kr s 9 20 c := fun c => off_kr h1.1 (by omega) (hrl c)
    have h0 := hI.1
    refine B_rng 2 rfl (fun ha2 => ?_)
    refine B_iloadn rfl my_40 rfl ?_
    refine B_aloadn rfl my_40 rfl ?_
    refine B_ref hE.1 rfl my_40 rfl (r := (T + 1)) (wf_0_0 hT) ?_
    refine B_int hE.1 rfl my_40 rfl (wn_1_9 hT) (hRs _ (by omega) (by omega) _) (fun r1 => ?_)
    refine B_ic_ge rfl my_40 rfl (tgt := 212) (nx := 176) rfl rfl (fun c2 => ?_) (fun c2 => ?_)
    · refine B_aloadn rfl my_40 rfl ?_
      refine B_iconst rfl my_40 (by decide) ?_
      refine B_put hE.1 rfl my_40 rfl (wn_0_12 hT) (Or.inr ⟨rfl, Or.inr rfl⟩) ?_
      refine B_ret rfl my_40 rfl ?_
      exact kont _ _ h1 (by omega) h3
    · exact absurd hm (by omega)
  | succ k ih =>
    intro s i h1 h2 h3 h4 hm
    have hRs : KRd T s := krd_off hR h1.1 (fun a e1 e2 e => by omega)
    have hIs : RI T s := ri_off hI h1.1 (fun a e1 e2 e => by omega)
    have h11 := tb_ge hT
    have e9 : gv s (T + 1) 9 = gv σ (T + 1) 9 := off_gv h1.1 (by omega)
    have e12 : gv s (T + 1) 12 = gv σ (T + 1) 12 := off_gv h1.1 (by omega)
    have e10 : gv s T 10 = gv σ T 10 := by
      unfold gv
      rw [h1.2.1 10 (by decide)]
    have hKs : KVw T s (gv s (T + 1) 8) := by
      rw [off_gv h1.1 (by omega)]
      exact kv_off hKV h1.1 (by omega) (by omega) (by omega)
    have hcks : ∀ c, 0 ≤ c → c < min (gv s (T + 1) 12) 20 → kr s (T + 31) 20 c := fun c c1 c2 => off_kr h1.1 (by omega) (hck c c1 (by rw [← e12]; exact c2))
    have hrps : ∀ r c, gv s T 10 ≤ r → r < gv s (T + 1) 9 → 0 ≤ c → c < min (gv s (T + 1) 12) 20 → ca s T r c ≠ -1 → kr s (T + 29) 501 (ca s T r c) := fun r c q1 q2 q3 q4 q5 => by
      rw [ca_off h1.1 (fun a e1 e2 e => by omega)] at q5 ⊢
      exact off_kr h1.1 (by omega) (hrp r c (by omega) (by omega) q3 (by omega) q5)
    have hrls : ∀ c, kr s 9 20 c := fun c => off_kr h1.1 (by omega) (hrl c)
    have h0 := hI.1
    refine B_rng 2 rfl (fun ha2 => ?_)
    refine B_iloadn rfl my_40 rfl ?_
    refine B_aloadn rfl my_40 rfl ?_
    refine B_ref hE.1 rfl my_40 rfl (r := (T + 1)) (wf_0_0 hT) ?_
    refine B_int hE.1 rfl my_40 rfl (wn_1_9 hT) (hRs _ (by omega) (by omega) _) (fun r1 => ?_)
    refine B_ic_ge rfl my_40 rfl (tgt := 212) (nx := 176) rfl rfl (fun c2 => ?_) (fun c2 => ?_)
    · refine B_aloadn rfl my_40 rfl ?_
      refine B_iconst rfl my_40 (by decide) ?_
      refine B_put hE.1 rfl my_40 rfl (wn_0_12 hT) (Or.inr ⟨rfl, Or.inr rfl⟩) ?_
      refine B_ret rfl my_40 rfl ?_
      exact kont _ _ h1 (by omega) h3
    · refine B_aloadn rfl my_40 rfl ?_
      refine B_ref hE.1 rfl my_40 rfl (r := (T + 16)) (wf_0_1 hT) ?_
      refine B_int hE.1 rfl my_40 rfl (wn_16_3 hT) h1.2.2.1.1 (fun r3 => ?_)
      refine B_istoren rfl my_40 (by decide) rfl (show _ = [wr T, wr 6, wi i, wi (gv s (T + 16) 3)] from rfl) ?_
      refine B_aloadn rfl my_40 rfl ?_
      refine B_aloadn rfl my_40 rfl ?_
      refine B_iloadn rfl my_40 rfl ?_
      refine B_cV hE.1 rfl (wc_0 hT) cw_40_49 (as := [wr 6, wi i]) (rest := []) rfl (Nat.le_of_ble_eq_true rfl) (g_findFaults hE hT hRs hIs (kv_kk2 hKs) hcks hrps hrls h2 (by omega) (by omega) (by rw [off_rd h1.1 (by omega)]; exact h1.2.2.2.1 (by omega)) h1.2.2.1) (fun vo s1 hq => ?_)
      obtain ⟨rfl, of, f1, f2, f3, f4, f5⟩ := hq
      have kp1 := kp_ff h1.2.2.2.2 of f5
      show Bt E 40 190 [wr T, wr 6, wi i, wi (gv s (T + 16) 3)] [] s1 _
      refine B_aloadn rfl my_40 rfl ?_
      refine B_ref hE.1 rfl my_40 rfl (r := (T + 16)) (wf_0_1 hT) ?_
      refine B_int hE.1 rfl my_40 rfl (wn_16_3 hT) f1.1 (fun r4 => ?_)
      refine B_iloadn rfl my_40 rfl ?_
      refine B_ic_ne rfl my_40 rfl (tgt := 206) (nx := 201) rfl rfl (fun c5 => ?_) (fun c5 => ?_)
      · refine B_iinc rfl my_40 (by decide) rfl rfl rfl (by omega) (by omega) (show _ = [wr T, wr 6, wi (i + 1), wi (gv s (T + 16) 3)] from rfl) ?_
        refine B_goto rfl my_40 rfl (tgt := 165) rfl ?_
        refine B_loc (l' := [wr T, wr 6, wi (i + 1), wx]) ⟨Or.inl rfl, Or.inl rfl, Or.inl rfl, Or.inr rfl, trivial⟩ ?_
        have a1 : AIv T σ s1 (i + 1) := by
          refine ⟨h1.1.tr (of.mono (fun a e => Or.inr (Or.inl e))), fun b hb => ?_, f1, fun g => ?_, kp_up kp1 (by omega)⟩
          · rw [of T (fun e => by have := e.1; omega)]
            exact h1.2.1 b hb
          · have g9 := hI.2.2.2.1.2 (i + 1) i h2 (by omega) g
            have g8 := h1.2.2.2.1 (by omega)
            have gw : rd s (T + 14) 60 i = rd σ (T + 14) 60 i := off_rd h1.1 (by omega)
            rw [gw] at f3
            omega
        exact ih _ _ a1 (by omega) (by omega) (by omega) (by omega)
      · refine B_aloadn rfl my_40 rfl ?_
        refine B_iloadn rfl my_40 rfl ?_
        refine B_cV hE.1 rfl (wc_0 hT) cw_40_52 (as := [wi i]) (rest := []) rfl (Nat.le_of_ble_eq_true rfl) (g_keepOnce hE hT (krd_off hRs of (fun a e1 e2 e => by have := e.1; omega)) (ri_off hIs of (fun a e1 e2 e => by have := e.1; omega)) kp1.1 (fun q q1 q2 => (kp1.2.2.2.1 q q1 q2).1) kp1.2.1 (by have := kp1.2.2.1; omega)) (fun vo s2 hq => ?_)
        obtain ⟨rfl, hk2⟩ := hq
        show Bt E 40 206 [wr T, wr 6, wi i, wi (gv s (T + 16) 3)] [] s2 _
        refine B_iinc rfl my_40 (by decide) rfl rfl rfl (by omega) (by omega) (show _ = [wr T, wr 6, wi (i + 1), wi (gv s (T + 16) 3)] from rfl) ?_
        refine B_goto rfl my_40 rfl (tgt := 165) rfl ?_
        refine B_loc (l' := [wr T, wr 6, wi (i + 1), wx]) ⟨Or.inl rfl, Or.inl rfl, Or.inl rfl, Or.inr rfl, trivial⟩ ?_
        have a1 : AIv T σ s1 (i + 1) := by
          refine ⟨h1.1.tr (of.mono (fun a e => Or.inr (Or.inl e))), fun b hb => ?_, f1, fun g => ?_, kp_up kp1 (by omega)⟩
          · rw [of T (fun e => by have := e.1; omega)]
            exact h1.2.1 b hb
          · have g9 := hI.2.2.2.1.2 (i + 1) i h2 (by omega) g
            have g8 := h1.2.2.2.1 (by omega)
            have gw : rd s (T + 14) 60 i = rd σ (T + 14) 60 i := off_rd h1.1 (by omega)
            rw [gw] at f3
            omega
        rcases hk2 with rfl | rfl
        · exact ih _ _ a1 (by omega) (by omega) (by omega) (by omega)
        · refine ih _ _ ?_ (by omega) (by omega) (by omega) (by omega)
          have o2 : Off (fun a => a = T ∨ a = T + 24) s1 (wup (pt s1 (T + 23) 60 (gv s1 T 11) i) T 11 (gv s1 T 11 + 1)) := (off_pt (R := fun a => a = T ∨ a = T + 24) (Or.inr rfl)).tr (off_wup (R := fun a => a = T ∨ a = T + 24) (Or.inl rfl))
          have e10b : gv s1 T 10 = gv s T 10 := off_gv of (fun e => by have := e.1; omega)
          refine ⟨a1.1.tr (o2.mono (fun a e => by omega)), fun b hb => ?_, ?_, fun g => ?_, ?_⟩
          · rw [wup_ne (fun e => hb e.2)]
            have hz : pt s1 (T + 23) 60 (gv s1 T 11) i T b = s1 T b := (off_pt (R := fun a => a = T + 24) rfl) T (by omega) b
            rw [hz]
            exact a1.2.1 b hb
          · refine fi_off f1 o2 ?_ (by omega) (fun a e1 e2 e => by omega)
            rw [gv_ne (fun e => absurd e.2 (by decide)), gv_pt (by omega)]
          · rw [off_gv o2 (by omega)]
            exact a1.2.2.2.1 g
          · have hw9 := f4 (by omega)
            refine kp_new kp1 (fun k k1 k2 => ?_) ?_ (by omega) (by have := kp1.2.2.1; omega)
            · rw [f5.1 k (by omega)]
              have := (h1.2.2.1.2.2.1 k k1 (by omega)).2.1
              omega
            · rw [off_rd of (fun e => by have := e.1; omega), off_gv of (fun e => by have := e.1; omega)]
              exact hw9
