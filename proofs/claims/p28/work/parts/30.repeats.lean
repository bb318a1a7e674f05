/-! ===== Table: the heading, repeats ===== -/
theorem cw_43_20 : wcV 43 0 20 1 1 1 = true := by decide +kernel
theorem cw_43_33 : wcV 43 0 33 2 0 0 = true := by decide +kernel
theorem cw_43_35 : wcV 43 0 35 2 1 1 = true := by decide +kernel
theorem cw_43_36 : wcV 43 0 36 2 2 2 = true := by decide +kernel
theorem cw_43_44 : wcV 43 0 44 3 2 2 = true := by decide +kernel
theorem cw_43_46 : wcV 43 0 46 3 1 1 = true := by decide +kernel
theorem cw_47_20 : wcV 47 0 20 1 1 1 = true := by decide +kernel
theorem cw_47_21 : wcV 47 0 21 1 2 2 = true := by decide +kernel
theorem cw_47_36 : wcV 47 0 36 2 2 2 = true := by decide +kernel
theorem cw_47_48 : wcV 47 0 48 3 3 3 = true := by decide +kernel
theorem cw_48_36 : wcV 48 0 36 2 2 2 = true := by decide +kernel
theorem cw_48_37 : wcV 48 0 37 2 2 2 = true := by decide +kernel
theorem kk_off {T : Nat} {σ s : wSt} {R : Nat → Prop} (h : KK T σ) (ho : Off R σ s) (h1 : ¬ R (T + 1)) (h2 : ¬ R (T + 26)) : KK T s := fun c c1 c2 => off_kr ho h2 (h c c1 (by rwa [off_gv ho h1] at c2))
theorem sk_off {T : Nat} {σ s : wSt} {R : Nat → Prop} (h : SK T σ) (ho : Off R σ s) (h1 : ¬ R (T + 1)) (h2 : ¬ R (T + 26)) (h3 : ¬ R (T + 7)) : SK T s := fun c c1 c2 => by
  rw [off_gv ho h1] at c2
  rw [off_rd ho h2, off_rd ho h3]
  exact h c c1 c2
theorem kr_ca {T : Nat} {σ : wSt} {r c : Int} (hI : RI T σ) (hk : KK T σ) : kr σ (T + 25) 501 (ca σ T r c) := fun h1 h2 => by
  rcases ca_c hI (r := r) (c := c) with g | ⟨g, g1, g2, g3⟩
  · omega
  · exact hk _ g2 g3 h1 h2
/-- cells of a later row stand behind -/
theorem ca_lt {T : Nat} {σ : wSt} {r z c d : Int} (hI : RI T σ) (hz : z < r) (h1 : ca σ T z d ≠ -1) (h2 : ca σ T r c ≠ -1) : ca σ T z d < ca σ T r c := by
  obtain ⟨g, g1, g2, g3⟩ := (ca_c hI (r := z) (c := d)).resolve_left (fun e => h1 e.1)
  obtain ⟨f, f1, f2, f3⟩ := (ca_c hI (r := r) (c := c)).resolve_left (fun e => h2 e.1)
  have h3 := hI.2.2.2.1.2 r z (by omega) hz (by omega)
  omega
theorem ca_ne {T : Nat} {σ : wSt} {r z c d : Int} (hI : RI T σ) (hz : z ≠ r ∨ d ≠ c) (h1 : ca σ T z d ≠ -1) (h2 : ca σ T r c ≠ -1) : ca σ T z d ≠ ca σ T r c := by
  rcases (show z < r ∨ z = r ∨ r < z by omega) with h | h | h
  · have := ca_lt hI h h1 h2; omega
  · subst h
    obtain ⟨g, g1, g2, g3⟩ := (ca_c hI (r := z) (c := d)).resolve_left (fun e => h1 e.1)
    obtain ⟨f, f1, f2, f3⟩ := (ca_c hI (r := z) (c := c)).resolve_left (fun e => h2 e.1)
    omega
  · have := ca_lt hI h h2 h1; omega
/-- a cell ahead in the column has as many signs as x -/
def Ahd (σ : wSt) (T : Nat) (c r x : Int) : Prop := ∃ z, gv σ T 10 ≤ z ∧ z < r ∧ ca σ T z c ≠ -1 ∧ rd σ (T + 6) 501 (ca σ T z c) = rd σ (T + 6) 501 x
/-- a mark of a repeat, rightly set -/
def RPf (σ s : wSt) (T : Nat) (c r : Int) : Prop := kr s (T + 29) 501 (ca σ T r c) ∧ (rd s (T + 29) 501 (ca σ T r c) = 0 ∨ rd s (T + 29) 501 (ca σ T r c) = 1) ∧ (rd s (T + 29) 501 (ca σ T r c) = 1 → rd σ (T + 25) 501 (ca σ T r c) ≠ 0 ∧ Ahd σ T c r (ca σ T r c))
/-- the repeats of a column are marked, up to a row; marks of other cells are as they were -/
def MkR (T : Nat) (σ s : wSt) (c i : Int) : Prop := Off (fun a => a = T + 30) σ s ∧ (∀ b, kn σ (T + 30) b → kn s (T + 30) b) ∧ (∀ r, gv σ T 10 ≤ r → r < i → ca σ T r c ≠ -1 → RPf σ s T c r) ∧ ∀ x, (∀ r, ca σ T r c ≠ -1 → x ≠ ca σ T r c) → rd s (T + 29) 501 x = rd σ (T + 29) 501 x
theorem mq_step {T : Nat} {σ s : wSt} {c i b : Int} (hI : RI T σ) (h : MkR T σ s c i) (hc : ca σ T i c ≠ -1) (hb : b = 0 ∨ b = 1) (h1 : b = 1 → rd σ (T + 25) 501 (ca σ T i c) ≠ 0 ∧ Ahd σ T c i (ca σ T i c)) : MkR T σ (pt s (T + 29) 501 (ca σ T i c) b) c (i + 1) := by
  obtain ⟨h2, h3, h4, h5⟩ := h
  refine ⟨h2.tr (off_pt (R := fun a => a = T + 30) rfl), fun q hq => kn_pt (h3 q hq), fun r r1 r2 r3 => ?_, fun x hx => ?_⟩
  · by_cases e : r = i
    · subst e
      have hv := ca_c hI (r := r) (c := c)
      have h0 := hI.1
      refine ⟨kr_pt_eq, ?_, ?_⟩
      · rw [rd_pt_eq (by omega) (by omega)]; exact hb
      · rw [rd_pt_eq (by omega) (by omega)]; exact h1
    · obtain ⟨g1, g2, g3⟩ := h4 r r1 (by omega) r3
      have hne := ca_ne hI (Or.inl e) r3 hc
      refine ⟨kr_pt g1, ?_, ?_⟩
      · rw [rd_pt_nk hne]; exact g2
      · rw [rd_pt_nk hne]; exact g3
  · rw [rd_pt_nk (hx i hc)]
    exact h5 x hx
theorem mq_skip {T : Nat} {σ s : wSt} {c i : Int} (h : MkR T σ s c i) (hc : ca σ T i c = -1) : MkR T σ s c (i + 1) := by
  obtain ⟨h2, h3, h4, h5⟩ := h
  refine ⟨h2, h3, fun r r1 r2 r3 => ?_, h5⟩
  by_cases e : r = i
  · subst e
    exact absurd hc r3
  · exact h4 r r1 (by omega) r3
theorem l_heading2 {E : mE} {σ : wSt} {T : Nat} (hE : wE E) (hT : Tb T) (hR : KRd T σ) (hI : RI T σ) (hk : KK T σ) (hs : SK T σ) {q : Int} : ∀ (k : Nat) (s : wSt) (i : Int), Off (fun a => a = T + 34) σ s → 0 ≤ i → i ≤ 20 → (20 - i).toNat ≤ k → Bt E 43 78 [wr T, wi q, wi i, wx] [] s (fun vo t => ∃ x, vo = some (wi x) ∧ (x = 0 ∨ x = 1) ∧ Off (fun a => a = T + 34) σ t) := by
  intro k
  induction k with
  | zero =>
    intro s i h1 h2 h3 hm
    have hRs : KRd T s := krd_off hR h1 (fun a e1 e2 e => by omega)
    have hIs : RI T s := ri_off hI h1 (fun a e1 e2 e => by omega)
    refine B_rng 1 rfl (fun ha1 => ?_)
    refine B_rng 2 rfl (fun ha2 => ?_)
    refine B_iloadn rfl my_43 rfl ?_
    refine B_aloadn rfl my_43 rfl ?_
    refine B_ref hE.1 rfl my_43 rfl (r := (T + 1)) (wf_0_0 hT) ?_
    refine B_cV hE.1 rfl (wc_1 hT) cw_43_33 (as := []) (rest := [wi i]) rfl (Nat.le_of_ble_eq_true rfl) (g_columnCount hE hT hRs) (fun vo s9 hq => ?_)
    obtain ⟨rfl, rfl⟩ := hq
    show Bt E 43 86 [wr T, wi q, wi i, wx] [wi (min (gv s (T + 1) 12) 20), wi i] s _
    refine B_top (fun r1 => ?_)
    refine B_ic_ge rfl my_43 rfl (tgt := 118) (nx := 89) rfl rfl (fun c2 => ?_) (fun c2 => ?_)
    · refine B_iconst rfl my_43 (by decide) ?_
      refine B_iret rfl my_43 rfl ?_
      exact ⟨_, rfl, by omega, h1⟩
    · exact absurd hm (by omega)
  | succ k ih =>
    intro s i h1 h2 h3 hm
    have hRs : KRd T s := krd_off hR h1 (fun a e1 e2 e => by omega)
    have hIs : RI T s := ri_off hI h1 (fun a e1 e2 e => by omega)
    refine B_rng 1 rfl (fun ha1 => ?_)
    refine B_rng 2 rfl (fun ha2 => ?_)
    refine B_iloadn rfl my_43 rfl ?_
    refine B_aloadn rfl my_43 rfl ?_
    refine B_ref hE.1 rfl my_43 rfl (r := (T + 1)) (wf_0_0 hT) ?_
    refine B_cV hE.1 rfl (wc_1 hT) cw_43_33 (as := []) (rest := [wi i]) rfl (Nat.le_of_ble_eq_true rfl) (g_columnCount hE hT hRs) (fun vo s9 hq => ?_)
    obtain ⟨rfl, rfl⟩ := hq
    show Bt E 43 86 [wr T, wi q, wi i, wx] [wi (min (gv s (T + 1) 12) 20), wi i] s _
    refine B_top (fun r1 => ?_)
    refine B_ic_ge rfl my_43 rfl (tgt := 118) (nx := 89) rfl rfl (fun c2 => ?_) (fun c2 => ?_)
    · refine B_iconst rfl my_43 (by decide) ?_
      refine B_iret rfl my_43 rfl ?_
      exact ⟨_, rfl, by omega, h1⟩
    · refine B_aloadn rfl my_43 rfl ?_
      refine B_iloadn rfl my_43 rfl ?_
      refine B_iconst rfl my_43 (by decide) ?_
      refine B_cV hE.1 rfl (wc_0 hT) cw_43_44 (as := [wi i, wi 1]) (rest := []) rfl (Nat.le_of_ble_eq_true rfl) (g_tallyKinds hE hT hRs hIs (kk_off hk h1 (by omega) (by omega)) (sk_off hs h1 (by omega) (by omega) (by omega)) (by decide) (by decide)) (fun vo s1 hq => ?_)
      obtain ⟨rfl, ty1⟩ := hq
      have hy1 := ty_yk hIs (by decide) ty1
      show Bt E 43 95 [wr T, wi q, wi i, wx] [] s1 _
      refine B_aloadn rfl my_43 rfl ?_
      refine B_iloadn rfl my_43 rfl ?_
      refine B_cV hE.1 rfl (wc_0 hT) cw_43_46 (as := [wi q]) (rest := []) rfl (Nat.le_of_ble_eq_true rfl) (g_talliedKind hE hT hy1) (fun vo s9 hq => ?_)
      obtain ⟨x3, rfl, hz4, rfl⟩ := hq
      show Bt E 43 100 [wr T, wi q, wi i, wx] [wi x3] s1 _
      refine B_top (fun r5 => ?_)
      refine B_istoren rfl my_43 (by decide) rfl (show _ = [wr T, wi q, wi i, wi x3] from rfl) ?_
      refine B_iloadn rfl my_43 rfl ?_
      refine B_iconst rfl my_43 (by decide) ?_
      refine B_ic_eq rfl my_43 rfl (tgt := 112) (nx := 106) rfl rfl (fun c6 => ?_) (fun c6 => ?_)
      · refine B_iinc rfl my_43 (by decide) rfl rfl rfl (by omega) (by omega) (show _ = [wr T, wi q, wi (i + 1), wi x3] from rfl) ?_
        refine B_goto rfl my_43 rfl (tgt := 78) rfl ?_
        refine B_loc (l' := [wr T, wi q, wi (i + 1), wx]) ⟨Or.inl rfl, Or.inl rfl, Or.inl rfl, Or.inr rfl, trivial⟩ ?_
        exact ih _ _ (h1.tr ty1.1) (by omega) (by omega) (by omega)
      · refine B_iloadn rfl my_43 rfl ?_
        refine B_if_eq rfl my_43 rfl (tgt := 112) (nx := 110) rfl rfl (fun c7 => ?_) (fun c7 => ?_)
        · refine B_iinc rfl my_43 (by decide) rfl rfl rfl (by omega) (by omega) (show _ = [wr T, wi q, wi (i + 1), wi x3] from rfl) ?_
          refine B_goto rfl my_43 rfl (tgt := 78) rfl ?_
          refine B_loc (l' := [wr T, wi q, wi (i + 1), wx]) ⟨Or.inl rfl, Or.inl rfl, Or.inl rfl, Or.inr rfl, trivial⟩ ?_
          exact ih _ _ (h1.tr ty1.1) (by omega) (by omega) (by omega)
        · refine B_iconst rfl my_43 (by decide) ?_
          refine B_iret rfl my_43 rfl ?_
          exact ⟨_, rfl, by omega, h1.tr ty1.1⟩
theorem l_heading1 {E : mE} {σ : wSt} {T : Nat} (hE : wE E) (hT : Tb T) (hR : KRd T σ) (hI : RI T σ) (hk : KK T σ) (hs : SK T σ) {q : Int} : ∀ (k : Nat) (i : Int), 0 ≤ i → i ≤ 20 → (20 - i).toNat ≤ k → Bt E 43 36 [wr T, wi q, wi i, wx] [] σ (fun vo t => ∃ x, vo = some (wi x) ∧ (x = 0 ∨ x = 1) ∧ Off (fun a => a = T + 34) σ t) := by
  intro k
  induction k with
  | zero =>
    intro i h1 h2 hm
    refine B_rng 1 rfl (fun ha1 => ?_)
    refine B_rng 2 rfl (fun ha2 => ?_)
    refine B_iloadn rfl my_43 rfl ?_
    refine B_aloadn rfl my_43 rfl ?_
    refine B_ref hE.1 rfl my_43 rfl (r := (T + 1)) (wf_0_0 hT) ?_
    refine B_iconst rfl my_43 (by decide) ?_
    refine B_cV hE.1 rfl (wc_1 hT) cw_43_35 (as := [wi 0]) (rest := [wi i]) rfl (Nat.le_of_ble_eq_true rfl) (g_cellsIn hE hT hR) (fun vo s9 hq => ?_)
    obtain ⟨rfl, rfl⟩ := hq
    show Bt E 43 45 [wr T, wi q, wi i, wx] [wi (min (rd σ (T + 14) 60 0) 20), wi i] σ _
    refine B_top (fun r1 => ?_)
    refine B_ic_ge rfl my_43 rfl (tgt := 76) (nx := 48) rfl rfl (fun c2 => ?_) (fun c2 => ?_)
    · refine B_iconst rfl my_43 (by decide) ?_
      refine B_istoren rfl my_43 (by decide) rfl (show _ = [wr T, wi q, wi 0, wx] from rfl) ?_
      exact l_heading2 hE hT hR hI hk hs _ _ _ Off.rf (by omega) (by omega) (Nat.le_refl _)
    · exact absurd hm (by omega)
  | succ k ih =>
    intro i h1 h2 hm
    refine B_rng 1 rfl (fun ha1 => ?_)
    refine B_rng 2 rfl (fun ha2 => ?_)
    refine B_iloadn rfl my_43 rfl ?_
    refine B_aloadn rfl my_43 rfl ?_
    refine B_ref hE.1 rfl my_43 rfl (r := (T + 1)) (wf_0_0 hT) ?_
    refine B_iconst rfl my_43 (by decide) ?_
    refine B_cV hE.1 rfl (wc_1 hT) cw_43_35 (as := [wi 0]) (rest := [wi i]) rfl (Nat.le_of_ble_eq_true rfl) (g_cellsIn hE hT hR) (fun vo s9 hq => ?_)
    obtain ⟨rfl, rfl⟩ := hq
    show Bt E 43 45 [wr T, wi q, wi i, wx] [wi (min (rd σ (T + 14) 60 0) 20), wi i] σ _
    refine B_top (fun r1 => ?_)
    refine B_ic_ge rfl my_43 rfl (tgt := 76) (nx := 48) rfl rfl (fun c2 => ?_) (fun c2 => ?_)
    · refine B_iconst rfl my_43 (by decide) ?_
      refine B_istoren rfl my_43 (by decide) rfl (show _ = [wr T, wi q, wi 0, wx] from rfl) ?_
      exact l_heading2 hE hT hR hI hk hs _ _ _ Off.rf (by omega) (by omega) (Nat.le_refl _)
    · refine B_aloadn rfl my_43 rfl ?_
      refine B_ref hE.1 rfl my_43 rfl (r := (T + 25)) (wf_0_3 hT) ?_
      refine B_aloadn rfl my_43 rfl ?_
      refine B_ref hE.1 rfl my_43 rfl (r := (T + 1)) (wf_0_0 hT) ?_
      refine B_iconst rfl my_43 (by decide) ?_
      refine B_iloadn rfl my_43 rfl ?_
      refine B_cV hE.1 rfl (wc_1 hT) cw_43_36 (as := [wi 0, wi i]) (rest := [wr (T + 25)]) rfl (Nat.le_of_ble_eq_true rfl) (g_cellAt hE hT hR hI) (fun vo s9 hq => ?_)
      obtain ⟨rfl, rfl⟩ := hq
      show Bt E 43 61 [wr T, wi q, wi i, wx] [wi (ca σ T 0 i), wr (T + 25)] σ _
      refine B_top (fun r3 => ?_)
      refine B_cV hE.1 rfl (nm_25 hT).1 cw_43_20 (as := [wi (ca σ T 0 i)]) (rest := []) rfl (Nat.le_of_ble_eq_true rfl) (g_at hE (nm_25 hT) (by decide) (kr_ca hI hk)) (fun vo s9 hq => ?_)
      obtain ⟨rfl, rfl⟩ := hq
      show Bt E 43 64 [wr T, wi q, wi i, wx] [wi (rd σ (T + 25) 501 (ca σ T 0 i))] σ _
      refine B_top (fun r4 => ?_)
      refine B_iconst rfl my_43 (by decide) ?_
      refine B_ic_eq rfl my_43 rfl (tgt := 70) (nx := 68) rfl rfl (fun c5 => ?_) (fun c5 => ?_)
      · refine B_iinc rfl my_43 (by decide) rfl rfl rfl (by omega) (by omega) (show _ = [wr T, wi q, wi (i + 1), wx] from rfl) ?_
        refine B_goto rfl my_43 rfl (tgt := 36) rfl ?_
        exact ih _ (by omega) (by omega) (by omega)
      · refine B_iconst rfl my_43 (by decide) ?_
        refine B_iret rfl my_43 rfl ?_
        exact ⟨_, rfl, by omega, Off.rf⟩
theorem g_guessedHeading {E : mE} {σ : wSt} {T : Nat} (hE : wE E) (hT : Tb T) (hR : KRd T σ) (hI : RI T σ) (hk : KK T σ) (hs : SK T σ) {q : Int} : Fn E 43 [wr T, wi q] σ (fun vo t => ∃ x, vo = some (wi x) ∧ (x = 0 ∨ x = 1) ∧ Off (fun a => a = T + 34) σ t) := by
  refine Fn.of (nL := 4) ?_
  show Bt E 43 0 [wr T, wi q, wx, wx] [] σ _
  refine B_rng 1 rfl (fun ha1 => ?_)
  refine B_aloadn rfl my_43 rfl ?_
  refine B_ref hE.1 rfl my_43 rfl (r := (T + 1)) (wf_0_0 hT) ?_
  refine B_int hE.1 rfl my_43 rfl (wn_1_9 hT) (hR _ (by omega) (by omega) _) (fun r1 => ?_)
  refine B_iconst rfl my_43 (by decide) ?_
  refine B_ic_lt rfl my_43 rfl (tgt := 32) (nx := 11) rfl rfl (fun c2 => ?_) (fun c2 => ?_)
  · refine B_iconst rfl my_43 (by decide) ?_
    refine B_iret rfl my_43 rfl ?_
    exact ⟨_, rfl, by omega, Off.rf⟩
  · refine B_aloadn rfl my_43 rfl ?_
    refine B_ref hE.1 rfl my_43 rfl (r := (T + 1)) (wf_0_0 hT) ?_
    refine B_ref hE.1 rfl my_43 rfl (r := (T + 14)) (wf_1_6 hT) ?_
    refine B_iconst rfl my_43 (by decide) ?_
    refine B_cV hE.1 rfl (nm_14 hT).1 cw_43_20 (as := [wi 0]) (rest := []) rfl (Nat.le_of_ble_eq_true rfl) (g_at hE (nm_14 hT) (by decide) (kr_of fun _ => hR _ (by omega) (by omega) _)) (fun vo s9 hq => ?_)
    obtain ⟨rfl, rfl⟩ := hq
    show Bt E 43 22 [wr T, wi q, wx, wx] [wi (rd σ (T + 14) 60 0)] σ _
    refine B_top (fun r3 => ?_)
    refine B_aloadn rfl my_43 rfl ?_
    refine B_ref hE.1 rfl my_43 rfl (r := (T + 1)) (wf_0_0 hT) ?_
    refine B_int hE.1 rfl my_43 rfl (wn_1_12 hT) (hR _ (by omega) (by omega) _) (fun r4 => ?_)
    refine B_ic_eq rfl my_43 rfl (tgt := 34) (nx := 32) rfl rfl (fun c5 => ?_) (fun c5 => ?_)
    · refine B_iconst rfl my_43 (by decide) ?_
      refine B_istoren rfl my_43 (by decide) rfl (show _ = [wr T, wi q, wi 0, wx] from rfl) ?_
      exact l_heading1 hE hT hR hI hk hs _ _ (by omega) (by omega) (Nat.le_refl _)
    · refine B_iconst rfl my_43 (by decide) ?_
      refine B_iret rfl my_43 rfl ?_
      exact ⟨_, rfl, by omega, Off.rf⟩
theorem l_isAhead {E : mE} {σ : wSt} {T : Nat} (hE : wE E) (hT : Tb T) (hR : KRd T σ) (hI : RI T σ) (hh : kn σ T 10) {r c n : Int} : ∀ (k : Nat) (i : Int), gv σ T 10 ≤ i → (r - i).toNat ≤ k → Bt E 48 6 [wr T, wi r, wi c, wi n, wi i, wx] [] σ (fun vo t => ∃ x, vo = some (wi x) ∧ ((x = 0 ∨ x = 1) ∧ (x = 1 → Ahd σ T c r n)) ∧ σ = t) := by
  intro k
  induction k with
  | zero =>
    intro i h1 hm
    refine B_rng 1 rfl (fun ha1 => ?_)
    refine B_rng 2 rfl (fun ha2 => ?_)
    refine B_rng 3 rfl (fun ha3 => ?_)
    refine B_rng 4 rfl (fun ha4 => ?_)
    refine B_iload rfl my_48 rfl ?_
    refine B_iloadn rfl my_48 rfl ?_
    refine B_ic_ge rfl my_48 rfl (tgt := 51) (nx := 12) rfl rfl (fun c1 => ?_) (fun c1 => ?_)
    · refine B_iconst rfl my_48 (by decide) ?_
      refine B_bret rfl my_48 rfl (by omega) ?_
      exact ⟨_, rfl, ⟨by omega, fun g => by omega⟩, rfl⟩
    · exact absurd hm (by omega)
  | succ k ih =>
    intro i h1 hm
    refine B_rng 1 rfl (fun ha1 => ?_)
    refine B_rng 2 rfl (fun ha2 => ?_)
    refine B_rng 3 rfl (fun ha3 => ?_)
    refine B_rng 4 rfl (fun ha4 => ?_)
    refine B_iload rfl my_48 rfl ?_
    refine B_iloadn rfl my_48 rfl ?_
    refine B_ic_ge rfl my_48 rfl (tgt := 51) (nx := 12) rfl rfl (fun c1 => ?_) (fun c1 => ?_)
    · refine B_iconst rfl my_48 (by decide) ?_
      refine B_bret rfl my_48 rfl (by omega) ?_
      exact ⟨_, rfl, ⟨by omega, fun g => by omega⟩, rfl⟩
    · refine B_aloadn rfl my_48 rfl ?_
      refine B_ref hE.1 rfl my_48 rfl (r := (T + 1)) (wf_0_0 hT) ?_
      refine B_iload rfl my_48 rfl ?_
      refine B_iloadn rfl my_48 rfl ?_
      refine B_cV hE.1 rfl (wc_1 hT) cw_48_36 (as := [wi i, wi c]) (rest := []) rfl (Nat.le_of_ble_eq_true rfl) (g_cellAt hE hT hR hI) (fun vo s9 hq => ?_)
      obtain ⟨rfl, rfl⟩ := hq
      show Bt E 48 22 [wr T, wi r, wi c, wi n, wi i, wx] [wi (ca σ T i c)] σ _
      refine B_top (fun r2 => ?_)
      refine B_istore rfl my_48 (by decide) rfl (show _ = [wr T, wi r, wi c, wi n, wi i, wi (ca σ T i c)] from rfl) ?_
      refine B_iload rfl my_48 rfl ?_
      refine B_iconst rfl my_48 (by decide) ?_
      refine B_ic_eq rfl my_48 rfl (tgt := 45) (nx := 30) rfl rfl (fun c3 => ?_) (fun c3 => ?_)
      · refine B_iinc rfl my_48 (by decide) rfl rfl rfl (by omega) (by omega) (show _ = [wr T, wi r, wi c, wi n, wi (i + 1), wi (ca σ T i c)] from rfl) ?_
        refine B_goto rfl my_48 rfl (tgt := 6) rfl ?_
        refine B_loc (l' := [wr T, wi r, wi c, wi n, wi (i + 1), wx]) ⟨Or.inl rfl, Or.inl rfl, Or.inl rfl, Or.inl rfl, Or.inl rfl, Or.inr rfl, trivial⟩ ?_
        exact ih _ (by omega) (by omega)
      · refine B_aloadn rfl my_48 rfl ?_
        refine B_ref hE.1 rfl my_48 rfl (r := (T + 1)) (wf_0_0 hT) ?_
        refine B_iload rfl my_48 rfl ?_
        refine B_iloadn rfl my_48 rfl ?_
        refine B_cV hE.1 rfl (wc_1 hT) cw_48_37 (as := [wi (ca σ T i c), wi n]) (rest := []) rfl (Nat.le_of_ble_eq_true rfl) (g_haveSameSigns hE hT hR) (fun vo s9 hq => ?_)
        obtain ⟨x4, rfl, ⟨hz5, u37⟩, rfl⟩ := hq
        show Bt E 48 40 [wr T, wi r, wi c, wi n, wi i, wi (ca σ T i c)] [wi x4] σ _
        refine B_top (fun r6 => ?_)
        refine B_if_eq rfl my_48 rfl (tgt := 45) (nx := 43) rfl rfl (fun c7 => ?_) (fun c7 => ?_)
        · refine B_iinc rfl my_48 (by decide) rfl rfl rfl (by omega) (by omega) (show _ = [wr T, wi r, wi c, wi n, wi (i + 1), wi (ca σ T i c)] from rfl) ?_
          refine B_goto rfl my_48 rfl (tgt := 6) rfl ?_
          refine B_loc (l' := [wr T, wi r, wi c, wi n, wi (i + 1), wx]) ⟨Or.inl rfl, Or.inl rfl, Or.inl rfl, Or.inl rfl, Or.inl rfl, Or.inr rfl, trivial⟩ ?_
          exact ih _ (by omega) (by omega)
        · refine B_iconst rfl my_48 (by decide) ?_
          refine B_bret rfl my_48 rfl (by omega) ?_
          exact ⟨_, rfl, ⟨by omega, fun g => ⟨i, by omega, by omega, by omega, u37 (by omega)⟩⟩, rfl⟩
theorem g_isAhead {E : mE} {σ : wSt} {T : Nat} (hE : wE E) (hT : Tb T) (hR : KRd T σ) (hI : RI T σ) (hh : kn σ T 10) {r c n : Int} : Ev E 48 [wr T, wi r, wi c, wi n] σ (fun x => (x = 0 ∨ x = 1) ∧ (x = 1 → Ahd σ T c r n)) := by
  refine Fn.of (nL := 6) ?_
  show Bt E 48 0 [wr T, wi r, wi c, wi n, wx, wx] [] σ _
  refine B_rng 1 rfl (fun ha1 => ?_)
  refine B_rng 2 rfl (fun ha2 => ?_)
  refine B_rng 3 rfl (fun ha3 => ?_)
  refine B_aloadn rfl my_48 rfl ?_
  refine B_int hE.1 rfl my_48 rfl (wn_0_10 hT) hh (fun r1 => ?_)
  refine B_istore rfl my_48 (by decide) rfl (show _ = [wr T, wi r, wi c, wi n, wi (gv σ T 10), wx] from rfl) ?_
  exact l_isAhead hE hT hR hI hh _ _ (Int.le_refl _) (Nat.le_refl _)
theorem l_markRepeats {E : mE} {σ : wSt} {T : Nat} (hE : wE E) (hT : Tb T) (hR : KRd T σ) (hI : RI T σ) (hk : KK T σ) (hs : SK T σ) (hh : kn σ T 10) {c : Int} : ∀ (k : Nat) (s : wSt) (i : Int), MkR T σ s c i → gv σ T 10 ≤ i → 0 ≤ i → (gv σ (T + 1) 9 - i).toNat ≤ k → Bt E 47 5 [wr T, wi c, wi i, wx] [] s (fun vo t => vo = none ∧ ∃ i, gv σ (T + 1) 9 ≤ i ∧ MkR T σ t c i) := by
  intro k
  induction k with
  | zero =>
    intro s i h1 h2 h3 hm
    have hRs : KRd T s := krd_off hR h1.1 (fun a e1 e2 e => by omega)
    have hIs : RI T s := ri_off hI h1.1 (fun a e1 e2 e => by omega)
    have hhs : kn s T 10 := (off_kn h1.1 (by omega)).mpr hh
    have eh : gv s T 10 = gv σ T 10 := off_gv h1.1 (by omega)
    have e9 : gv s (T + 1) 9 = gv σ (T + 1) 9 := off_gv h1.1 (by omega)
    have hca : ca s T i c = ca σ T i c := ca_off h1.1 (fun a e1 e2 e => by omega)
    have h0 := hI.1
    refine B_rng 1 rfl (fun ha1 => ?_)
    refine B_rng 2 rfl (fun ha2 => ?_)
    refine B_iloadn rfl my_47 rfl ?_
    refine B_aloadn rfl my_47 rfl ?_
    refine B_ref hE.1 rfl my_47 rfl (r := (T + 1)) (wf_0_0 hT) ?_
    refine B_int hE.1 rfl my_47 rfl (wn_1_9 hT) (hRs _ (by omega) (by omega) _) (fun r1 => ?_)
    refine B_ic_ge rfl my_47 rfl (tgt := 71) (nx := 16) rfl rfl (fun c2 => ?_) (fun c2 => ?_)
    · refine B_ret rfl my_47 rfl ?_
      exact ⟨rfl, i, by omega, h1⟩
    · exact absurd hm (by omega)
  | succ k ih =>
    intro s i h1 h2 h3 hm
    have hRs : KRd T s := krd_off hR h1.1 (fun a e1 e2 e => by omega)
    have hIs : RI T s := ri_off hI h1.1 (fun a e1 e2 e => by omega)
    have hhs : kn s T 10 := (off_kn h1.1 (by omega)).mpr hh
    have eh : gv s T 10 = gv σ T 10 := off_gv h1.1 (by omega)
    have e9 : gv s (T + 1) 9 = gv σ (T + 1) 9 := off_gv h1.1 (by omega)
    have hca : ca s T i c = ca σ T i c := ca_off h1.1 (fun a e1 e2 e => by omega)
    have h0 := hI.1
    refine B_rng 1 rfl (fun ha1 => ?_)
    refine B_rng 2 rfl (fun ha2 => ?_)
    refine B_iloadn rfl my_47 rfl ?_
    refine B_aloadn rfl my_47 rfl ?_
    refine B_ref hE.1 rfl my_47 rfl (r := (T + 1)) (wf_0_0 hT) ?_
    refine B_int hE.1 rfl my_47 rfl (wn_1_9 hT) (hRs _ (by omega) (by omega) _) (fun r1 => ?_)
    refine B_ic_ge rfl my_47 rfl (tgt := 71) (nx := 16) rfl rfl (fun c2 => ?_) (fun c2 => ?_)
    · refine B_ret rfl my_47 rfl ?_
      exact ⟨rfl, i, by omega, h1⟩
    · refine B_aloadn rfl my_47 rfl ?_
      refine B_ref hE.1 rfl my_47 rfl (r := (T + 1)) (wf_0_0 hT) ?_
      refine B_iloadn rfl my_47 rfl ?_
      refine B_iloadn rfl my_47 rfl ?_
      refine B_cV hE.1 rfl (wc_1 hT) cw_47_36 (as := [wi i, wi c]) (rest := []) rfl (Nat.le_of_ble_eq_true rfl) (g_cellAt hE hT hRs hIs) (fun vo s9 hq => ?_)
      obtain ⟨rfl, rfl⟩ := hq
      show Bt E 47 25 [wr T, wi c, wi i, wx] [wi (ca s T i c)] s _
      refine B_top (fun r3 => ?_)
      refine B_istoren rfl my_47 (by decide) rfl (show _ = [wr T, wi c, wi i, wi (ca s T i c)] from rfl) ?_
      refine B_iloadn rfl my_47 rfl ?_
      refine B_iconst rfl my_47 (by decide) ?_
      refine B_ic_eq rfl my_47 rfl (tgt := 65) (nx := 31) rfl rfl (fun c4 => ?_) (fun c4 => ?_)
      · refine B_iinc rfl my_47 (by decide) rfl rfl rfl (by omega) (by omega) (show _ = [wr T, wi c, wi (i + 1), wi (ca s T i c)] from rfl) ?_
        refine B_goto rfl my_47 rfl (tgt := 5) rfl ?_
        refine B_loc (l' := [wr T, wi c, wi (i + 1), wx]) ⟨Or.inl rfl, Or.inl rfl, Or.inl rfl, Or.inr rfl, trivial⟩ ?_
        exact ih _ _ (mq_skip h1 (by omega)) (by omega) (by omega) (by omega)
      · refine B_aloadn rfl my_47 rfl ?_
        refine B_ref hE.1 rfl my_47 rfl (r := (T + 29)) (wf_0_5 hT) ?_
        refine B_iloadn rfl my_47 rfl ?_
        refine B_aloadn rfl my_47 rfl ?_
        refine B_ref hE.1 rfl my_47 rfl (r := (T + 25)) (wf_0_3 hT) ?_
        refine B_iloadn rfl my_47 rfl ?_
        refine B_cV hE.1 rfl (nm_25 hT).1 cw_47_20 (as := [wi (ca s T i c)]) (rest := [wi (ca s T i c), wr (T + 29)]) rfl (Nat.le_of_ble_eq_true rfl) (g_at hE (nm_25 hT) (by decide) (off_kr h1.1 (by omega) (by rw [hca]; exact kr_ca hI hk))) (fun vo s9 hq => ?_)
        obtain ⟨rfl, rfl⟩ := hq
        show Bt E 47 44 [wr T, wi c, wi i, wi (ca s T i c)] [wi (rd s (T + 25) 501 (ca s T i c)), wi (ca s T i c), wr (T + 29)] s _
        refine B_top (fun r5 => ?_)
        refine B_if_eq rfl my_47 rfl (tgt := 61) (nx := 47) rfl rfl (fun c6 => ?_) (fun c6 => ?_)
        · refine B_iconst rfl my_47 (by decide) ?_
          refine B_cV hE.1 rfl (nm_29 hT).1 cw_47_21 (as := [wi (ca s T i c), wi 0]) (rest := []) rfl (Nat.le_of_ble_eq_true rfl) (g_put hE (nm_29 hT) (by decide)) (fun vo s9 hq => ?_)
          obtain ⟨rfl, rfl⟩ := hq
          show Bt E 47 65 [wr T, wi c, wi i, wi (ca s T i c)] [] (pt s (T + 29) 501 (ca s T i c) 0) _
          refine B_iinc rfl my_47 (by decide) rfl rfl rfl (by omega) (by omega) (show _ = [wr T, wi c, wi (i + 1), wi (ca s T i c)] from rfl) ?_
          refine B_goto rfl my_47 rfl (tgt := 5) rfl ?_
          refine B_loc (l' := [wr T, wi c, wi (i + 1), wx]) ⟨Or.inl rfl, Or.inl rfl, Or.inl rfl, Or.inr rfl, trivial⟩ ?_
          refine ih _ _ ?_ (by omega) (by omega) (by omega)
          rw [hca]
          refine mq_step hI h1 (by omega) (by omega) (fun g => by omega)
        · refine B_aloadn rfl my_47 rfl ?_
          refine B_iloadn rfl my_47 rfl ?_
          refine B_iloadn rfl my_47 rfl ?_
          refine B_iloadn rfl my_47 rfl ?_
          refine B_cV hE.1 rfl (wc_0 hT) cw_47_48 (as := [wi i, wi c, wi (ca s T i c)]) (rest := [wi (ca s T i c), wr (T + 29)]) rfl (Nat.le_of_ble_eq_true rfl) (g_isAhead hE hT hRs hIs hhs) (fun vo s9 hq => ?_)
          obtain ⟨x7, rfl, ⟨hz8, ua⟩, rfl⟩ := hq
          show Bt E 47 54 [wr T, wi c, wi i, wi (ca s T i c)] [wi x7, wi (ca s T i c), wr (T + 29)] s _
          refine B_top (fun r9 => ?_)
          refine B_if_eq rfl my_47 rfl (tgt := 61) (nx := 57) rfl rfl (fun c10 => ?_) (fun c10 => ?_)
          · refine B_iconst rfl my_47 (by decide) ?_
            refine B_cV hE.1 rfl (nm_29 hT).1 cw_47_21 (as := [wi (ca s T i c), wi 0]) (rest := []) rfl (Nat.le_of_ble_eq_true rfl) (g_put hE (nm_29 hT) (by decide)) (fun vo s9 hq => ?_)
            obtain ⟨rfl, rfl⟩ := hq
            show Bt E 47 65 [wr T, wi c, wi i, wi (ca s T i c)] [] (pt s (T + 29) 501 (ca s T i c) 0) _
            refine B_iinc rfl my_47 (by decide) rfl rfl rfl (by omega) (by omega) (show _ = [wr T, wi c, wi (i + 1), wi (ca s T i c)] from rfl) ?_
            refine B_goto rfl my_47 rfl (tgt := 5) rfl ?_
            refine B_loc (l' := [wr T, wi c, wi (i + 1), wx]) ⟨Or.inl rfl, Or.inl rfl, Or.inl rfl, Or.inr rfl, trivial⟩ ?_
            refine ih _ _ ?_ (by omega) (by omega) (by omega)
            rw [hca]
            refine mq_step hI h1 (by omega) (by omega) (fun g => by omega)
          · refine B_iconst rfl my_47 (by decide) ?_
            refine B_goto rfl my_47 rfl (tgt := 62) rfl ?_
            refine B_cV hE.1 rfl (nm_29 hT).1 cw_47_21 (as := [wi (ca s T i c), wi 1]) (rest := []) rfl (Nat.le_of_ble_eq_true rfl) (g_put hE (nm_29 hT) (by decide)) (fun vo s9 hq => ?_)
            obtain ⟨rfl, rfl⟩ := hq
            show Bt E 47 65 [wr T, wi c, wi i, wi (ca s T i c)] [] (pt s (T + 29) 501 (ca s T i c) 1) _
            refine B_iinc rfl my_47 (by decide) rfl rfl rfl (by omega) (by omega) (show _ = [wr T, wi c, wi (i + 1), wi (ca s T i c)] from rfl) ?_
            refine B_goto rfl my_47 rfl (tgt := 5) rfl ?_
            refine B_loc (l' := [wr T, wi c, wi (i + 1), wx]) ⟨Or.inl rfl, Or.inl rfl, Or.inl rfl, Or.inr rfl, trivial⟩ ?_
            refine ih _ _ ?_ (by omega) (by omega) (by omega)
            rw [hca]
            refine mq_step hI h1 (by omega) (by omega) (fun g => ?_)
            obtain ⟨z, z1, z2, z3, z4⟩ := ua (by omega)
            refine ⟨?_, z, ?_, z2, ?_, ?_⟩
            · rw [← hca, ← off_rd h1.1 (show ¬ (T + 25 + 1 = T + 30) by omega)]
              omega
            · rw [← eh]
              exact z1
            · rw [← ca_off h1.1 (fun a e1 e2 e => by omega)]
              exact z3
            · rw [← hca, ← ca_off (r := z) h1.1 (fun a e1 e2 e => by omega), ← off_rd h1.1 (show ¬ (T + 6 + 1 = T + 30) by omega), ← off_rd h1.1 (show ¬ (T + 6 + 1 = T + 30) by omega)]
              exact z4
theorem g_markRepeats {E : mE} {σ : wSt} {T : Nat} (hE : wE E) (hT : Tb T) (hR : KRd T σ) (hI : RI T σ) (hk : KK T σ) (hs : SK T σ) (hh : kn σ T 10) (hd : 0 ≤ gv σ T 10) {c : Int} : Fn E 47 [wr T, wi c] σ (fun vo t => vo = none ∧ ∃ i, gv σ (T + 1) 9 ≤ i ∧ MkR T σ t c i) := by
  refine Fn.of (nL := 4) ?_
  show Bt E 47 0 [wr T, wi c, wx, wx] [] σ _
  refine B_rng 1 rfl (fun ha1 => ?_)
  refine B_aloadn rfl my_47 rfl ?_
  refine B_int hE.1 rfl my_47 rfl (wn_0_10 hT) hh (fun r1 => ?_)
  refine B_istoren rfl my_47 (by decide) rfl (show _ = [wr T, wi c, wi (gv σ T 10), wx] from rfl) ?_
  exact l_markRepeats hE hT hR hI hk hs hh _ σ _ ⟨Off.rf, fun _ h => h, fun r r1 r2 => by omega, fun _ _ => rfl⟩ (Int.le_refl _) hd (Nat.le_refl _)
