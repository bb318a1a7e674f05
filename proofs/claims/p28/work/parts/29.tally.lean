/-! ===== Table: tallies, the mark, names of cells ===== -/
theorem cw_41_20 : wcV 41 0 20 1 1 1 = true := by decide +kernel
theorem cw_41_5_0 : wcS 41 0 5 4 4 = true := by decide +kernel
theorem cw_42_20 : wcV 42 0 20 1 1 1 = true := by decide +kernel
theorem cw_42_21 : wcV 42 0 21 1 2 2 = true := by decide +kernel
theorem cw_42_4_0 : wcS 42 0 4 3 3 = true := by decide +kernel
theorem cw_42_5_0 : wcS 42 0 5 4 4 = true := by decide +kernel
theorem cw_42_6_0 : wcS 42 0 6 3 3 = true := by decide +kernel
theorem cw_42_7_0 : wcS 42 0 7 3 3 = true := by decide +kernel
theorem cw_42_8_0 : wcS 42 0 8 3 3 = true := by decide +kernel
theorem cw_42_9_0 : wcS 42 0 9 3 3 = true := by decide +kernel
theorem cw_44_20 : wcV 44 0 20 1 1 1 = true := by decide +kernel
theorem cw_44_21 : wcV 44 0 21 1 2 2 = true := by decide +kernel
theorem cw_44_36 : wcV 44 0 36 2 2 2 = true := by decide +kernel
theorem cw_45_20 : wcV 45 0 20 1 1 1 = true := by decide +kernel
theorem cw_46_20 : wcV 46 0 20 1 1 1 = true := by decide +kernel
theorem cw_46_45 : wcV 46 0 45 3 0 0 = true := by decide +kernel
/-- the kinds are known, as far as there are cells; what holds of them -/
def KK (T : Nat) (σ : wSt) : Prop := ∀ c, 0 ≤ c → c < gv σ (T + 1) 8 → kr σ (T + 25) 501 c
def SK (T : Nat) (σ : wSt) : Prop := ∀ c, 0 ≤ c → c < gv σ (T + 1) 8 → 0 ≤ rd σ (T + 25) 501 c ∧ rd σ (T + 25) 501 c ≤ 5 ∧ (rd σ (T + 25) 501 c = 0 ↔ rd σ (T + 6) 501 c = 0)
/-- how many cells of kind k stand in a column, from row f on, n rows -/
def ctn (σ : wSt) (T : Nat) (c k f : Int) : Nat → Int
  | 0 => 0
  | n + 1 => ctn σ T c k f n + (if ca σ T (f + (n : Int)) c ≠ -1 ∧ rd σ (T + 25) 501 (ca σ T (f + (n : Int)) c) = k then 1 else 0)
theorem ctn_le {σ : wSt} {T : Nat} {c k f : Int} : ∀ n : Nat, 0 ≤ ctn σ T c k f n ∧ ctn σ T c k f n ≤ n := by
  intro n
  induction n with
  | zero => exact ⟨Int.le_refl _, Int.le_refl _⟩
  | succ n ih =>
    unfold ctn
    split
    · omega
    · omega
theorem ctn_s {σ : wSt} {T : Nat} {c k f i : Int} (h : f ≤ i) : ctn σ T c k f (i + 1 - f).toNat = ctn σ T c k f (i - f).toNat + (if ca σ T i c ≠ -1 ∧ rd σ (T + 25) 501 (ca σ T i c) = k then 1 else 0) := by
  have e1 : (i + 1 - f).toNat = (i - f).toNat + 1 := by omega
  have e2 : f + ((i - f).toNat : Int) = i := by omega
  rw [e1]
  show ctn σ T c k f (i - f).toNat + _ = _
  rw [e2]
/-- the tally of a column from row f on -/
def TY (T : Nat) (σ s : wSt) (c f : Int) : Prop := Off (fun a => a = T + 34) σ s ∧ ∀ k, 0 ≤ k → k < 6 → kr s (T + 33) 6 k ∧ rd s (T + 33) 6 k = ctn σ T c k f (gv σ (T + 1) 9 - f).toNat
theorem krd_off {T : Nat} {σ s : wSt} {R : Nat → Prop} (h : KRd T σ) (ho : Off R σ s) (hR : ∀ a, T + 1 ≤ a → a ≤ T + 15 → ¬ R a) : KRd T s := fun a h1 h2 b => (off_kn ho (hR a h1 h2)).mpr (h a h1 h2 b)
theorem ca_off {T : Nat} {σ s : wSt} {R : Nat → Prop} {r c : Int} (ho : Off R σ s) (hR : ∀ a, T + 1 ≤ a → a ≤ T + 15 → ¬ R a) : ca s T r c = ca σ T r c := by
  unfold ca
  rw [off_gv ho (hR _ (by omega) (by omega)), off_rd ho (hR _ (by omega) (by omega)), off_rd ho (hR _ (by omega) (by omega))]
theorem l_tally2 {E : mE} {σ : wSt} {T : Nat} (hE : wE E) (hT : Tb T) (hR : KRd T σ) (hI : RI T σ) (hk : KK T σ) (hs : SK T σ) {c f : Int} (hf : 0 ≤ f) (hf2 : f ≤ 100) : ∀ (k : Nat) (s : wSt) (i : Int), Off (fun a => a = T + 34) σ s → (∀ k9, 0 ≤ k9 → k9 < 6 → kr s (T + 33) 6 k9 ∧ rd s (T + 33) 6 k9 = ctn σ T c k9 f (i - f).toNat) → f ≤ i → (i ≤ gv σ (T + 1) 9 ∨ i = f) → (gv σ (T + 1) 9 - i).toNat ≤ k → Bt E 44 25 [wr T, wi c, wi f, wi i, wx, wx] [] s (fun vo t => vo = none ∧ TY T σ t c f) := by
  intro k
  induction k with
  | zero =>
    intro s i h1 h2 h3 h4 hm
    have hRs : KRd T s := krd_off hR h1 (fun a e1 e2 e => by omega)
    have hIs : RI T s := ri_off hI h1 (fun a e1 e2 e => by omega)
    have e9 : gv s (T + 1) 9 = gv σ (T + 1) 9 := off_gv h1 (by omega)
    have h0 := hI.1
    have hca : ca s T i c = ca σ T i c := ca_off h1 (fun a e1 e2 e => by omega)
    refine B_rng 1 rfl (fun ha1 => ?_)
    refine B_rng 2 rfl (fun ha2 => ?_)
    refine B_rng 3 rfl (fun ha3 => ?_)
    refine B_iloadn rfl my_44 rfl ?_
    refine B_aloadn rfl my_44 rfl ?_
    refine B_ref hE.1 rfl my_44 rfl (r := (T + 1)) (wf_0_0 hT) ?_
    refine B_int hE.1 rfl my_44 rfl (wn_1_9 hT) (hRs _ (by omega) (by omega) _) (fun r1 => ?_)
    refine B_ic_ge rfl my_44 rfl (tgt := 90) (nx := 36) rfl rfl (fun c2 => ?_) (fun c2 => ?_)
    · refine B_ret rfl my_44 rfl ?_
      refine ⟨rfl, h1, fun k9 k1 k2 => ⟨(h2 k9 k1 k2).1, ?_⟩⟩
      rw [(h2 k9 k1 k2).2, show (gv σ (T + 1) 9 - f).toNat = (i - f).toNat by omega]
    · exact absurd hm (by omega)
  | succ k ih =>
    intro s i h1 h2 h3 h4 hm
    have hRs : KRd T s := krd_off hR h1 (fun a e1 e2 e => by omega)
    have hIs : RI T s := ri_off hI h1 (fun a e1 e2 e => by omega)
    have e9 : gv s (T + 1) 9 = gv σ (T + 1) 9 := off_gv h1 (by omega)
    have h0 := hI.1
    have hca : ca s T i c = ca σ T i c := ca_off h1 (fun a e1 e2 e => by omega)
    refine B_rng 1 rfl (fun ha1 => ?_)
    refine B_rng 2 rfl (fun ha2 => ?_)
    refine B_rng 3 rfl (fun ha3 => ?_)
    refine B_iloadn rfl my_44 rfl ?_
    refine B_aloadn rfl my_44 rfl ?_
    refine B_ref hE.1 rfl my_44 rfl (r := (T + 1)) (wf_0_0 hT) ?_
    refine B_int hE.1 rfl my_44 rfl (wn_1_9 hT) (hRs _ (by omega) (by omega) _) (fun r1 => ?_)
    refine B_ic_ge rfl my_44 rfl (tgt := 90) (nx := 36) rfl rfl (fun c2 => ?_) (fun c2 => ?_)
    · refine B_ret rfl my_44 rfl ?_
      refine ⟨rfl, h1, fun k9 k1 k2 => ⟨(h2 k9 k1 k2).1, ?_⟩⟩
      rw [(h2 k9 k1 k2).2, show (gv σ (T + 1) 9 - f).toNat = (i - f).toNat by omega]
    · refine B_aloadn rfl my_44 rfl ?_
      refine B_ref hE.1 rfl my_44 rfl (r := (T + 1)) (wf_0_0 hT) ?_
      refine B_iloadn rfl my_44 rfl ?_
      refine B_iloadn rfl my_44 rfl ?_
      refine B_cV hE.1 rfl (wc_1 hT) cw_44_36 (as := [wi i, wi c]) (rest := []) rfl (Nat.le_of_ble_eq_true rfl) (g_cellAt hE hT hRs hIs) (fun vo s9 hq => ?_)
      obtain ⟨rfl, rfl⟩ := hq
      show Bt E 44 45 [wr T, wi c, wi f, wi i, wx, wx] [wi (ca s T i c)] s _
      refine B_top (fun r3 => ?_)
      refine B_istore rfl my_44 (by decide) rfl (show _ = [wr T, wi c, wi f, wi i, wi (ca s T i c), wx] from rfl) ?_
      refine B_iload rfl my_44 rfl ?_
      refine B_iconst rfl my_44 (by decide) ?_
      refine B_ic_eq rfl my_44 rfl (tgt := 84) (nx := 53) rfl rfl (fun c4 => ?_) (fun c4 => ?_)
      · refine B_iinc rfl my_44 (by decide) rfl rfl rfl (by omega) (by omega) (show _ = [wr T, wi c, wi f, wi (i + 1), wi (ca s T i c), wx] from rfl) ?_
        refine B_goto rfl my_44 rfl (tgt := 25) rfl ?_
        refine B_loc (l' := [wr T, wi c, wi f, wi (i + 1), wx, wx]) ⟨Or.inl rfl, Or.inl rfl, Or.inl rfl, Or.inl rfl, Or.inr rfl, Or.inr rfl, trivial⟩ ?_
        refine ih _ _ h1 (fun k9 k1 k2 => ⟨(h2 k9 k1 k2).1, ?_⟩) (by omega) (by omega) (by omega)
        rw [(h2 k9 k1 k2).2, ctn_s h3, if_neg (fun e => e.1 (by omega))]
        omega
      · have gc := (ca_c hI (r := i) (c := c)).resolve_left (fun e => by omega)
        obtain ⟨gc0, gc1, gc2, gc3⟩ := gc
        have gk := hs _ gc2 gc3
        have ek : rd s (T + 25) 501 (ca s T i c) = rd σ (T + 25) 501 (ca s T i c) := off_rd h1 (by omega)
        rw [← hca] at gk
        have gt := (h2 (rd s (T + 25) 501 (ca s T i c)) (by omega) (by omega)).2
        have gb := ctn_le (σ := σ) (T := T) (c := c) (k := rd s (T + 25) 501 (ca s T i c)) (f := f) (i - f).toNat
        refine B_aloadn rfl my_44 rfl ?_
        refine B_ref hE.1 rfl my_44 rfl (r := (T + 25)) (wf_0_3 hT) ?_
        refine B_iload rfl my_44 rfl ?_
        refine B_cV hE.1 rfl (nm_25 hT).1 cw_44_20 (as := [wi (ca s T i c)]) (rest := []) rfl (Nat.le_of_ble_eq_true rfl) (g_at hE (nm_25 hT) (by decide) (off_kr h1 (by omega) (hk _ (by omega) (by omega)))) (fun vo s9 hq => ?_)
        obtain ⟨rfl, rfl⟩ := hq
        show Bt E 44 62 [wr T, wi c, wi f, wi i, wi (ca s T i c), wx] [wi (rd s (T + 25) 501 (ca s T i c))] s _
        refine B_top (fun r5 => ?_)
        refine B_istore rfl my_44 (by decide) rfl (show _ = [wr T, wi c, wi f, wi i, wi (ca s T i c), wi (rd s (T + 25) 501 (ca s T i c))] from rfl) ?_
        refine B_aloadn rfl my_44 rfl ?_
        refine B_ref hE.1 rfl my_44 rfl (r := (T + 33)) (wf_0_7 hT) ?_
        refine B_iload rfl my_44 rfl ?_
        refine B_aloadn rfl my_44 rfl ?_
        refine B_ref hE.1 rfl my_44 rfl (r := (T + 33)) (wf_0_7 hT) ?_
        refine B_iload rfl my_44 rfl ?_
        refine B_cV hE.1 rfl (nm_33 hT).1 cw_44_20 (as := [wi (rd s (T + 25) 501 (ca s T i c))]) (rest := [wi (rd s (T + 25) 501 (ca s T i c)), wr (T + 33)]) rfl (Nat.le_of_ble_eq_true rfl) (g_at hE (nm_33 hT) (by decide) (h2 _ (by omega) (by omega)).1) (fun vo s9 hq => ?_)
        obtain ⟨rfl, rfl⟩ := hq
        show Bt E 44 79 [wr T, wi c, wi f, wi i, wi (ca s T i c), wi (rd s (T + 25) 501 (ca s T i c))] [wi (rd s (T + 33) 6 (rd s (T + 25) 501 (ca s T i c))), wi (rd s (T + 25) 501 (ca s T i c)), wr (T + 33)] s _
        refine B_top (fun r6 => ?_)
        refine B_iconst rfl my_44 (by decide) ?_
        refine B_iadd rfl my_44 (by omega) (by omega) ?_
        refine B_cV hE.1 rfl (nm_33 hT).1 cw_44_21 (as := [wi (rd s (T + 25) 501 (ca s T i c)), wi ((rd s (T + 33) 6 (rd s (T + 25) 501 (ca s T i c))) + 1)]) (rest := []) rfl (Nat.le_of_ble_eq_true rfl) (g_put hE (nm_33 hT) (by decide)) (fun vo s9 hq => ?_)
        obtain ⟨rfl, rfl⟩ := hq
        show Bt E 44 84 [wr T, wi c, wi f, wi i, wi (ca s T i c), wi (rd s (T + 25) 501 (ca s T i c))] [] (pt s (T + 33) 6 (rd s (T + 25) 501 (ca s T i c)) ((rd s (T + 33) 6 (rd s (T + 25) 501 (ca s T i c))) + 1)) _
        refine B_iinc rfl my_44 (by decide) rfl rfl rfl (by omega) (by omega) (show _ = [wr T, wi c, wi f, wi (i + 1), wi (ca s T i c), wi (rd s (T + 25) 501 (ca s T i c))] from rfl) ?_
        refine B_goto rfl my_44 rfl (tgt := 25) rfl ?_
        refine B_loc (l' := [wr T, wi c, wi f, wi (i + 1), wx, wx]) ⟨Or.inl rfl, Or.inl rfl, Or.inl rfl, Or.inl rfl, Or.inr rfl, Or.inr rfl, trivial⟩ ?_
        refine ih _ _ (h1.tr (off_pt (R := fun a => a = T + 34) rfl)) (fun k9 k1 k2 => ⟨?_, ?_⟩) (by omega) (by omega) (by omega)
        · exact kr_pt (h2 k9 k1 k2).1
        · rw [ctn_s h3, ← hca, ← ek]
          by_cases e : k9 = rd s (T + 25) 501 (ca s T i c)
          · subst e
            rw [rd_pt_eq (by omega) (by omega), (h2 _ (by omega) (by omega)).2, if_pos ⟨by omega, rfl⟩]
          · rw [rd_pt_nk e, (h2 k9 k1 k2).2, if_neg (fun e3 => e e3.2.symm)]
            omega
theorem l_tally1 {E : mE} {σ : wSt} {T : Nat} (hE : wE E) (hT : Tb T) (hR : KRd T σ) (hI : RI T σ) (hk : KK T σ) (hs : SK T σ) {c f : Int} (hf : 0 ≤ f) (hf2 : f ≤ 100) : ∀ (k : Nat) (s : wSt) (i : Int), Off (fun a => a = T + 34) σ s → (∀ k9, 0 ≤ k9 → k9 < i → kr s (T + 33) 6 k9 ∧ rd s (T + 33) 6 k9 = 0) → 0 ≤ i → i ≤ 6 → (6 - i).toNat ≤ k → Bt E 44 2 [wr T, wi c, wi f, wi i, wx, wx] [] s (fun vo t => vo = none ∧ TY T σ t c f) := by
  intro k
  induction k with
  | zero =>
    intro s i h1 h2 h3 h4 hm
    refine B_rng 1 rfl (fun ha1 => ?_)
    refine B_rng 2 rfl (fun ha2 => ?_)
    refine B_rng 3 rfl (fun ha3 => ?_)
    refine B_iloadn rfl my_44 rfl ?_
    refine B_bipush rfl my_44 (n := 6) rfl ?_
    refine B_ic_ge rfl my_44 rfl (tgt := 23) (nx := 8) rfl rfl (fun c1 => ?_) (fun c1 => ?_)
    · refine B_iloadn rfl my_44 rfl ?_
      refine B_istoren rfl my_44 (by decide) rfl (show _ = [wr T, wi c, wi f, wi f, wx, wx] from rfl) ?_
      refine l_tally2 hE hT hR hI hk hs hf hf2 _ s f h1 (fun k9 k1 k2 => ⟨(h2 k9 k1 (by omega)).1, ?_⟩) (by omega) (by omega) (Nat.le_refl _)
      rw [(h2 k9 k1 (by omega)).2, show (f - f).toNat = 0 by omega]
      rfl
    · exact absurd hm (by omega)
  | succ k ih =>
    intro s i h1 h2 h3 h4 hm
    refine B_rng 1 rfl (fun ha1 => ?_)
    refine B_rng 2 rfl (fun ha2 => ?_)
    refine B_rng 3 rfl (fun ha3 => ?_)
    refine B_iloadn rfl my_44 rfl ?_
    refine B_bipush rfl my_44 (n := 6) rfl ?_
    refine B_ic_ge rfl my_44 rfl (tgt := 23) (nx := 8) rfl rfl (fun c1 => ?_) (fun c1 => ?_)
    · refine B_iloadn rfl my_44 rfl ?_
      refine B_istoren rfl my_44 (by decide) rfl (show _ = [wr T, wi c, wi f, wi f, wx, wx] from rfl) ?_
      refine l_tally2 hE hT hR hI hk hs hf hf2 _ s f h1 (fun k9 k1 k2 => ⟨(h2 k9 k1 (by omega)).1, ?_⟩) (by omega) (by omega) (Nat.le_refl _)
      rw [(h2 k9 k1 (by omega)).2, show (f - f).toNat = 0 by omega]
      rfl
    · refine B_aloadn rfl my_44 rfl ?_
      refine B_ref hE.1 rfl my_44 rfl (r := (T + 33)) (wf_0_7 hT) ?_
      refine B_iloadn rfl my_44 rfl ?_
      refine B_iconst rfl my_44 (by decide) ?_
      refine B_cV hE.1 rfl (nm_33 hT).1 cw_44_21 (as := [wi i, wi 0]) (rest := []) rfl (Nat.le_of_ble_eq_true rfl) (g_put hE (nm_33 hT) (by decide)) (fun vo s9 hq => ?_)
      obtain ⟨rfl, rfl⟩ := hq
      show Bt E 44 17 [wr T, wi c, wi f, wi i, wx, wx] [] (pt s (T + 33) 6 i 0) _
      refine B_iinc rfl my_44 (by decide) rfl rfl rfl (by omega) (by omega) (show _ = [wr T, wi c, wi f, wi (i + 1), wx, wx] from rfl) ?_
      refine B_goto rfl my_44 rfl (tgt := 2) rfl ?_
      refine ih _ _ (h1.tr (off_pt (R := fun a => a = T + 34) rfl)) (fun k9 k1 k2 => ?_) (by omega) (by omega) (by omega)
      by_cases e : k9 = i
      · subst e
        exact ⟨kr_pt_eq, rd_pt_eq (by omega) (by omega)⟩
      · exact ⟨kr_pt (h2 k9 k1 (by omega)).1, by rw [rd_pt_nk e]; exact (h2 k9 k1 (by omega)).2⟩
theorem g_tallyKinds {E : mE} {σ : wSt} {T : Nat} (hE : wE E) (hT : Tb T) (hR : KRd T σ) (hI : RI T σ) (hk : KK T σ) (hs : SK T σ) {c f : Int} (hf : 0 ≤ f) (hf2 : f ≤ 100) : Fn E 44 [wr T, wi c, wi f] σ (fun vo t => vo = none ∧ TY T σ t c f) := by
  refine Fn.of (nL := 6) ?_
  show Bt E 44 0 [wr T, wi c, wi f, wx, wx, wx] [] σ _
  refine B_rng 1 rfl (fun ha1 => ?_)
  refine B_rng 2 rfl (fun ha2 => ?_)
  refine B_iconst rfl my_44 (by decide) ?_
  refine B_istoren rfl my_44 (by decide) rfl (show _ = [wr T, wi c, wi f, wi 0, wx, wx] from rfl) ?_
  exact l_tally1 hE hT hR hI hk hs hf hf2 _ σ 0 Off.rf (fun k9 k1 k2 => by omega) (by omega) (by omega) (Nat.le_refl _)
/-- the tally is known -/
def YK (T : Nat) (σ : wSt) : Prop := ∀ k, 0 ≤ k → k < 6 → kr σ (T + 33) 6 k ∧ 0 ≤ rd σ (T + 33) 6 k ∧ rd σ (T + 33) 6 k ≤ 100
theorem ty_yk {T : Nat} {σ s : wSt} {c f : Int} (hI : RI T σ) (hf : 0 ≤ f) (h : TY T σ s c f) : YK T s := fun k h1 h2 => by
  obtain ⟨h3, h4⟩ := h.2 k h1 h2
  have h5 := ctn_le (σ := σ) (T := T) (c := c) (k := k) (f := f) (gv σ (T + 1) 9 - f).toNat
  have h6 := hI.1
  exact ⟨h3, by omega, by omega⟩
/-- the tallied cells that are not empty -/
def fl (σ : wSt) (T : Nat) : Int := rd σ (T + 33) 6 1 + rd σ (T + 33) 6 2 + rd σ (T + 33) 6 3 + rd σ (T + 33) 6 4 + rd σ (T + 33) 6 5
theorem g_talliedFilled {E : mE} {σ : wSt} {T : Nat} (hE : wE E) (hT : Tb T) (hy : YK T σ) : Gv E 45 [wr T] σ (wi (fl σ T)) := by
  have y0 := (hy 0 (by decide) (by decide)).2
  have y1 := (hy 1 (by decide) (by decide)).2
  have y2 := (hy 2 (by decide) (by decide)).2
  have y3 := (hy 3 (by decide) (by decide)).2
  have y4 := (hy 4 (by decide) (by decide)).2
  have y5 := (hy 5 (by decide) (by decide)).2
  refine Fn.of (nL := 3) ?_
  show Bt E 45 0 [wr T, wx, wx] [] σ _
  refine B_iconst rfl my_45 (by decide) ?_
  refine B_istoren rfl my_45 (by decide) rfl (show _ = [wr T, wi 0, wx] from rfl) ?_
  refine B_iconst rfl my_45 (by decide) ?_
  refine B_istoren rfl my_45 (by decide) rfl (show _ = [wr T, wi 0, wi 1] from rfl) ?_
  refine B_iloadn rfl my_45 rfl ?_
  refine B_bipush rfl my_45 (n := 6) rfl ?_
  refine B_ic_ge rfl my_45 rfl (tgt := 27) (nx := 10) rfl rfl (fun c9 => absurd c9 (by decide)) (fun _ => ?_)
  show Bt E 45 10 [wr T, wi 0, wi 1] [] σ _
  refine B_iloadn rfl my_45 rfl ?_
  refine B_aloadn rfl my_45 rfl ?_
  refine B_ref hE.1 rfl my_45 rfl (r := (T + 33)) (wf_0_7 hT) ?_
  refine B_iloadn rfl my_45 rfl ?_
  refine B_cV hE.1 rfl (nm_33 hT).1 cw_45_20 (as := [wi 1]) (rest := [wi 0]) rfl (Nat.le_of_ble_eq_true rfl) (g_at hE (nm_33 hT) (by decide) (hy _ (by decide) (by decide)).1) (fun vo s9 hq => ?_)
  obtain ⟨rfl, rfl⟩ := hq
  show Bt E 45 19 [wr T, wi 0, wi 1] [wi (rd σ (T + 33) 6 1), wi 0] σ _
  refine B_top (fun r2 => ?_)
  refine B_iadd rfl my_45 (by omega) (by omega) ?_
  refine B_istoren rfl my_45 (by decide) rfl (show _ = [wr T, wi (0 + (rd σ (T + 33) 6 1)), wi 1] from rfl) ?_
  refine B_iinc rfl my_45 (by decide) rfl rfl rfl (by omega) (by omega) (show _ = [wr T, wi (0 + (rd σ (T + 33) 6 1)), wi 2] from rfl) ?_
  refine B_goto rfl my_45 rfl (tgt := 4) rfl ?_
  refine B_iloadn rfl my_45 rfl ?_
  refine B_bipush rfl my_45 (n := 6) rfl ?_
  refine B_ic_ge rfl my_45 rfl (tgt := 27) (nx := 10) rfl rfl (fun c9 => absurd c9 (by decide)) (fun _ => ?_)
  show Bt E 45 10 [wr T, wi (0 + (rd σ (T + 33) 6 1)), wi 2] [] σ _
  refine B_iloadn rfl my_45 rfl ?_
  refine B_aloadn rfl my_45 rfl ?_
  refine B_ref hE.1 rfl my_45 rfl (r := (T + 33)) (wf_0_7 hT) ?_
  refine B_iloadn rfl my_45 rfl ?_
  refine B_cV hE.1 rfl (nm_33 hT).1 cw_45_20 (as := [wi 2]) (rest := [wi (0 + (rd σ (T + 33) 6 1))]) rfl (Nat.le_of_ble_eq_true rfl) (g_at hE (nm_33 hT) (by decide) (hy _ (by decide) (by decide)).1) (fun vo s9 hq => ?_)
  obtain ⟨rfl, rfl⟩ := hq
  show Bt E 45 19 [wr T, wi (0 + (rd σ (T + 33) 6 1)), wi 2] [wi (rd σ (T + 33) 6 2), wi (0 + (rd σ (T + 33) 6 1))] σ _
  refine B_top (fun r4 => ?_)
  refine B_iadd rfl my_45 (by omega) (by omega) ?_
  refine B_istoren rfl my_45 (by decide) rfl (show _ = [wr T, wi ((0 + (rd σ (T + 33) 6 1)) + (rd σ (T + 33) 6 2)), wi 2] from rfl) ?_
  refine B_iinc rfl my_45 (by decide) rfl rfl rfl (by omega) (by omega) (show _ = [wr T, wi ((0 + (rd σ (T + 33) 6 1)) + (rd σ (T + 33) 6 2)), wi 3] from rfl) ?_
  refine B_goto rfl my_45 rfl (tgt := 4) rfl ?_
  refine B_iloadn rfl my_45 rfl ?_
  refine B_bipush rfl my_45 (n := 6) rfl ?_
  refine B_ic_ge rfl my_45 rfl (tgt := 27) (nx := 10) rfl rfl (fun c9 => absurd c9 (by decide)) (fun _ => ?_)
  show Bt E 45 10 [wr T, wi ((0 + (rd σ (T + 33) 6 1)) + (rd σ (T + 33) 6 2)), wi 3] [] σ _
  refine B_iloadn rfl my_45 rfl ?_
  refine B_aloadn rfl my_45 rfl ?_
  refine B_ref hE.1 rfl my_45 rfl (r := (T + 33)) (wf_0_7 hT) ?_
  refine B_iloadn rfl my_45 rfl ?_
  refine B_cV hE.1 rfl (nm_33 hT).1 cw_45_20 (as := [wi 3]) (rest := [wi ((0 + (rd σ (T + 33) 6 1)) + (rd σ (T + 33) 6 2))]) rfl (Nat.le_of_ble_eq_true rfl) (g_at hE (nm_33 hT) (by decide) (hy _ (by decide) (by decide)).1) (fun vo s9 hq => ?_)
  obtain ⟨rfl, rfl⟩ := hq
  show Bt E 45 19 [wr T, wi ((0 + (rd σ (T + 33) 6 1)) + (rd σ (T + 33) 6 2)), wi 3] [wi (rd σ (T + 33) 6 3), wi ((0 + (rd σ (T + 33) 6 1)) + (rd σ (T + 33) 6 2))] σ _
  refine B_top (fun r6 => ?_)
  refine B_iadd rfl my_45 (by omega) (by omega) ?_
  refine B_istoren rfl my_45 (by decide) rfl (show _ = [wr T, wi (((0 + (rd σ (T + 33) 6 1)) + (rd σ (T + 33) 6 2)) + (rd σ (T + 33) 6 3)), wi 3] from rfl) ?_
  refine B_iinc rfl my_45 (by decide) rfl rfl rfl (by omega) (by omega) (show _ = [wr T, wi (((0 + (rd σ (T + 33) 6 1)) + (rd σ (T + 33) 6 2)) + (rd σ (T + 33) 6 3)), wi 4] from rfl) ?_
  refine B_goto rfl my_45 rfl (tgt := 4) rfl ?_
  refine B_iloadn rfl my_45 rfl ?_
  refine B_bipush rfl my_45 (n := 6) rfl ?_
  refine B_ic_ge rfl my_45 rfl (tgt := 27) (nx := 10) rfl rfl (fun c9 => absurd c9 (by decide)) (fun _ => ?_)
  show Bt E 45 10 [wr T, wi (((0 + (rd σ (T + 33) 6 1)) + (rd σ (T + 33) 6 2)) + (rd σ (T + 33) 6 3)), wi 4] [] σ _
  refine B_iloadn rfl my_45 rfl ?_
  refine B_aloadn rfl my_45 rfl ?_
  refine B_ref hE.1 rfl my_45 rfl (r := (T + 33)) (wf_0_7 hT) ?_
  refine B_iloadn rfl my_45 rfl ?_
  refine B_cV hE.1 rfl (nm_33 hT).1 cw_45_20 (as := [wi 4]) (rest := [wi (((0 + (rd σ (T + 33) 6 1)) + (rd σ (T + 33) 6 2)) + (rd σ (T + 33) 6 3))]) rfl (Nat.le_of_ble_eq_true rfl) (g_at hE (nm_33 hT) (by decide) (hy _ (by decide) (by decide)).1) (fun vo s9 hq => ?_)
  obtain ⟨rfl, rfl⟩ := hq
  show Bt E 45 19 [wr T, wi (((0 + (rd σ (T + 33) 6 1)) + (rd σ (T + 33) 6 2)) + (rd σ (T + 33) 6 3)), wi 4] [wi (rd σ (T + 33) 6 4), wi (((0 + (rd σ (T + 33) 6 1)) + (rd σ (T + 33) 6 2)) + (rd σ (T + 33) 6 3))] σ _
  refine B_top (fun r8 => ?_)
  refine B_iadd rfl my_45 (by omega) (by omega) ?_
  refine B_istoren rfl my_45 (by decide) rfl (show _ = [wr T, wi ((((0 + (rd σ (T + 33) 6 1)) + (rd σ (T + 33) 6 2)) + (rd σ (T + 33) 6 3)) + (rd σ (T + 33) 6 4)), wi 4] from rfl) ?_
  refine B_iinc rfl my_45 (by decide) rfl rfl rfl (by omega) (by omega) (show _ = [wr T, wi ((((0 + (rd σ (T + 33) 6 1)) + (rd σ (T + 33) 6 2)) + (rd σ (T + 33) 6 3)) + (rd σ (T + 33) 6 4)), wi 5] from rfl) ?_
  refine B_goto rfl my_45 rfl (tgt := 4) rfl ?_
  refine B_iloadn rfl my_45 rfl ?_
  refine B_bipush rfl my_45 (n := 6) rfl ?_
  refine B_ic_ge rfl my_45 rfl (tgt := 27) (nx := 10) rfl rfl (fun c9 => absurd c9 (by decide)) (fun _ => ?_)
  show Bt E 45 10 [wr T, wi ((((0 + (rd σ (T + 33) 6 1)) + (rd σ (T + 33) 6 2)) + (rd σ (T + 33) 6 3)) + (rd σ (T + 33) 6 4)), wi 5] [] σ _
  refine B_iloadn rfl my_45 rfl ?_
  refine B_aloadn rfl my_45 rfl ?_
  refine B_ref hE.1 rfl my_45 rfl (r := (T + 33)) (wf_0_7 hT) ?_
  refine B_iloadn rfl my_45 rfl ?_
  refine B_cV hE.1 rfl (nm_33 hT).1 cw_45_20 (as := [wi 5]) (rest := [wi ((((0 + (rd σ (T + 33) 6 1)) + (rd σ (T + 33) 6 2)) + (rd σ (T + 33) 6 3)) + (rd σ (T + 33) 6 4))]) rfl (Nat.le_of_ble_eq_true rfl) (g_at hE (nm_33 hT) (by decide) (hy _ (by decide) (by decide)).1) (fun vo s9 hq => ?_)
  obtain ⟨rfl, rfl⟩ := hq
  show Bt E 45 19 [wr T, wi ((((0 + (rd σ (T + 33) 6 1)) + (rd σ (T + 33) 6 2)) + (rd σ (T + 33) 6 3)) + (rd σ (T + 33) 6 4)), wi 5] [wi (rd σ (T + 33) 6 5), wi ((((0 + (rd σ (T + 33) 6 1)) + (rd σ (T + 33) 6 2)) + (rd σ (T + 33) 6 3)) + (rd σ (T + 33) 6 4))] σ _
  refine B_top (fun r10 => ?_)
  refine B_iadd rfl my_45 (by omega) (by omega) ?_
  refine B_istoren rfl my_45 (by decide) rfl (show _ = [wr T, wi (((((0 + (rd σ (T + 33) 6 1)) + (rd σ (T + 33) 6 2)) + (rd σ (T + 33) 6 3)) + (rd σ (T + 33) 6 4)) + (rd σ (T + 33) 6 5)), wi 5] from rfl) ?_
  refine B_iinc rfl my_45 (by decide) rfl rfl rfl (by omega) (by omega) (show _ = [wr T, wi (((((0 + (rd σ (T + 33) 6 1)) + (rd σ (T + 33) 6 2)) + (rd σ (T + 33) 6 3)) + (rd σ (T + 33) 6 4)) + (rd σ (T + 33) 6 5)), wi 6] from rfl) ?_
  refine B_goto rfl my_45 rfl (tgt := 4) rfl ?_
  refine B_iloadn rfl my_45 rfl ?_
  refine B_bipush rfl my_45 (n := 6) rfl ?_
  refine B_ic_ge rfl my_45 rfl (tgt := 27) (nx := 10) rfl rfl (fun _ => ?_) (fun c9 => absurd c9 (by decide))
  show Bt E 45 27 [wr T, wi (((((0 + (rd σ (T + 33) 6 1)) + (rd σ (T + 33) 6 2)) + (rd σ (T + 33) 6 3)) + (rd σ (T + 33) 6 4)) + (rd σ (T + 33) 6 5)), wi 6] [] σ _
  refine B_iloadn rfl my_45 rfl ?_
  refine B_iret rfl my_45 rfl ?_
  refine ⟨congrArg (fun z => some (wi z)) ?_, rfl⟩
  unfold fl
  omega
theorem g_talliedKind {E : mE} {σ : wSt} {T : Nat} (hE : wE E) (hT : Tb T) (hy : YK T σ) {q : Int} : Ev E 46 [wr T, wi q] σ (fun x => 0 ≤ x ∧ x ≤ 5 ∧ (x = 0 ↔ fl σ T = 0)) := by
  have y0 := (hy 0 (by decide) (by decide)).2
  have y1 := (hy 1 (by decide) (by decide)).2
  have y2 := (hy 2 (by decide) (by decide)).2
  have y3 := (hy 3 (by decide) (by decide)).2
  have y4 := (hy 4 (by decide) (by decide)).2
  have y5 := (hy 5 (by decide) (by decide)).2
  refine Fn.of (nL := 7) ?_
  show Bt E 46 0 [wr T, wi q, wx, wx, wx, wx, wx] [] σ _
  refine B_rng 1 rfl (fun ha1 => ?_)
  refine B_aloadn rfl my_46 rfl ?_
  refine B_cV hE.1 rfl (wc_0 hT) cw_46_45 (as := []) (rest := []) rfl (Nat.le_of_ble_eq_true rfl) (g_talliedFilled hE hT hy) (fun vo s9 hq => ?_)
  obtain ⟨rfl, rfl⟩ := hq
  show Bt E 46 4 [wr T, wi q, wx, wx, wx, wx, wx] [wi (fl σ T)] σ _
  refine B_top (fun r1 => ?_)
  refine B_istoren rfl my_46 (by decide) rfl (show _ = [wr T, wi q, wi (fl σ T), wx, wx, wx, wx] from rfl) ?_
  refine B_iloadn rfl my_46 rfl ?_
  refine B_if_ne rfl my_46 rfl (tgt := 11) (nx := 9) rfl rfl (fun c2 => ?_) (fun c2 => ?_)
  · refine B_iconst rfl my_46 (by decide) ?_
    refine B_istoren rfl my_46 (by decide) rfl (show _ = [wr T, wi q, wi (fl σ T), wi 1, wx, wx, wx] from rfl) ?_
    refine B_aloadn rfl my_46 rfl ?_
    refine B_ref hE.1 rfl my_46 rfl (r := (T + 33)) (wf_0_7 hT) ?_
    refine B_iconst rfl my_46 (by decide) ?_
    refine B_cV hE.1 rfl (nm_33 hT).1 cw_46_20 (as := [wi 1]) (rest := []) rfl (Nat.le_of_ble_eq_true rfl) (g_at hE (nm_33 hT) (by decide) (hy _ (by decide) (by decide)).1) (fun vo s9 hq => ?_)
    obtain ⟨rfl, rfl⟩ := hq
    show Bt E 46 21 [wr T, wi q, wi (fl σ T), wi 1, wx, wx, wx] [wi (rd σ (T + 33) 6 1)] σ _
    refine B_top (fun r3 => ?_)
    refine B_istore rfl my_46 (by decide) rfl (show _ = [wr T, wi q, wi (fl σ T), wi 1, wi (rd σ (T + 33) 6 1), wx, wx] from rfl) ?_
    refine B_iconst rfl my_46 (by decide) ?_
    refine B_istore rfl my_46 (by decide) rfl (show _ = [wr T, wi q, wi (fl σ T), wi 1, wi (rd σ (T + 33) 6 1), wi 2, wx] from rfl) ?_
    refine B_iload rfl my_46 rfl ?_
    refine B_iconst rfl my_46 (by decide) ?_
    refine B_ic_gt rfl my_46 rfl (tgt := 87) (nx := 32) rfl rfl (fun c9 => absurd c9 (by decide)) (fun _ => ?_)
    show Bt E 46 32 [wr T, wi q, wi (fl σ T), wi 1, wi (rd σ (T + 33) 6 1), wi 2, wx] [] σ _
    refine B_aloadn rfl my_46 rfl ?_
    refine B_ref hE.1 rfl my_46 rfl (r := (T + 33)) (wf_0_7 hT) ?_
    refine B_iload rfl my_46 rfl ?_
    refine B_cV hE.1 rfl (nm_33 hT).1 cw_46_20 (as := [wi 2]) (rest := []) rfl (Nat.le_of_ble_eq_true rfl) (g_at hE (nm_33 hT) (by decide) (hy _ (by decide) (by decide)).1) (fun vo s9 hq => ?_)
    obtain ⟨rfl, rfl⟩ := hq
    show Bt E 46 41 [wr T, wi q, wi (fl σ T), wi 1, wi (rd σ (T + 33) 6 1), wi 2, wx] [wi (rd σ (T + 33) 6 2)] σ _
    refine B_top (fun r5 => ?_)
    refine B_istore rfl my_46 (by decide) rfl (show _ = [wr T, wi q, wi (fl σ T), wi 1, wi (rd σ (T + 33) 6 1), wi 2, wi (rd σ (T + 33) 6 2)] from rfl) ?_
    refine B_iload rfl my_46 rfl ?_
    refine B_iconst rfl my_46 (by decide) ?_
    refine B_ic_ne rfl my_46 rfl (tgt := 67) (nx := 49) rfl rfl (fun c9 => absurd c9 (by decide)) (fun _ => ?_)
    show Bt E 46 49 [wr T, wi q, wi (fl σ T), wi 1, wi (rd σ (T + 33) 6 1), wi 2, wi (rd σ (T + 33) 6 2)] [] σ _
    refine B_iload rfl my_46 rfl ?_
    refine B_if_le rfl my_46 rfl (tgt := 67) (nx := 54) rfl rfl (fun c7 => ?_) (fun c7 => ?_)
    · refine B_iload rfl my_46 rfl ?_
      refine B_iload rfl my_46 rfl ?_
      refine B_ic_le rfl my_46 rfl (tgt := 81) (nx := 74) rfl rfl (fun c8 => ?_) (fun c8 => ?_)
      · refine B_iinc rfl my_46 (by decide) rfl rfl rfl (by omega) (by omega) (show _ = [wr T, wi q, wi (fl σ T), wi 1, wi (rd σ (T + 33) 6 1), wi 3, wi (rd σ (T + 33) 6 2)] from rfl) ?_
        refine B_goto rfl my_46 rfl (tgt := 26) rfl ?_
        refine B_iload rfl my_46 rfl ?_
        refine B_iconst rfl my_46 (by decide) ?_
        refine B_ic_gt rfl my_46 rfl (tgt := 87) (nx := 32) rfl rfl (fun c9 => absurd c9 (by decide)) (fun _ => ?_)
        show Bt E 46 32 [wr T, wi q, wi (fl σ T), wi 1, wi (rd σ (T + 33) 6 1), wi 3, wi (rd σ (T + 33) 6 2)] [] σ _
        refine B_aloadn rfl my_46 rfl ?_
        refine B_ref hE.1 rfl my_46 rfl (r := (T + 33)) (wf_0_7 hT) ?_
        refine B_iload rfl my_46 rfl ?_
        refine B_cV hE.1 rfl (nm_33 hT).1 cw_46_20 (as := [wi 3]) (rest := []) rfl (Nat.le_of_ble_eq_true rfl) (g_at hE (nm_33 hT) (by decide) (hy _ (by decide) (by decide)).1) (fun vo s9 hq => ?_)
        obtain ⟨rfl, rfl⟩ := hq
        show Bt E 46 41 [wr T, wi q, wi (fl σ T), wi 1, wi (rd σ (T + 33) 6 1), wi 3, wi (rd σ (T + 33) 6 2)] [wi (rd σ (T + 33) 6 3)] σ _
        refine B_top (fun r10 => ?_)
        refine B_istore rfl my_46 (by decide) rfl (show _ = [wr T, wi q, wi (fl σ T), wi 1, wi (rd σ (T + 33) 6 1), wi 3, wi (rd σ (T + 33) 6 3)] from rfl) ?_
        refine B_iload rfl my_46 rfl ?_
        refine B_iconst rfl my_46 (by decide) ?_
        refine B_ic_ne rfl my_46 rfl (tgt := 67) (nx := 49) rfl rfl (fun _ => ?_) (fun c9 => absurd c9 (by decide))
        show Bt E 46 67 [wr T, wi q, wi (fl σ T), wi 1, wi (rd σ (T + 33) 6 1), wi 3, wi (rd σ (T + 33) 6 3)] [] σ _
        refine B_iload rfl my_46 rfl ?_
        refine B_iload rfl my_46 rfl ?_
        refine B_ic_le rfl my_46 rfl (tgt := 81) (nx := 74) rfl rfl (fun c12 => ?_) (fun c12 => ?_)
        · refine B_iinc rfl my_46 (by decide) rfl rfl rfl (by omega) (by omega) (show _ = [wr T, wi q, wi (fl σ T), wi 1, wi (rd σ (T + 33) 6 1), wi 4, wi (rd σ (T + 33) 6 3)] from rfl) ?_
          refine B_goto rfl my_46 rfl (tgt := 26) rfl ?_
          refine B_iload rfl my_46 rfl ?_
          refine B_iconst rfl my_46 (by decide) ?_
          refine B_ic_gt rfl my_46 rfl (tgt := 87) (nx := 32) rfl rfl (fun c9 => absurd c9 (by decide)) (fun _ => ?_)
          show Bt E 46 32 [wr T, wi q, wi (fl σ T), wi 1, wi (rd σ (T + 33) 6 1), wi 4, wi (rd σ (T + 33) 6 3)] [] σ _
          refine B_aloadn rfl my_46 rfl ?_
          refine B_ref hE.1 rfl my_46 rfl (r := (T + 33)) (wf_0_7 hT) ?_
          refine B_iload rfl my_46 rfl ?_
          refine B_cV hE.1 rfl (nm_33 hT).1 cw_46_20 (as := [wi 4]) (rest := []) rfl (Nat.le_of_ble_eq_true rfl) (g_at hE (nm_33 hT) (by decide) (hy _ (by decide) (by decide)).1) (fun vo s9 hq => ?_)
          obtain ⟨rfl, rfl⟩ := hq
          show Bt E 46 41 [wr T, wi q, wi (fl σ T), wi 1, wi (rd σ (T + 33) 6 1), wi 4, wi (rd σ (T + 33) 6 3)] [wi (rd σ (T + 33) 6 4)] σ _
          refine B_top (fun r14 => ?_)
          refine B_istore rfl my_46 (by decide) rfl (show _ = [wr T, wi q, wi (fl σ T), wi 1, wi (rd σ (T + 33) 6 1), wi 4, wi (rd σ (T + 33) 6 4)] from rfl) ?_
          refine B_iload rfl my_46 rfl ?_
          refine B_iconst rfl my_46 (by decide) ?_
          refine B_ic_ne rfl my_46 rfl (tgt := 67) (nx := 49) rfl rfl (fun _ => ?_) (fun c9 => absurd c9 (by decide))
          show Bt E 46 67 [wr T, wi q, wi (fl σ T), wi 1, wi (rd σ (T + 33) 6 1), wi 4, wi (rd σ (T + 33) 6 4)] [] σ _
          refine B_iload rfl my_46 rfl ?_
          refine B_iload rfl my_46 rfl ?_
          refine B_ic_le rfl my_46 rfl (tgt := 81) (nx := 74) rfl rfl (fun c16 => ?_) (fun c16 => ?_)
          · refine B_iinc rfl my_46 (by decide) rfl rfl rfl (by omega) (by omega) (show _ = [wr T, wi q, wi (fl σ T), wi 1, wi (rd σ (T + 33) 6 1), wi 5, wi (rd σ (T + 33) 6 4)] from rfl) ?_
            refine B_goto rfl my_46 rfl (tgt := 26) rfl ?_
            refine B_iload rfl my_46 rfl ?_
            refine B_iconst rfl my_46 (by decide) ?_
            refine B_ic_gt rfl my_46 rfl (tgt := 87) (nx := 32) rfl rfl (fun _ => ?_) (fun c9 => absurd c9 (by decide))
            show Bt E 46 87 [wr T, wi q, wi (fl σ T), wi 1, wi (rd σ (T + 33) 6 1), wi 5, wi (rd σ (T + 33) 6 4)] [] σ _
            refine B_iload rfl my_46 rfl ?_
            refine B_bipush rfl my_46 (n := 100) rfl ?_
            refine B_imulW rfl my_46 ?_
            refine B_top (fun r18 => ?_)
            refine B_iloadn rfl my_46 rfl ?_
            refine B_iloadn rfl my_46 rfl ?_
            refine B_imulW rfl my_46 ?_
            refine B_top (fun r19 => ?_)
            refine B_ic_lt rfl my_46 rfl (tgt := 102) (nx := 98) rfl rfl (fun c20 => ?_) (fun c20 => ?_)
            · refine B_iconst rfl my_46 (by decide) ?_
              refine B_iret rfl my_46 rfl ?_
              exact ⟨_, rfl, ⟨by omega, by omega, by omega⟩, rfl⟩
            · refine B_iloadn rfl my_46 rfl ?_
              refine B_goto rfl my_46 rfl (tgt := 103) rfl ?_
              refine B_iret rfl my_46 rfl ?_
              exact ⟨_, rfl, ⟨by omega, by omega, by omega⟩, rfl⟩
          · refine B_iload rfl my_46 rfl ?_
            refine B_istoren rfl my_46 (by decide) rfl (show _ = [wr T, wi q, wi (fl σ T), wi 4, wi (rd σ (T + 33) 6 1), wi 4, wi (rd σ (T + 33) 6 4)] from rfl) ?_
            refine B_iload rfl my_46 rfl ?_
            refine B_istore rfl my_46 (by decide) rfl (show _ = [wr T, wi q, wi (fl σ T), wi 4, wi (rd σ (T + 33) 6 4), wi 4, wi (rd σ (T + 33) 6 4)] from rfl) ?_
            refine B_iinc rfl my_46 (by decide) rfl rfl rfl (by omega) (by omega) (show _ = [wr T, wi q, wi (fl σ T), wi 4, wi (rd σ (T + 33) 6 4), wi 5, wi (rd σ (T + 33) 6 4)] from rfl) ?_
            refine B_goto rfl my_46 rfl (tgt := 26) rfl ?_
            refine B_iload rfl my_46 rfl ?_
            refine B_iconst rfl my_46 (by decide) ?_
            refine B_ic_gt rfl my_46 rfl (tgt := 87) (nx := 32) rfl rfl (fun _ => ?_) (fun c9 => absurd c9 (by decide))
            show Bt E 46 87 [wr T, wi q, wi (fl σ T), wi 4, wi (rd σ (T + 33) 6 4), wi 5, wi (rd σ (T + 33) 6 4)] [] σ _
            refine B_iload rfl my_46 rfl ?_
            refine B_bipush rfl my_46 (n := 100) rfl ?_
            refine B_imulW rfl my_46 ?_
            refine B_top (fun r22 => ?_)
            refine B_iloadn rfl my_46 rfl ?_
            refine B_iloadn rfl my_46 rfl ?_
            refine B_imulW rfl my_46 ?_
            refine B_top (fun r23 => ?_)
            refine B_ic_lt rfl my_46 rfl (tgt := 102) (nx := 98) rfl rfl (fun c24 => ?_) (fun c24 => ?_)
            · refine B_iconst rfl my_46 (by decide) ?_
              refine B_iret rfl my_46 rfl ?_
              exact ⟨_, rfl, ⟨by omega, by omega, by omega⟩, rfl⟩
            · refine B_iloadn rfl my_46 rfl ?_
              refine B_goto rfl my_46 rfl (tgt := 103) rfl ?_
              refine B_iret rfl my_46 rfl ?_
              exact ⟨_, rfl, ⟨by omega, by omega, by omega⟩, rfl⟩
        · refine B_iload rfl my_46 rfl ?_
          refine B_istoren rfl my_46 (by decide) rfl (show _ = [wr T, wi q, wi (fl σ T), wi 3, wi (rd σ (T + 33) 6 1), wi 3, wi (rd σ (T + 33) 6 3)] from rfl) ?_
          refine B_iload rfl my_46 rfl ?_
          refine B_istore rfl my_46 (by decide) rfl (show _ = [wr T, wi q, wi (fl σ T), wi 3, wi (rd σ (T + 33) 6 3), wi 3, wi (rd σ (T + 33) 6 3)] from rfl) ?_
          refine B_iinc rfl my_46 (by decide) rfl rfl rfl (by omega) (by omega) (show _ = [wr T, wi q, wi (fl σ T), wi 3, wi (rd σ (T + 33) 6 3), wi 4, wi (rd σ (T + 33) 6 3)] from rfl) ?_
          refine B_goto rfl my_46 rfl (tgt := 26) rfl ?_
          refine B_iload rfl my_46 rfl ?_
          refine B_iconst rfl my_46 (by decide) ?_
          refine B_ic_gt rfl my_46 rfl (tgt := 87) (nx := 32) rfl rfl (fun c9 => absurd c9 (by decide)) (fun _ => ?_)
          show Bt E 46 32 [wr T, wi q, wi (fl σ T), wi 3, wi (rd σ (T + 33) 6 3), wi 4, wi (rd σ (T + 33) 6 3)] [] σ _
          refine B_aloadn rfl my_46 rfl ?_
          refine B_ref hE.1 rfl my_46 rfl (r := (T + 33)) (wf_0_7 hT) ?_
          refine B_iload rfl my_46 rfl ?_
          refine B_cV hE.1 rfl (nm_33 hT).1 cw_46_20 (as := [wi 4]) (rest := []) rfl (Nat.le_of_ble_eq_true rfl) (g_at hE (nm_33 hT) (by decide) (hy _ (by decide) (by decide)).1) (fun vo s9 hq => ?_)
          obtain ⟨rfl, rfl⟩ := hq
          show Bt E 46 41 [wr T, wi q, wi (fl σ T), wi 3, wi (rd σ (T + 33) 6 3), wi 4, wi (rd σ (T + 33) 6 3)] [wi (rd σ (T + 33) 6 4)] σ _
          refine B_top (fun r26 => ?_)
          refine B_istore rfl my_46 (by decide) rfl (show _ = [wr T, wi q, wi (fl σ T), wi 3, wi (rd σ (T + 33) 6 3), wi 4, wi (rd σ (T + 33) 6 4)] from rfl) ?_
          refine B_iload rfl my_46 rfl ?_
          refine B_iconst rfl my_46 (by decide) ?_
          refine B_ic_ne rfl my_46 rfl (tgt := 67) (nx := 49) rfl rfl (fun _ => ?_) (fun c9 => absurd c9 (by decide))
          show Bt E 46 67 [wr T, wi q, wi (fl σ T), wi 3, wi (rd σ (T + 33) 6 3), wi 4, wi (rd σ (T + 33) 6 4)] [] σ _
          refine B_iload rfl my_46 rfl ?_
          refine B_iload rfl my_46 rfl ?_
          refine B_ic_le rfl my_46 rfl (tgt := 81) (nx := 74) rfl rfl (fun c28 => ?_) (fun c28 => ?_)
          · refine B_iinc rfl my_46 (by decide) rfl rfl rfl (by omega) (by omega) (show _ = [wr T, wi q, wi (fl σ T), wi 3, wi (rd σ (T + 33) 6 3), wi 5, wi (rd σ (T + 33) 6 4)] from rfl) ?_
            refine B_goto rfl my_46 rfl (tgt := 26) rfl ?_
            refine B_iload rfl my_46 rfl ?_
            refine B_iconst rfl my_46 (by decide) ?_
            refine B_ic_gt rfl my_46 rfl (tgt := 87) (nx := 32) rfl rfl (fun _ => ?_) (fun c9 => absurd c9 (by decide))
            show Bt E 46 87 [wr T, wi q, wi (fl σ T), wi 3, wi (rd σ (T + 33) 6 3), wi 5, wi (rd σ (T + 33) 6 4)] [] σ _
            refine B_iload rfl my_46 rfl ?_
            refine B_bipush rfl my_46 (n := 100) rfl ?_
            refine B_imulW rfl my_46 ?_
            refine B_top (fun r30 => ?_)
            refine B_iloadn rfl my_46 rfl ?_
            refine B_iloadn rfl my_46 rfl ?_
            refine B_imulW rfl my_46 ?_
            refine B_top (fun r31 => ?_)
            refine B_ic_lt rfl my_46 rfl (tgt := 102) (nx := 98) rfl rfl (fun c32 => ?_) (fun c32 => ?_)
            · refine B_iconst rfl my_46 (by decide) ?_
              refine B_iret rfl my_46 rfl ?_
              exact ⟨_, rfl, ⟨by omega, by omega, by omega⟩, rfl⟩
            · refine B_iloadn rfl my_46 rfl ?_
              refine B_goto rfl my_46 rfl (tgt := 103) rfl ?_
              refine B_iret rfl my_46 rfl ?_
              exact ⟨_, rfl, ⟨by omega, by omega, by omega⟩, rfl⟩
          · refine B_iload rfl my_46 rfl ?_
            refine B_istoren rfl my_46 (by decide) rfl (show _ = [wr T, wi q, wi (fl σ T), wi 4, wi (rd σ (T + 33) 6 3), wi 4, wi (rd σ (T + 33) 6 4)] from rfl) ?_
            refine B_iload rfl my_46 rfl ?_
            refine B_istore rfl my_46 (by decide) rfl (show _ = [wr T, wi q, wi (fl σ T), wi 4, wi (rd σ (T + 33) 6 4), wi 4, wi (rd σ (T + 33) 6 4)] from rfl) ?_
            refine B_iinc rfl my_46 (by decide) rfl rfl rfl (by omega) (by omega) (show _ = [wr T, wi q, wi (fl σ T), wi 4, wi (rd σ (T + 33) 6 4), wi 5, wi (rd σ (T + 33) 6 4)] from rfl) ?_
            refine B_goto rfl my_46 rfl (tgt := 26) rfl ?_
            refine B_iload rfl my_46 rfl ?_
            refine B_iconst rfl my_46 (by decide) ?_
            refine B_ic_gt rfl my_46 rfl (tgt := 87) (nx := 32) rfl rfl (fun _ => ?_) (fun c9 => absurd c9 (by decide))
            show Bt E 46 87 [wr T, wi q, wi (fl σ T), wi 4, wi (rd σ (T + 33) 6 4), wi 5, wi (rd σ (T + 33) 6 4)] [] σ _
            refine B_iload rfl my_46 rfl ?_
            refine B_bipush rfl my_46 (n := 100) rfl ?_
            refine B_imulW rfl my_46 ?_
            refine B_top (fun r34 => ?_)
            refine B_iloadn rfl my_46 rfl ?_
            refine B_iloadn rfl my_46 rfl ?_
            refine B_imulW rfl my_46 ?_
            refine B_top (fun r35 => ?_)
            refine B_ic_lt rfl my_46 rfl (tgt := 102) (nx := 98) rfl rfl (fun c36 => ?_) (fun c36 => ?_)
            · refine B_iconst rfl my_46 (by decide) ?_
              refine B_iret rfl my_46 rfl ?_
              exact ⟨_, rfl, ⟨by omega, by omega, by omega⟩, rfl⟩
            · refine B_iloadn rfl my_46 rfl ?_
              refine B_goto rfl my_46 rfl (tgt := 103) rfl ?_
              refine B_iret rfl my_46 rfl ?_
              exact ⟨_, rfl, ⟨by omega, by omega, by omega⟩, rfl⟩
      · refine B_iload rfl my_46 rfl ?_
        refine B_istoren rfl my_46 (by decide) rfl (show _ = [wr T, wi q, wi (fl σ T), wi 2, wi (rd σ (T + 33) 6 1), wi 2, wi (rd σ (T + 33) 6 2)] from rfl) ?_
        refine B_iload rfl my_46 rfl ?_
        refine B_istore rfl my_46 (by decide) rfl (show _ = [wr T, wi q, wi (fl σ T), wi 2, wi (rd σ (T + 33) 6 2), wi 2, wi (rd σ (T + 33) 6 2)] from rfl) ?_
        refine B_iinc rfl my_46 (by decide) rfl rfl rfl (by omega) (by omega) (show _ = [wr T, wi q, wi (fl σ T), wi 2, wi (rd σ (T + 33) 6 2), wi 3, wi (rd σ (T + 33) 6 2)] from rfl) ?_
        refine B_goto rfl my_46 rfl (tgt := 26) rfl ?_
        refine B_iload rfl my_46 rfl ?_
        refine B_iconst rfl my_46 (by decide) ?_
        refine B_ic_gt rfl my_46 rfl (tgt := 87) (nx := 32) rfl rfl (fun c9 => absurd c9 (by decide)) (fun _ => ?_)
        show Bt E 46 32 [wr T, wi q, wi (fl σ T), wi 2, wi (rd σ (T + 33) 6 2), wi 3, wi (rd σ (T + 33) 6 2)] [] σ _
        refine B_aloadn rfl my_46 rfl ?_
        refine B_ref hE.1 rfl my_46 rfl (r := (T + 33)) (wf_0_7 hT) ?_
        refine B_iload rfl my_46 rfl ?_
        refine B_cV hE.1 rfl (nm_33 hT).1 cw_46_20 (as := [wi 3]) (rest := []) rfl (Nat.le_of_ble_eq_true rfl) (g_at hE (nm_33 hT) (by decide) (hy _ (by decide) (by decide)).1) (fun vo s9 hq => ?_)
        obtain ⟨rfl, rfl⟩ := hq
        show Bt E 46 41 [wr T, wi q, wi (fl σ T), wi 2, wi (rd σ (T + 33) 6 2), wi 3, wi (rd σ (T + 33) 6 2)] [wi (rd σ (T + 33) 6 3)] σ _
        refine B_top (fun r38 => ?_)
        refine B_istore rfl my_46 (by decide) rfl (show _ = [wr T, wi q, wi (fl σ T), wi 2, wi (rd σ (T + 33) 6 2), wi 3, wi (rd σ (T + 33) 6 3)] from rfl) ?_
        refine B_iload rfl my_46 rfl ?_
        refine B_iconst rfl my_46 (by decide) ?_
        refine B_ic_ne rfl my_46 rfl (tgt := 67) (nx := 49) rfl rfl (fun _ => ?_) (fun c9 => absurd c9 (by decide))
        show Bt E 46 67 [wr T, wi q, wi (fl σ T), wi 2, wi (rd σ (T + 33) 6 2), wi 3, wi (rd σ (T + 33) 6 3)] [] σ _
        refine B_iload rfl my_46 rfl ?_
        refine B_iload rfl my_46 rfl ?_
        refine B_ic_le rfl my_46 rfl (tgt := 81) (nx := 74) rfl rfl (fun c40 => ?_) (fun c40 => ?_)
        · refine B_iinc rfl my_46 (by decide) rfl rfl rfl (by omega) (by omega) (show _ = [wr T, wi q, wi (fl σ T), wi 2, wi (rd σ (T + 33) 6 2), wi 4, wi (rd σ (T + 33) 6 3)] from rfl) ?_
          refine B_goto rfl my_46 rfl (tgt := 26) rfl ?_
          refine B_iload rfl my_46 rfl ?_
          refine B_iconst rfl my_46 (by decide) ?_
          refine B_ic_gt rfl my_46 rfl (tgt := 87) (nx := 32) rfl rfl (fun c9 => absurd c9 (by decide)) (fun _ => ?_)
          show Bt E 46 32 [wr T, wi q, wi (fl σ T), wi 2, wi (rd σ (T + 33) 6 2), wi 4, wi (rd σ (T + 33) 6 3)] [] σ _
          refine B_aloadn rfl my_46 rfl ?_
          refine B_ref hE.1 rfl my_46 rfl (r := (T + 33)) (wf_0_7 hT) ?_
          refine B_iload rfl my_46 rfl ?_
          refine B_cV hE.1 rfl (nm_33 hT).1 cw_46_20 (as := [wi 4]) (rest := []) rfl (Nat.le_of_ble_eq_true rfl) (g_at hE (nm_33 hT) (by decide) (hy _ (by decide) (by decide)).1) (fun vo s9 hq => ?_)
          obtain ⟨rfl, rfl⟩ := hq
          show Bt E 46 41 [wr T, wi q, wi (fl σ T), wi 2, wi (rd σ (T + 33) 6 2), wi 4, wi (rd σ (T + 33) 6 3)] [wi (rd σ (T + 33) 6 4)] σ _
          refine B_top (fun r42 => ?_)
          refine B_istore rfl my_46 (by decide) rfl (show _ = [wr T, wi q, wi (fl σ T), wi 2, wi (rd σ (T + 33) 6 2), wi 4, wi (rd σ (T + 33) 6 4)] from rfl) ?_
          refine B_iload rfl my_46 rfl ?_
          refine B_iconst rfl my_46 (by decide) ?_
          refine B_ic_ne rfl my_46 rfl (tgt := 67) (nx := 49) rfl rfl (fun _ => ?_) (fun c9 => absurd c9 (by decide))
          show Bt E 46 67 [wr T, wi q, wi (fl σ T), wi 2, wi (rd σ (T + 33) 6 2), wi 4, wi (rd σ (T + 33) 6 4)] [] σ _
          refine B_iload rfl my_46 rfl ?_
          refine B_iload rfl my_46 rfl ?_
          refine B_ic_le rfl my_46 rfl (tgt := 81) (nx := 74) rfl rfl (fun c44 => ?_) (fun c44 => ?_)
          · refine B_iinc rfl my_46 (by decide) rfl rfl rfl (by omega) (by omega) (show _ = [wr T, wi q, wi (fl σ T), wi 2, wi (rd σ (T + 33) 6 2), wi 5, wi (rd σ (T + 33) 6 4)] from rfl) ?_
            refine B_goto rfl my_46 rfl (tgt := 26) rfl ?_
            refine B_iload rfl my_46 rfl ?_
            refine B_iconst rfl my_46 (by decide) ?_
            refine B_ic_gt rfl my_46 rfl (tgt := 87) (nx := 32) rfl rfl (fun _ => ?_) (fun c9 => absurd c9 (by decide))
            show Bt E 46 87 [wr T, wi q, wi (fl σ T), wi 2, wi (rd σ (T + 33) 6 2), wi 5, wi (rd σ (T + 33) 6 4)] [] σ _
            refine B_iload rfl my_46 rfl ?_
            refine B_bipush rfl my_46 (n := 100) rfl ?_
            refine B_imulW rfl my_46 ?_
            refine B_top (fun r46 => ?_)
            refine B_iloadn rfl my_46 rfl ?_
            refine B_iloadn rfl my_46 rfl ?_
            refine B_imulW rfl my_46 ?_
            refine B_top (fun r47 => ?_)
            refine B_ic_lt rfl my_46 rfl (tgt := 102) (nx := 98) rfl rfl (fun c48 => ?_) (fun c48 => ?_)
            · refine B_iconst rfl my_46 (by decide) ?_
              refine B_iret rfl my_46 rfl ?_
              exact ⟨_, rfl, ⟨by omega, by omega, by omega⟩, rfl⟩
            · refine B_iloadn rfl my_46 rfl ?_
              refine B_goto rfl my_46 rfl (tgt := 103) rfl ?_
              refine B_iret rfl my_46 rfl ?_
              exact ⟨_, rfl, ⟨by omega, by omega, by omega⟩, rfl⟩
          · refine B_iload rfl my_46 rfl ?_
            refine B_istoren rfl my_46 (by decide) rfl (show _ = [wr T, wi q, wi (fl σ T), wi 4, wi (rd σ (T + 33) 6 2), wi 4, wi (rd σ (T + 33) 6 4)] from rfl) ?_
            refine B_iload rfl my_46 rfl ?_
            refine B_istore rfl my_46 (by decide) rfl (show _ = [wr T, wi q, wi (fl σ T), wi 4, wi (rd σ (T + 33) 6 4), wi 4, wi (rd σ (T + 33) 6 4)] from rfl) ?_
            refine B_iinc rfl my_46 (by decide) rfl rfl rfl (by omega) (by omega) (show _ = [wr T, wi q, wi (fl σ T), wi 4, wi (rd σ (T + 33) 6 4), wi 5, wi (rd σ (T + 33) 6 4)] from rfl) ?_
            refine B_goto rfl my_46 rfl (tgt := 26) rfl ?_
            refine B_iload rfl my_46 rfl ?_
            refine B_iconst rfl my_46 (by decide) ?_
            refine B_ic_gt rfl my_46 rfl (tgt := 87) (nx := 32) rfl rfl (fun _ => ?_) (fun c9 => absurd c9 (by decide))
            show Bt E 46 87 [wr T, wi q, wi (fl σ T), wi 4, wi (rd σ (T + 33) 6 4), wi 5, wi (rd σ (T + 33) 6 4)] [] σ _
            refine B_iload rfl my_46 rfl ?_
            refine B_bipush rfl my_46 (n := 100) rfl ?_
            refine B_imulW rfl my_46 ?_
            refine B_top (fun r50 => ?_)
            refine B_iloadn rfl my_46 rfl ?_
            refine B_iloadn rfl my_46 rfl ?_
            refine B_imulW rfl my_46 ?_
            refine B_top (fun r51 => ?_)
            refine B_ic_lt rfl my_46 rfl (tgt := 102) (nx := 98) rfl rfl (fun c52 => ?_) (fun c52 => ?_)
            · refine B_iconst rfl my_46 (by decide) ?_
              refine B_iret rfl my_46 rfl ?_
              exact ⟨_, rfl, ⟨by omega, by omega, by omega⟩, rfl⟩
            · refine B_iloadn rfl my_46 rfl ?_
              refine B_goto rfl my_46 rfl (tgt := 103) rfl ?_
              refine B_iret rfl my_46 rfl ?_
              exact ⟨_, rfl, ⟨by omega, by omega, by omega⟩, rfl⟩
        · refine B_iload rfl my_46 rfl ?_
          refine B_istoren rfl my_46 (by decide) rfl (show _ = [wr T, wi q, wi (fl σ T), wi 3, wi (rd σ (T + 33) 6 2), wi 3, wi (rd σ (T + 33) 6 3)] from rfl) ?_
          refine B_iload rfl my_46 rfl ?_
          refine B_istore rfl my_46 (by decide) rfl (show _ = [wr T, wi q, wi (fl σ T), wi 3, wi (rd σ (T + 33) 6 3), wi 3, wi (rd σ (T + 33) 6 3)] from rfl) ?_
          refine B_iinc rfl my_46 (by decide) rfl rfl rfl (by omega) (by omega) (show _ = [wr T, wi q, wi (fl σ T), wi 3, wi (rd σ (T + 33) 6 3), wi 4, wi (rd σ (T + 33) 6 3)] from rfl) ?_
          refine B_goto rfl my_46 rfl (tgt := 26) rfl ?_
          refine B_iload rfl my_46 rfl ?_
          refine B_iconst rfl my_46 (by decide) ?_
          refine B_ic_gt rfl my_46 rfl (tgt := 87) (nx := 32) rfl rfl (fun c9 => absurd c9 (by decide)) (fun _ => ?_)
          show Bt E 46 32 [wr T, wi q, wi (fl σ T), wi 3, wi (rd σ (T + 33) 6 3), wi 4, wi (rd σ (T + 33) 6 3)] [] σ _
          refine B_aloadn rfl my_46 rfl ?_
          refine B_ref hE.1 rfl my_46 rfl (r := (T + 33)) (wf_0_7 hT) ?_
          refine B_iload rfl my_46 rfl ?_
          refine B_cV hE.1 rfl (nm_33 hT).1 cw_46_20 (as := [wi 4]) (rest := []) rfl (Nat.le_of_ble_eq_true rfl) (g_at hE (nm_33 hT) (by decide) (hy _ (by decide) (by decide)).1) (fun vo s9 hq => ?_)
          obtain ⟨rfl, rfl⟩ := hq
          show Bt E 46 41 [wr T, wi q, wi (fl σ T), wi 3, wi (rd σ (T + 33) 6 3), wi 4, wi (rd σ (T + 33) 6 3)] [wi (rd σ (T + 33) 6 4)] σ _
          refine B_top (fun r54 => ?_)
          refine B_istore rfl my_46 (by decide) rfl (show _ = [wr T, wi q, wi (fl σ T), wi 3, wi (rd σ (T + 33) 6 3), wi 4, wi (rd σ (T + 33) 6 4)] from rfl) ?_
          refine B_iload rfl my_46 rfl ?_
          refine B_iconst rfl my_46 (by decide) ?_
          refine B_ic_ne rfl my_46 rfl (tgt := 67) (nx := 49) rfl rfl (fun _ => ?_) (fun c9 => absurd c9 (by decide))
          show Bt E 46 67 [wr T, wi q, wi (fl σ T), wi 3, wi (rd σ (T + 33) 6 3), wi 4, wi (rd σ (T + 33) 6 4)] [] σ _
          refine B_iload rfl my_46 rfl ?_
          refine B_iload rfl my_46 rfl ?_
          refine B_ic_le rfl my_46 rfl (tgt := 81) (nx := 74) rfl rfl (fun c56 => ?_) (fun c56 => ?_)
          · refine B_iinc rfl my_46 (by decide) rfl rfl rfl (by omega) (by omega) (show _ = [wr T, wi q, wi (fl σ T), wi 3, wi (rd σ (T + 33) 6 3), wi 5, wi (rd σ (T + 33) 6 4)] from rfl) ?_
            refine B_goto rfl my_46 rfl (tgt := 26) rfl ?_
            refine B_iload rfl my_46 rfl ?_
            refine B_iconst rfl my_46 (by decide) ?_
            refine B_ic_gt rfl my_46 rfl (tgt := 87) (nx := 32) rfl rfl (fun _ => ?_) (fun c9 => absurd c9 (by decide))
            show Bt E 46 87 [wr T, wi q, wi (fl σ T), wi 3, wi (rd σ (T + 33) 6 3), wi 5, wi (rd σ (T + 33) 6 4)] [] σ _
            refine B_iload rfl my_46 rfl ?_
            refine B_bipush rfl my_46 (n := 100) rfl ?_
            refine B_imulW rfl my_46 ?_
            refine B_top (fun r58 => ?_)
            refine B_iloadn rfl my_46 rfl ?_
            refine B_iloadn rfl my_46 rfl ?_
            refine B_imulW rfl my_46 ?_
            refine B_top (fun r59 => ?_)
            refine B_ic_lt rfl my_46 rfl (tgt := 102) (nx := 98) rfl rfl (fun c60 => ?_) (fun c60 => ?_)
            · refine B_iconst rfl my_46 (by decide) ?_
              refine B_iret rfl my_46 rfl ?_
              exact ⟨_, rfl, ⟨by omega, by omega, by omega⟩, rfl⟩
            · refine B_iloadn rfl my_46 rfl ?_
              refine B_goto rfl my_46 rfl (tgt := 103) rfl ?_
              refine B_iret rfl my_46 rfl ?_
              exact ⟨_, rfl, ⟨by omega, by omega, by omega⟩, rfl⟩
          · refine B_iload rfl my_46 rfl ?_
            refine B_istoren rfl my_46 (by decide) rfl (show _ = [wr T, wi q, wi (fl σ T), wi 4, wi (rd σ (T + 33) 6 3), wi 4, wi (rd σ (T + 33) 6 4)] from rfl) ?_
            refine B_iload rfl my_46 rfl ?_
            refine B_istore rfl my_46 (by decide) rfl (show _ = [wr T, wi q, wi (fl σ T), wi 4, wi (rd σ (T + 33) 6 4), wi 4, wi (rd σ (T + 33) 6 4)] from rfl) ?_
            refine B_iinc rfl my_46 (by decide) rfl rfl rfl (by omega) (by omega) (show _ = [wr T, wi q, wi (fl σ T), wi 4, wi (rd σ (T + 33) 6 4), wi 5, wi (rd σ (T + 33) 6 4)] from rfl) ?_
            refine B_goto rfl my_46 rfl (tgt := 26) rfl ?_
            refine B_iload rfl my_46 rfl ?_
            refine B_iconst rfl my_46 (by decide) ?_
            refine B_ic_gt rfl my_46 rfl (tgt := 87) (nx := 32) rfl rfl (fun _ => ?_) (fun c9 => absurd c9 (by decide))
            show Bt E 46 87 [wr T, wi q, wi (fl σ T), wi 4, wi (rd σ (T + 33) 6 4), wi 5, wi (rd σ (T + 33) 6 4)] [] σ _
            refine B_iload rfl my_46 rfl ?_
            refine B_bipush rfl my_46 (n := 100) rfl ?_
            refine B_imulW rfl my_46 ?_
            refine B_top (fun r62 => ?_)
            refine B_iloadn rfl my_46 rfl ?_
            refine B_iloadn rfl my_46 rfl ?_
            refine B_imulW rfl my_46 ?_
            refine B_top (fun r63 => ?_)
            refine B_ic_lt rfl my_46 rfl (tgt := 102) (nx := 98) rfl rfl (fun c64 => ?_) (fun c64 => ?_)
            · refine B_iconst rfl my_46 (by decide) ?_
              refine B_iret rfl my_46 rfl ?_
              exact ⟨_, rfl, ⟨by omega, by omega, by omega⟩, rfl⟩
            · refine B_iloadn rfl my_46 rfl ?_
              refine B_goto rfl my_46 rfl (tgt := 103) rfl ?_
              refine B_iret rfl my_46 rfl ?_
              exact ⟨_, rfl, ⟨by omega, by omega, by omega⟩, rfl⟩
    · refine B_iload rfl my_46 rfl ?_
      refine B_aloadn rfl my_46 rfl ?_
      refine B_ref hE.1 rfl my_46 rfl (r := (T + 33)) (wf_0_7 hT) ?_
      refine B_iconst rfl my_46 (by decide) ?_
      refine B_cV hE.1 rfl (nm_33 hT).1 cw_46_20 (as := [wi 1]) (rest := [wi (rd σ (T + 33) 6 2)]) rfl (Nat.le_of_ble_eq_true rfl) (g_at hE (nm_33 hT) (by decide) (hy _ (by decide) (by decide)).1) (fun vo s9 hq => ?_)
      obtain ⟨rfl, rfl⟩ := hq
      show Bt E 46 64 [wr T, wi q, wi (fl σ T), wi 1, wi (rd σ (T + 33) 6 1), wi 2, wi (rd σ (T + 33) 6 2)] [wi (rd σ (T + 33) 6 1), wi (rd σ (T + 33) 6 2)] σ _
      refine B_top (fun r65 => ?_)
      refine B_iadd rfl my_46 (by omega) (by omega) ?_
      refine B_istore rfl my_46 (by decide) rfl (show _ = [wr T, wi q, wi (fl σ T), wi 1, wi (rd σ (T + 33) 6 1), wi 2, wi ((rd σ (T + 33) 6 2) + (rd σ (T + 33) 6 1))] from rfl) ?_
      refine B_iload rfl my_46 rfl ?_
      refine B_iload rfl my_46 rfl ?_
      refine B_ic_le rfl my_46 rfl (tgt := 81) (nx := 74) rfl rfl (fun c66 => ?_) (fun c66 => ?_)
      · refine B_iinc rfl my_46 (by decide) rfl rfl rfl (by omega) (by omega) (show _ = [wr T, wi q, wi (fl σ T), wi 1, wi (rd σ (T + 33) 6 1), wi 3, wi ((rd σ (T + 33) 6 2) + (rd σ (T + 33) 6 1))] from rfl) ?_
        refine B_goto rfl my_46 rfl (tgt := 26) rfl ?_
        refine B_iload rfl my_46 rfl ?_
        refine B_iconst rfl my_46 (by decide) ?_
        refine B_ic_gt rfl my_46 rfl (tgt := 87) (nx := 32) rfl rfl (fun c9 => absurd c9 (by decide)) (fun _ => ?_)
        show Bt E 46 32 [wr T, wi q, wi (fl σ T), wi 1, wi (rd σ (T + 33) 6 1), wi 3, wi ((rd σ (T + 33) 6 2) + (rd σ (T + 33) 6 1))] [] σ _
        refine B_aloadn rfl my_46 rfl ?_
        refine B_ref hE.1 rfl my_46 rfl (r := (T + 33)) (wf_0_7 hT) ?_
        refine B_iload rfl my_46 rfl ?_
        refine B_cV hE.1 rfl (nm_33 hT).1 cw_46_20 (as := [wi 3]) (rest := []) rfl (Nat.le_of_ble_eq_true rfl) (g_at hE (nm_33 hT) (by decide) (hy _ (by decide) (by decide)).1) (fun vo s9 hq => ?_)
        obtain ⟨rfl, rfl⟩ := hq
        show Bt E 46 41 [wr T, wi q, wi (fl σ T), wi 1, wi (rd σ (T + 33) 6 1), wi 3, wi ((rd σ (T + 33) 6 2) + (rd σ (T + 33) 6 1))] [wi (rd σ (T + 33) 6 3)] σ _
        refine B_top (fun r68 => ?_)
        refine B_istore rfl my_46 (by decide) rfl (show _ = [wr T, wi q, wi (fl σ T), wi 1, wi (rd σ (T + 33) 6 1), wi 3, wi (rd σ (T + 33) 6 3)] from rfl) ?_
        refine B_iload rfl my_46 rfl ?_
        refine B_iconst rfl my_46 (by decide) ?_
        refine B_ic_ne rfl my_46 rfl (tgt := 67) (nx := 49) rfl rfl (fun _ => ?_) (fun c9 => absurd c9 (by decide))
        show Bt E 46 67 [wr T, wi q, wi (fl σ T), wi 1, wi (rd σ (T + 33) 6 1), wi 3, wi (rd σ (T + 33) 6 3)] [] σ _
        refine B_iload rfl my_46 rfl ?_
        refine B_iload rfl my_46 rfl ?_
        refine B_ic_le rfl my_46 rfl (tgt := 81) (nx := 74) rfl rfl (fun c70 => ?_) (fun c70 => ?_)
        · refine B_iinc rfl my_46 (by decide) rfl rfl rfl (by omega) (by omega) (show _ = [wr T, wi q, wi (fl σ T), wi 1, wi (rd σ (T + 33) 6 1), wi 4, wi (rd σ (T + 33) 6 3)] from rfl) ?_
          refine B_goto rfl my_46 rfl (tgt := 26) rfl ?_
          refine B_iload rfl my_46 rfl ?_
          refine B_iconst rfl my_46 (by decide) ?_
          refine B_ic_gt rfl my_46 rfl (tgt := 87) (nx := 32) rfl rfl (fun c9 => absurd c9 (by decide)) (fun _ => ?_)
          show Bt E 46 32 [wr T, wi q, wi (fl σ T), wi 1, wi (rd σ (T + 33) 6 1), wi 4, wi (rd σ (T + 33) 6 3)] [] σ _
          refine B_aloadn rfl my_46 rfl ?_
          refine B_ref hE.1 rfl my_46 rfl (r := (T + 33)) (wf_0_7 hT) ?_
          refine B_iload rfl my_46 rfl ?_
          refine B_cV hE.1 rfl (nm_33 hT).1 cw_46_20 (as := [wi 4]) (rest := []) rfl (Nat.le_of_ble_eq_true rfl) (g_at hE (nm_33 hT) (by decide) (hy _ (by decide) (by decide)).1) (fun vo s9 hq => ?_)
          obtain ⟨rfl, rfl⟩ := hq
          show Bt E 46 41 [wr T, wi q, wi (fl σ T), wi 1, wi (rd σ (T + 33) 6 1), wi 4, wi (rd σ (T + 33) 6 3)] [wi (rd σ (T + 33) 6 4)] σ _
          refine B_top (fun r72 => ?_)
          refine B_istore rfl my_46 (by decide) rfl (show _ = [wr T, wi q, wi (fl σ T), wi 1, wi (rd σ (T + 33) 6 1), wi 4, wi (rd σ (T + 33) 6 4)] from rfl) ?_
          refine B_iload rfl my_46 rfl ?_
          refine B_iconst rfl my_46 (by decide) ?_
          refine B_ic_ne rfl my_46 rfl (tgt := 67) (nx := 49) rfl rfl (fun _ => ?_) (fun c9 => absurd c9 (by decide))
          show Bt E 46 67 [wr T, wi q, wi (fl σ T), wi 1, wi (rd σ (T + 33) 6 1), wi 4, wi (rd σ (T + 33) 6 4)] [] σ _
          refine B_iload rfl my_46 rfl ?_
          refine B_iload rfl my_46 rfl ?_
          refine B_ic_le rfl my_46 rfl (tgt := 81) (nx := 74) rfl rfl (fun c74 => ?_) (fun c74 => ?_)
          · refine B_iinc rfl my_46 (by decide) rfl rfl rfl (by omega) (by omega) (show _ = [wr T, wi q, wi (fl σ T), wi 1, wi (rd σ (T + 33) 6 1), wi 5, wi (rd σ (T + 33) 6 4)] from rfl) ?_
            refine B_goto rfl my_46 rfl (tgt := 26) rfl ?_
            refine B_iload rfl my_46 rfl ?_
            refine B_iconst rfl my_46 (by decide) ?_
            refine B_ic_gt rfl my_46 rfl (tgt := 87) (nx := 32) rfl rfl (fun _ => ?_) (fun c9 => absurd c9 (by decide))
            show Bt E 46 87 [wr T, wi q, wi (fl σ T), wi 1, wi (rd σ (T + 33) 6 1), wi 5, wi (rd σ (T + 33) 6 4)] [] σ _
            refine B_iload rfl my_46 rfl ?_
            refine B_bipush rfl my_46 (n := 100) rfl ?_
            refine B_imulW rfl my_46 ?_
            refine B_top (fun r76 => ?_)
            refine B_iloadn rfl my_46 rfl ?_
            refine B_iloadn rfl my_46 rfl ?_
            refine B_imulW rfl my_46 ?_
            refine B_top (fun r77 => ?_)
            refine B_ic_lt rfl my_46 rfl (tgt := 102) (nx := 98) rfl rfl (fun c78 => ?_) (fun c78 => ?_)
            · refine B_iconst rfl my_46 (by decide) ?_
              refine B_iret rfl my_46 rfl ?_
              exact ⟨_, rfl, ⟨by omega, by omega, by omega⟩, rfl⟩
            · refine B_iloadn rfl my_46 rfl ?_
              refine B_goto rfl my_46 rfl (tgt := 103) rfl ?_
              refine B_iret rfl my_46 rfl ?_
              exact ⟨_, rfl, ⟨by omega, by omega, by omega⟩, rfl⟩
          · refine B_iload rfl my_46 rfl ?_
            refine B_istoren rfl my_46 (by decide) rfl (show _ = [wr T, wi q, wi (fl σ T), wi 4, wi (rd σ (T + 33) 6 1), wi 4, wi (rd σ (T + 33) 6 4)] from rfl) ?_
            refine B_iload rfl my_46 rfl ?_
            refine B_istore rfl my_46 (by decide) rfl (show _ = [wr T, wi q, wi (fl σ T), wi 4, wi (rd σ (T + 33) 6 4), wi 4, wi (rd σ (T + 33) 6 4)] from rfl) ?_
            refine B_iinc rfl my_46 (by decide) rfl rfl rfl (by omega) (by omega) (show _ = [wr T, wi q, wi (fl σ T), wi 4, wi (rd σ (T + 33) 6 4), wi 5, wi (rd σ (T + 33) 6 4)] from rfl) ?_
            refine B_goto rfl my_46 rfl (tgt := 26) rfl ?_
            refine B_iload rfl my_46 rfl ?_
            refine B_iconst rfl my_46 (by decide) ?_
            refine B_ic_gt rfl my_46 rfl (tgt := 87) (nx := 32) rfl rfl (fun _ => ?_) (fun c9 => absurd c9 (by decide))
            show Bt E 46 87 [wr T, wi q, wi (fl σ T), wi 4, wi (rd σ (T + 33) 6 4), wi 5, wi (rd σ (T + 33) 6 4)] [] σ _
            refine B_iload rfl my_46 rfl ?_
            refine B_bipush rfl my_46 (n := 100) rfl ?_
            refine B_imulW rfl my_46 ?_
            refine B_top (fun r80 => ?_)
            refine B_iloadn rfl my_46 rfl ?_
            refine B_iloadn rfl my_46 rfl ?_
            refine B_imulW rfl my_46 ?_
            refine B_top (fun r81 => ?_)
            refine B_ic_lt rfl my_46 rfl (tgt := 102) (nx := 98) rfl rfl (fun c82 => ?_) (fun c82 => ?_)
            · refine B_iconst rfl my_46 (by decide) ?_
              refine B_iret rfl my_46 rfl ?_
              exact ⟨_, rfl, ⟨by omega, by omega, by omega⟩, rfl⟩
            · refine B_iloadn rfl my_46 rfl ?_
              refine B_goto rfl my_46 rfl (tgt := 103) rfl ?_
              refine B_iret rfl my_46 rfl ?_
              exact ⟨_, rfl, ⟨by omega, by omega, by omega⟩, rfl⟩
        · refine B_iload rfl my_46 rfl ?_
          refine B_istoren rfl my_46 (by decide) rfl (show _ = [wr T, wi q, wi (fl σ T), wi 3, wi (rd σ (T + 33) 6 1), wi 3, wi (rd σ (T + 33) 6 3)] from rfl) ?_
          refine B_iload rfl my_46 rfl ?_
          refine B_istore rfl my_46 (by decide) rfl (show _ = [wr T, wi q, wi (fl σ T), wi 3, wi (rd σ (T + 33) 6 3), wi 3, wi (rd σ (T + 33) 6 3)] from rfl) ?_
          refine B_iinc rfl my_46 (by decide) rfl rfl rfl (by omega) (by omega) (show _ = [wr T, wi q, wi (fl σ T), wi 3, wi (rd σ (T + 33) 6 3), wi 4, wi (rd σ (T + 33) 6 3)] from rfl) ?_
          refine B_goto rfl my_46 rfl (tgt := 26) rfl ?_
          refine B_iload rfl my_46 rfl ?_
          refine B_iconst rfl my_46 (by decide) ?_
          refine B_ic_gt rfl my_46 rfl (tgt := 87) (nx := 32) rfl rfl (fun c9 => absurd c9 (by decide)) (fun _ => ?_)
          show Bt E 46 32 [wr T, wi q, wi (fl σ T), wi 3, wi (rd σ (T + 33) 6 3), wi 4, wi (rd σ (T + 33) 6 3)] [] σ _
          refine B_aloadn rfl my_46 rfl ?_
          refine B_ref hE.1 rfl my_46 rfl (r := (T + 33)) (wf_0_7 hT) ?_
          refine B_iload rfl my_46 rfl ?_
          refine B_cV hE.1 rfl (nm_33 hT).1 cw_46_20 (as := [wi 4]) (rest := []) rfl (Nat.le_of_ble_eq_true rfl) (g_at hE (nm_33 hT) (by decide) (hy _ (by decide) (by decide)).1) (fun vo s9 hq => ?_)
          obtain ⟨rfl, rfl⟩ := hq
          show Bt E 46 41 [wr T, wi q, wi (fl σ T), wi 3, wi (rd σ (T + 33) 6 3), wi 4, wi (rd σ (T + 33) 6 3)] [wi (rd σ (T + 33) 6 4)] σ _
          refine B_top (fun r84 => ?_)
          refine B_istore rfl my_46 (by decide) rfl (show _ = [wr T, wi q, wi (fl σ T), wi 3, wi (rd σ (T + 33) 6 3), wi 4, wi (rd σ (T + 33) 6 4)] from rfl) ?_
          refine B_iload rfl my_46 rfl ?_
          refine B_iconst rfl my_46 (by decide) ?_
          refine B_ic_ne rfl my_46 rfl (tgt := 67) (nx := 49) rfl rfl (fun _ => ?_) (fun c9 => absurd c9 (by decide))
          show Bt E 46 67 [wr T, wi q, wi (fl σ T), wi 3, wi (rd σ (T + 33) 6 3), wi 4, wi (rd σ (T + 33) 6 4)] [] σ _
          refine B_iload rfl my_46 rfl ?_
          refine B_iload rfl my_46 rfl ?_
          refine B_ic_le rfl my_46 rfl (tgt := 81) (nx := 74) rfl rfl (fun c86 => ?_) (fun c86 => ?_)
          · refine B_iinc rfl my_46 (by decide) rfl rfl rfl (by omega) (by omega) (show _ = [wr T, wi q, wi (fl σ T), wi 3, wi (rd σ (T + 33) 6 3), wi 5, wi (rd σ (T + 33) 6 4)] from rfl) ?_
            refine B_goto rfl my_46 rfl (tgt := 26) rfl ?_
            refine B_iload rfl my_46 rfl ?_
            refine B_iconst rfl my_46 (by decide) ?_
            refine B_ic_gt rfl my_46 rfl (tgt := 87) (nx := 32) rfl rfl (fun _ => ?_) (fun c9 => absurd c9 (by decide))
            show Bt E 46 87 [wr T, wi q, wi (fl σ T), wi 3, wi (rd σ (T + 33) 6 3), wi 5, wi (rd σ (T + 33) 6 4)] [] σ _
            refine B_iload rfl my_46 rfl ?_
            refine B_bipush rfl my_46 (n := 100) rfl ?_
            refine B_imulW rfl my_46 ?_
            refine B_top (fun r88 => ?_)
            refine B_iloadn rfl my_46 rfl ?_
            refine B_iloadn rfl my_46 rfl ?_
            refine B_imulW rfl my_46 ?_
            refine B_top (fun r89 => ?_)
            refine B_ic_lt rfl my_46 rfl (tgt := 102) (nx := 98) rfl rfl (fun c90 => ?_) (fun c90 => ?_)
            · refine B_iconst rfl my_46 (by decide) ?_
              refine B_iret rfl my_46 rfl ?_
              exact ⟨_, rfl, ⟨by omega, by omega, by omega⟩, rfl⟩
            · refine B_iloadn rfl my_46 rfl ?_
              refine B_goto rfl my_46 rfl (tgt := 103) rfl ?_
              refine B_iret rfl my_46 rfl ?_
              exact ⟨_, rfl, ⟨by omega, by omega, by omega⟩, rfl⟩
          · refine B_iload rfl my_46 rfl ?_
            refine B_istoren rfl my_46 (by decide) rfl (show _ = [wr T, wi q, wi (fl σ T), wi 4, wi (rd σ (T + 33) 6 3), wi 4, wi (rd σ (T + 33) 6 4)] from rfl) ?_
            refine B_iload rfl my_46 rfl ?_
            refine B_istore rfl my_46 (by decide) rfl (show _ = [wr T, wi q, wi (fl σ T), wi 4, wi (rd σ (T + 33) 6 4), wi 4, wi (rd σ (T + 33) 6 4)] from rfl) ?_
            refine B_iinc rfl my_46 (by decide) rfl rfl rfl (by omega) (by omega) (show _ = [wr T, wi q, wi (fl σ T), wi 4, wi (rd σ (T + 33) 6 4), wi 5, wi (rd σ (T + 33) 6 4)] from rfl) ?_
            refine B_goto rfl my_46 rfl (tgt := 26) rfl ?_
            refine B_iload rfl my_46 rfl ?_
            refine B_iconst rfl my_46 (by decide) ?_
            refine B_ic_gt rfl my_46 rfl (tgt := 87) (nx := 32) rfl rfl (fun _ => ?_) (fun c9 => absurd c9 (by decide))
            show Bt E 46 87 [wr T, wi q, wi (fl σ T), wi 4, wi (rd σ (T + 33) 6 4), wi 5, wi (rd σ (T + 33) 6 4)] [] σ _
            refine B_iload rfl my_46 rfl ?_
            refine B_bipush rfl my_46 (n := 100) rfl ?_
            refine B_imulW rfl my_46 ?_
            refine B_top (fun r92 => ?_)
            refine B_iloadn rfl my_46 rfl ?_
            refine B_iloadn rfl my_46 rfl ?_
            refine B_imulW rfl my_46 ?_
            refine B_top (fun r93 => ?_)
            refine B_ic_lt rfl my_46 rfl (tgt := 102) (nx := 98) rfl rfl (fun c94 => ?_) (fun c94 => ?_)
            · refine B_iconst rfl my_46 (by decide) ?_
              refine B_iret rfl my_46 rfl ?_
              exact ⟨_, rfl, ⟨by omega, by omega, by omega⟩, rfl⟩
            · refine B_iloadn rfl my_46 rfl ?_
              refine B_goto rfl my_46 rfl (tgt := 103) rfl ?_
              refine B_iret rfl my_46 rfl ?_
              exact ⟨_, rfl, ⟨by omega, by omega, by omega⟩, rfl⟩
      · refine B_iload rfl my_46 rfl ?_
        refine B_istoren rfl my_46 (by decide) rfl (show _ = [wr T, wi q, wi (fl σ T), wi 2, wi (rd σ (T + 33) 6 1), wi 2, wi ((rd σ (T + 33) 6 2) + (rd σ (T + 33) 6 1))] from rfl) ?_
        refine B_iload rfl my_46 rfl ?_
        refine B_istore rfl my_46 (by decide) rfl (show _ = [wr T, wi q, wi (fl σ T), wi 2, wi ((rd σ (T + 33) 6 2) + (rd σ (T + 33) 6 1)), wi 2, wi ((rd σ (T + 33) 6 2) + (rd σ (T + 33) 6 1))] from rfl) ?_
        refine B_iinc rfl my_46 (by decide) rfl rfl rfl (by omega) (by omega) (show _ = [wr T, wi q, wi (fl σ T), wi 2, wi ((rd σ (T + 33) 6 2) + (rd σ (T + 33) 6 1)), wi 3, wi ((rd σ (T + 33) 6 2) + (rd σ (T + 33) 6 1))] from rfl) ?_
        refine B_goto rfl my_46 rfl (tgt := 26) rfl ?_
        refine B_iload rfl my_46 rfl ?_
        refine B_iconst rfl my_46 (by decide) ?_
        refine B_ic_gt rfl my_46 rfl (tgt := 87) (nx := 32) rfl rfl (fun c9 => absurd c9 (by decide)) (fun _ => ?_)
        show Bt E 46 32 [wr T, wi q, wi (fl σ T), wi 2, wi ((rd σ (T + 33) 6 2) + (rd σ (T + 33) 6 1)), wi 3, wi ((rd σ (T + 33) 6 2) + (rd σ (T + 33) 6 1))] [] σ _
        refine B_aloadn rfl my_46 rfl ?_
        refine B_ref hE.1 rfl my_46 rfl (r := (T + 33)) (wf_0_7 hT) ?_
        refine B_iload rfl my_46 rfl ?_
        refine B_cV hE.1 rfl (nm_33 hT).1 cw_46_20 (as := [wi 3]) (rest := []) rfl (Nat.le_of_ble_eq_true rfl) (g_at hE (nm_33 hT) (by decide) (hy _ (by decide) (by decide)).1) (fun vo s9 hq => ?_)
        obtain ⟨rfl, rfl⟩ := hq
        show Bt E 46 41 [wr T, wi q, wi (fl σ T), wi 2, wi ((rd σ (T + 33) 6 2) + (rd σ (T + 33) 6 1)), wi 3, wi ((rd σ (T + 33) 6 2) + (rd σ (T + 33) 6 1))] [wi (rd σ (T + 33) 6 3)] σ _
        refine B_top (fun r96 => ?_)
        refine B_istore rfl my_46 (by decide) rfl (show _ = [wr T, wi q, wi (fl σ T), wi 2, wi ((rd σ (T + 33) 6 2) + (rd σ (T + 33) 6 1)), wi 3, wi (rd σ (T + 33) 6 3)] from rfl) ?_
        refine B_iload rfl my_46 rfl ?_
        refine B_iconst rfl my_46 (by decide) ?_
        refine B_ic_ne rfl my_46 rfl (tgt := 67) (nx := 49) rfl rfl (fun _ => ?_) (fun c9 => absurd c9 (by decide))
        show Bt E 46 67 [wr T, wi q, wi (fl σ T), wi 2, wi ((rd σ (T + 33) 6 2) + (rd σ (T + 33) 6 1)), wi 3, wi (rd σ (T + 33) 6 3)] [] σ _
        refine B_iload rfl my_46 rfl ?_
        refine B_iload rfl my_46 rfl ?_
        refine B_ic_le rfl my_46 rfl (tgt := 81) (nx := 74) rfl rfl (fun c98 => ?_) (fun c98 => ?_)
        · refine B_iinc rfl my_46 (by decide) rfl rfl rfl (by omega) (by omega) (show _ = [wr T, wi q, wi (fl σ T), wi 2, wi ((rd σ (T + 33) 6 2) + (rd σ (T + 33) 6 1)), wi 4, wi (rd σ (T + 33) 6 3)] from rfl) ?_
          refine B_goto rfl my_46 rfl (tgt := 26) rfl ?_
          refine B_iload rfl my_46 rfl ?_
          refine B_iconst rfl my_46 (by decide) ?_
          refine B_ic_gt rfl my_46 rfl (tgt := 87) (nx := 32) rfl rfl (fun c9 => absurd c9 (by decide)) (fun _ => ?_)
          show Bt E 46 32 [wr T, wi q, wi (fl σ T), wi 2, wi ((rd σ (T + 33) 6 2) + (rd σ (T + 33) 6 1)), wi 4, wi (rd σ (T + 33) 6 3)] [] σ _
          refine B_aloadn rfl my_46 rfl ?_
          refine B_ref hE.1 rfl my_46 rfl (r := (T + 33)) (wf_0_7 hT) ?_
          refine B_iload rfl my_46 rfl ?_
          refine B_cV hE.1 rfl (nm_33 hT).1 cw_46_20 (as := [wi 4]) (rest := []) rfl (Nat.le_of_ble_eq_true rfl) (g_at hE (nm_33 hT) (by decide) (hy _ (by decide) (by decide)).1) (fun vo s9 hq => ?_)
          obtain ⟨rfl, rfl⟩ := hq
          show Bt E 46 41 [wr T, wi q, wi (fl σ T), wi 2, wi ((rd σ (T + 33) 6 2) + (rd σ (T + 33) 6 1)), wi 4, wi (rd σ (T + 33) 6 3)] [wi (rd σ (T + 33) 6 4)] σ _
          refine B_top (fun r100 => ?_)
          refine B_istore rfl my_46 (by decide) rfl (show _ = [wr T, wi q, wi (fl σ T), wi 2, wi ((rd σ (T + 33) 6 2) + (rd σ (T + 33) 6 1)), wi 4, wi (rd σ (T + 33) 6 4)] from rfl) ?_
          refine B_iload rfl my_46 rfl ?_
          refine B_iconst rfl my_46 (by decide) ?_
          refine B_ic_ne rfl my_46 rfl (tgt := 67) (nx := 49) rfl rfl (fun _ => ?_) (fun c9 => absurd c9 (by decide))
          show Bt E 46 67 [wr T, wi q, wi (fl σ T), wi 2, wi ((rd σ (T + 33) 6 2) + (rd σ (T + 33) 6 1)), wi 4, wi (rd σ (T + 33) 6 4)] [] σ _
          refine B_iload rfl my_46 rfl ?_
          refine B_iload rfl my_46 rfl ?_
          refine B_ic_le rfl my_46 rfl (tgt := 81) (nx := 74) rfl rfl (fun c102 => ?_) (fun c102 => ?_)
          · refine B_iinc rfl my_46 (by decide) rfl rfl rfl (by omega) (by omega) (show _ = [wr T, wi q, wi (fl σ T), wi 2, wi ((rd σ (T + 33) 6 2) + (rd σ (T + 33) 6 1)), wi 5, wi (rd σ (T + 33) 6 4)] from rfl) ?_
            refine B_goto rfl my_46 rfl (tgt := 26) rfl ?_
            refine B_iload rfl my_46 rfl ?_
            refine B_iconst rfl my_46 (by decide) ?_
            refine B_ic_gt rfl my_46 rfl (tgt := 87) (nx := 32) rfl rfl (fun _ => ?_) (fun c9 => absurd c9 (by decide))
            show Bt E 46 87 [wr T, wi q, wi (fl σ T), wi 2, wi ((rd σ (T + 33) 6 2) + (rd σ (T + 33) 6 1)), wi 5, wi (rd σ (T + 33) 6 4)] [] σ _
            refine B_iload rfl my_46 rfl ?_
            refine B_bipush rfl my_46 (n := 100) rfl ?_
            refine B_imulW rfl my_46 ?_
            refine B_top (fun r104 => ?_)
            refine B_iloadn rfl my_46 rfl ?_
            refine B_iloadn rfl my_46 rfl ?_
            refine B_imulW rfl my_46 ?_
            refine B_top (fun r105 => ?_)
            refine B_ic_lt rfl my_46 rfl (tgt := 102) (nx := 98) rfl rfl (fun c106 => ?_) (fun c106 => ?_)
            · refine B_iconst rfl my_46 (by decide) ?_
              refine B_iret rfl my_46 rfl ?_
              exact ⟨_, rfl, ⟨by omega, by omega, by omega⟩, rfl⟩
            · refine B_iloadn rfl my_46 rfl ?_
              refine B_goto rfl my_46 rfl (tgt := 103) rfl ?_
              refine B_iret rfl my_46 rfl ?_
              exact ⟨_, rfl, ⟨by omega, by omega, by omega⟩, rfl⟩
          · refine B_iload rfl my_46 rfl ?_
            refine B_istoren rfl my_46 (by decide) rfl (show _ = [wr T, wi q, wi (fl σ T), wi 4, wi ((rd σ (T + 33) 6 2) + (rd σ (T + 33) 6 1)), wi 4, wi (rd σ (T + 33) 6 4)] from rfl) ?_
            refine B_iload rfl my_46 rfl ?_
            refine B_istore rfl my_46 (by decide) rfl (show _ = [wr T, wi q, wi (fl σ T), wi 4, wi (rd σ (T + 33) 6 4), wi 4, wi (rd σ (T + 33) 6 4)] from rfl) ?_
            refine B_iinc rfl my_46 (by decide) rfl rfl rfl (by omega) (by omega) (show _ = [wr T, wi q, wi (fl σ T), wi 4, wi (rd σ (T + 33) 6 4), wi 5, wi (rd σ (T + 33) 6 4)] from rfl) ?_
            refine B_goto rfl my_46 rfl (tgt := 26) rfl ?_
            refine B_iload rfl my_46 rfl ?_
            refine B_iconst rfl my_46 (by decide) ?_
            refine B_ic_gt rfl my_46 rfl (tgt := 87) (nx := 32) rfl rfl (fun _ => ?_) (fun c9 => absurd c9 (by decide))
            show Bt E 46 87 [wr T, wi q, wi (fl σ T), wi 4, wi (rd σ (T + 33) 6 4), wi 5, wi (rd σ (T + 33) 6 4)] [] σ _
            refine B_iload rfl my_46 rfl ?_
            refine B_bipush rfl my_46 (n := 100) rfl ?_
            refine B_imulW rfl my_46 ?_
            refine B_top (fun r108 => ?_)
            refine B_iloadn rfl my_46 rfl ?_
            refine B_iloadn rfl my_46 rfl ?_
            refine B_imulW rfl my_46 ?_
            refine B_top (fun r109 => ?_)
            refine B_ic_lt rfl my_46 rfl (tgt := 102) (nx := 98) rfl rfl (fun c110 => ?_) (fun c110 => ?_)
            · refine B_iconst rfl my_46 (by decide) ?_
              refine B_iret rfl my_46 rfl ?_
              exact ⟨_, rfl, ⟨by omega, by omega, by omega⟩, rfl⟩
            · refine B_iloadn rfl my_46 rfl ?_
              refine B_goto rfl my_46 rfl (tgt := 103) rfl ?_
              refine B_iret rfl my_46 rfl ?_
              exact ⟨_, rfl, ⟨by omega, by omega, by omega⟩, rfl⟩
        · refine B_iload rfl my_46 rfl ?_
          refine B_istoren rfl my_46 (by decide) rfl (show _ = [wr T, wi q, wi (fl σ T), wi 3, wi ((rd σ (T + 33) 6 2) + (rd σ (T + 33) 6 1)), wi 3, wi (rd σ (T + 33) 6 3)] from rfl) ?_
          refine B_iload rfl my_46 rfl ?_
          refine B_istore rfl my_46 (by decide) rfl (show _ = [wr T, wi q, wi (fl σ T), wi 3, wi (rd σ (T + 33) 6 3), wi 3, wi (rd σ (T + 33) 6 3)] from rfl) ?_
          refine B_iinc rfl my_46 (by decide) rfl rfl rfl (by omega) (by omega) (show _ = [wr T, wi q, wi (fl σ T), wi 3, wi (rd σ (T + 33) 6 3), wi 4, wi (rd σ (T + 33) 6 3)] from rfl) ?_
          refine B_goto rfl my_46 rfl (tgt := 26) rfl ?_
          refine B_iload rfl my_46 rfl ?_
          refine B_iconst rfl my_46 (by decide) ?_
          refine B_ic_gt rfl my_46 rfl (tgt := 87) (nx := 32) rfl rfl (fun c9 => absurd c9 (by decide)) (fun _ => ?_)
          show Bt E 46 32 [wr T, wi q, wi (fl σ T), wi 3, wi (rd σ (T + 33) 6 3), wi 4, wi (rd σ (T + 33) 6 3)] [] σ _
          refine B_aloadn rfl my_46 rfl ?_
          refine B_ref hE.1 rfl my_46 rfl (r := (T + 33)) (wf_0_7 hT) ?_
          refine B_iload rfl my_46 rfl ?_
          refine B_cV hE.1 rfl (nm_33 hT).1 cw_46_20 (as := [wi 4]) (rest := []) rfl (Nat.le_of_ble_eq_true rfl) (g_at hE (nm_33 hT) (by decide) (hy _ (by decide) (by decide)).1) (fun vo s9 hq => ?_)
          obtain ⟨rfl, rfl⟩ := hq
          show Bt E 46 41 [wr T, wi q, wi (fl σ T), wi 3, wi (rd σ (T + 33) 6 3), wi 4, wi (rd σ (T + 33) 6 3)] [wi (rd σ (T + 33) 6 4)] σ _
          refine B_top (fun r112 => ?_)
          refine B_istore rfl my_46 (by decide) rfl (show _ = [wr T, wi q, wi (fl σ T), wi 3, wi (rd σ (T + 33) 6 3), wi 4, wi (rd σ (T + 33) 6 4)] from rfl) ?_
          refine B_iload rfl my_46 rfl ?_
          refine B_iconst rfl my_46 (by decide) ?_
          refine B_ic_ne rfl my_46 rfl (tgt := 67) (nx := 49) rfl rfl (fun _ => ?_) (fun c9 => absurd c9 (by decide))
          show Bt E 46 67 [wr T, wi q, wi (fl σ T), wi 3, wi (rd σ (T + 33) 6 3), wi 4, wi (rd σ (T + 33) 6 4)] [] σ _
          refine B_iload rfl my_46 rfl ?_
          refine B_iload rfl my_46 rfl ?_
          refine B_ic_le rfl my_46 rfl (tgt := 81) (nx := 74) rfl rfl (fun c114 => ?_) (fun c114 => ?_)
          · refine B_iinc rfl my_46 (by decide) rfl rfl rfl (by omega) (by omega) (show _ = [wr T, wi q, wi (fl σ T), wi 3, wi (rd σ (T + 33) 6 3), wi 5, wi (rd σ (T + 33) 6 4)] from rfl) ?_
            refine B_goto rfl my_46 rfl (tgt := 26) rfl ?_
            refine B_iload rfl my_46 rfl ?_
            refine B_iconst rfl my_46 (by decide) ?_
            refine B_ic_gt rfl my_46 rfl (tgt := 87) (nx := 32) rfl rfl (fun _ => ?_) (fun c9 => absurd c9 (by decide))
            show Bt E 46 87 [wr T, wi q, wi (fl σ T), wi 3, wi (rd σ (T + 33) 6 3), wi 5, wi (rd σ (T + 33) 6 4)] [] σ _
            refine B_iload rfl my_46 rfl ?_
            refine B_bipush rfl my_46 (n := 100) rfl ?_
            refine B_imulW rfl my_46 ?_
            refine B_top (fun r116 => ?_)
            refine B_iloadn rfl my_46 rfl ?_
            refine B_iloadn rfl my_46 rfl ?_
            refine B_imulW rfl my_46 ?_
            refine B_top (fun r117 => ?_)
            refine B_ic_lt rfl my_46 rfl (tgt := 102) (nx := 98) rfl rfl (fun c118 => ?_) (fun c118 => ?_)
            · refine B_iconst rfl my_46 (by decide) ?_
              refine B_iret rfl my_46 rfl ?_
              exact ⟨_, rfl, ⟨by omega, by omega, by omega⟩, rfl⟩
            · refine B_iloadn rfl my_46 rfl ?_
              refine B_goto rfl my_46 rfl (tgt := 103) rfl ?_
              refine B_iret rfl my_46 rfl ?_
              exact ⟨_, rfl, ⟨by omega, by omega, by omega⟩, rfl⟩
          · refine B_iload rfl my_46 rfl ?_
            refine B_istoren rfl my_46 (by decide) rfl (show _ = [wr T, wi q, wi (fl σ T), wi 4, wi (rd σ (T + 33) 6 3), wi 4, wi (rd σ (T + 33) 6 4)] from rfl) ?_
            refine B_iload rfl my_46 rfl ?_
            refine B_istore rfl my_46 (by decide) rfl (show _ = [wr T, wi q, wi (fl σ T), wi 4, wi (rd σ (T + 33) 6 4), wi 4, wi (rd σ (T + 33) 6 4)] from rfl) ?_
            refine B_iinc rfl my_46 (by decide) rfl rfl rfl (by omega) (by omega) (show _ = [wr T, wi q, wi (fl σ T), wi 4, wi (rd σ (T + 33) 6 4), wi 5, wi (rd σ (T + 33) 6 4)] from rfl) ?_
            refine B_goto rfl my_46 rfl (tgt := 26) rfl ?_
            refine B_iload rfl my_46 rfl ?_
            refine B_iconst rfl my_46 (by decide) ?_
            refine B_ic_gt rfl my_46 rfl (tgt := 87) (nx := 32) rfl rfl (fun _ => ?_) (fun c9 => absurd c9 (by decide))
            show Bt E 46 87 [wr T, wi q, wi (fl σ T), wi 4, wi (rd σ (T + 33) 6 4), wi 5, wi (rd σ (T + 33) 6 4)] [] σ _
            refine B_iload rfl my_46 rfl ?_
            refine B_bipush rfl my_46 (n := 100) rfl ?_
            refine B_imulW rfl my_46 ?_
            refine B_top (fun r120 => ?_)
            refine B_iloadn rfl my_46 rfl ?_
            refine B_iloadn rfl my_46 rfl ?_
            refine B_imulW rfl my_46 ?_
            refine B_top (fun r121 => ?_)
            refine B_ic_lt rfl my_46 rfl (tgt := 102) (nx := 98) rfl rfl (fun c122 => ?_) (fun c122 => ?_)
            · refine B_iconst rfl my_46 (by decide) ?_
              refine B_iret rfl my_46 rfl ?_
              exact ⟨_, rfl, ⟨by omega, by omega, by omega⟩, rfl⟩
            · refine B_iloadn rfl my_46 rfl ?_
              refine B_goto rfl my_46 rfl (tgt := 103) rfl ?_
              refine B_iret rfl my_46 rfl ?_
              exact ⟨_, rfl, ⟨by omega, by omega, by omega⟩, rfl⟩
  · refine B_iconst rfl my_46 (by decide) ?_
    refine B_iret rfl my_46 rfl ?_
    exact ⟨_, rfl, ⟨by omega, by omega, by omega⟩, rfl⟩
theorem l_guessedMark {E : mE} {σ : wSt} {T : Nat} (hE : wE E) (hT : Tb T) (hR : KRd T σ) (hI : RI T σ) : ∀ (k : Nat) (a b i : Int), 0 ≤ a → a ≤ i → 0 ≤ b → b ≤ i → (gv σ (T + 1) 8 - i).toNat ≤ k → Bt E 41 6 [wr T, wi a, wi b, wi i, wx, wx] [] σ (fun vo t => ∃ x, vo = some (wi x) ∧ (x = 0 ∨ x = 1) ∧ σ = t) := by
  intro k
  induction k with
  | zero =>
    intro a b i h1 h2 h3 h4 hm
    have h0 := hI.1
    refine B_rng 1 rfl (fun ha1 => ?_)
    refine B_rng 2 rfl (fun ha2 => ?_)
    refine B_rng 3 rfl (fun ha3 => ?_)
    refine B_iloadn rfl my_41 rfl ?_
    refine B_aloadn rfl my_41 rfl ?_
    refine B_ref hE.1 rfl my_41 rfl (r := (T + 1)) (wf_0_0 hT) ?_
    refine B_int hE.1 rfl my_41 rfl (wn_1_8 hT) (hR _ (by omega) (by omega) _) (fun r1 => ?_)
    refine B_ic_ge rfl my_41 rfl (tgt := 95) (nx := 17) rfl rfl (fun c2 => ?_) (fun c2 => ?_)
    · refine B_iloadn rfl my_41 rfl ?_
      refine B_iloadn rfl my_41 rfl ?_
      refine B_ic_le rfl my_41 rfl (tgt := 104) (nx := 100) rfl rfl (fun c3 => ?_) (fun c3 => ?_)
      · refine B_iconst rfl my_41 (by decide) ?_
        refine B_iret rfl my_41 rfl ?_
        exact ⟨_, rfl, by omega, rfl⟩
      · refine B_iconst rfl my_41 (by decide) ?_
        refine B_goto rfl my_41 rfl (tgt := 105) rfl ?_
        refine B_iret rfl my_41 rfl ?_
        exact ⟨_, rfl, by omega, rfl⟩
    · exact absurd hm (by omega)
  | succ k ih =>
    intro a b i h1 h2 h3 h4 hm
    have h0 := hI.1
    refine B_rng 1 rfl (fun ha1 => ?_)
    refine B_rng 2 rfl (fun ha2 => ?_)
    refine B_rng 3 rfl (fun ha3 => ?_)
    refine B_iloadn rfl my_41 rfl ?_
    refine B_aloadn rfl my_41 rfl ?_
    refine B_ref hE.1 rfl my_41 rfl (r := (T + 1)) (wf_0_0 hT) ?_
    refine B_int hE.1 rfl my_41 rfl (wn_1_8 hT) (hR _ (by omega) (by omega) _) (fun r1 => ?_)
    refine B_ic_ge rfl my_41 rfl (tgt := 95) (nx := 17) rfl rfl (fun c2 => ?_) (fun c2 => ?_)
    · refine B_iloadn rfl my_41 rfl ?_
      refine B_iloadn rfl my_41 rfl ?_
      refine B_ic_le rfl my_41 rfl (tgt := 104) (nx := 100) rfl rfl (fun c3 => ?_) (fun c3 => ?_)
      · refine B_iconst rfl my_41 (by decide) ?_
        refine B_iret rfl my_41 rfl ?_
        exact ⟨_, rfl, by omega, rfl⟩
      · refine B_iconst rfl my_41 (by decide) ?_
        refine B_goto rfl my_41 rfl (tgt := 105) rfl ?_
        refine B_iret rfl my_41 rfl ?_
        exact ⟨_, rfl, by omega, rfl⟩
    · refine B_aloadn rfl my_41 rfl ?_
      refine B_ref hE.1 rfl my_41 rfl (r := (T + 1)) (wf_0_0 hT) ?_
      refine B_ref hE.1 rfl my_41 rfl (r := (T + 4)) (wf_1_1 hT) ?_
      refine B_iloadn rfl my_41 rfl ?_
      refine B_cV hE.1 rfl (nm_4 hT).1 cw_41_20 (as := [wi i]) (rest := []) rfl (Nat.le_of_ble_eq_true rfl) (g_at hE (nm_4 hT) (by decide) (kr_of fun _ => hR _ (by omega) (by omega) _)) (fun vo s9 hq => ?_)
      obtain ⟨rfl, rfl⟩ := hq
      show Bt E 41 28 [wr T, wi a, wi b, wi i, wx, wx] [wi (rd σ (T + 4) 501 i)] σ _
      refine B_top (fun r4 => ?_)
      refine B_istore rfl my_41 (by decide) rfl (show _ = [wr T, wi a, wi b, wi i, wi (rd σ (T + 4) 501 i), wx] from rfl) ?_
      refine B_iload rfl my_41 rfl ?_
      refine B_aloadn rfl my_41 rfl ?_
      refine B_ref hE.1 rfl my_41 rfl (r := (T + 1)) (wf_0_0 hT) ?_
      refine B_ref hE.1 rfl my_41 rfl (r := (T + 6)) (wf_1_2 hT) ?_
      refine B_iloadn rfl my_41 rfl ?_
      refine B_cV hE.1 rfl (nm_6 hT).1 cw_41_20 (as := [wi i]) (rest := [wi (rd σ (T + 4) 501 i)]) rfl (Nat.le_of_ble_eq_true rfl) (g_at hE (nm_6 hT) (by decide) (kr_of fun _ => hR _ (by omega) (by omega) _)) (fun vo s9 hq => ?_)
      obtain ⟨rfl, rfl⟩ := hq
      show Bt E 41 43 [wr T, wi a, wi b, wi i, wi (rd σ (T + 4) 501 i), wx] [wi (rd σ (T + 6) 501 i), wi (rd σ (T + 4) 501 i)] σ _
      refine B_top (fun r5 => ?_)
      refine B_iaddW rfl my_41 ?_
      refine B_top (fun r6 => ?_)
      refine B_istore rfl my_41 (by decide) rfl (show _ = [wr T, wi a, wi b, wi i, wi (rd σ (T + 4) 501 i), wi (w32 ((rd σ (T + 4) 501 i) + (rd σ (T + 6) 501 i)))] from rfl) ?_
      refine B_aloadn rfl my_41 rfl ?_
      refine B_ref hE.1 rfl my_41 rfl (r := (T + 1)) (wf_0_0 hT) ?_
      refine B_ref hE.1 rfl my_41 rfl (r := (T + 2)) (wf_1_0 hT) ?_
      refine B_iload rfl my_41 rfl ?_
      refine B_iload rfl my_41 rfl ?_
      refine B_bipush rfl my_41 (n := 7) rfl ?_
      refine B_cS rfl cw_41_5_0 (as := [wr (T + 2), wi (rd σ (T + 4) 501 i), wi (w32 ((rd σ (T + 4) 501 i) + (rd σ (T + 6) 501 i))), wi 7]) (rest := []) rfl (Nat.le_of_ble_eq_true rfl) (g_isDecimal hE (nm_2 hT) (fun _ => kr_of fun _ => hR _ (by omega) (by omega) _) (by decide)) (fun vo s9 hq => ?_)
      obtain ⟨x7, rfl, hz8, rfl⟩ := hq
      show Bt E 41 62 [wr T, wi a, wi b, wi i, wi (rd σ (T + 4) 501 i), wi (w32 ((rd σ (T + 4) 501 i) + (rd σ (T + 6) 501 i)))] [wi x7] σ _
      refine B_top (fun r9 => ?_)
      refine B_if_eq rfl my_41 rfl (tgt := 68) (nx := 65) rfl rfl (fun c10 => ?_) (fun c10 => ?_)
      · refine B_aloadn rfl my_41 rfl ?_
        refine B_ref hE.1 rfl my_41 rfl (r := (T + 1)) (wf_0_0 hT) ?_
        refine B_ref hE.1 rfl my_41 rfl (r := (T + 2)) (wf_1_0 hT) ?_
        refine B_iload rfl my_41 rfl ?_
        refine B_iload rfl my_41 rfl ?_
        refine B_iconst rfl my_41 (by decide) ?_
        refine B_cS rfl cw_41_5_0 (as := [wr (T + 2), wi (rd σ (T + 4) 501 i), wi (w32 ((rd σ (T + 4) 501 i) + (rd σ (T + 6) 501 i))), wi 0]) (rest := []) rfl (Nat.le_of_ble_eq_true rfl) (g_isDecimal hE (nm_2 hT) (fun _ => kr_of fun _ => hR _ (by omega) (by omega) _) (by decide)) (fun vo s9 hq => ?_)
        obtain ⟨x11, rfl, hz12, rfl⟩ := hq
        show Bt E 41 83 [wr T, wi a, wi b, wi i, wi (rd σ (T + 4) 501 i), wi (w32 ((rd σ (T + 4) 501 i) + (rd σ (T + 6) 501 i)))] [wi x11] σ _
        refine B_top (fun r13 => ?_)
        refine B_if_eq rfl my_41 rfl (tgt := 89) (nx := 86) rfl rfl (fun c14 => ?_) (fun c14 => ?_)
        · refine B_iinc rfl my_41 (by decide) rfl rfl rfl (by omega) (by omega) (show _ = [wr T, wi a, wi b, wi (i + 1), wi (rd σ (T + 4) 501 i), wi (w32 ((rd σ (T + 4) 501 i) + (rd σ (T + 6) 501 i)))] from rfl) ?_
          refine B_goto rfl my_41 rfl (tgt := 6) rfl ?_
          refine B_loc (l' := [wr T, wi a, wi b, wi (i + 1), wx, wx]) ⟨Or.inl rfl, Or.inl rfl, Or.inl rfl, Or.inl rfl, Or.inr rfl, Or.inr rfl, trivial⟩ ?_
          exact ih _ _ _ (by omega) (by omega) (by omega) (by omega) (by omega)
        · refine B_iinc rfl my_41 (by decide) rfl rfl rfl (by omega) (by omega) (show _ = [wr T, wi a, wi (b + 1), wi i, wi (rd σ (T + 4) 501 i), wi (w32 ((rd σ (T + 4) 501 i) + (rd σ (T + 6) 501 i)))] from rfl) ?_
          refine B_iinc rfl my_41 (by decide) rfl rfl rfl (by omega) (by omega) (show _ = [wr T, wi a, wi (b + 1), wi (i + 1), wi (rd σ (T + 4) 501 i), wi (w32 ((rd σ (T + 4) 501 i) + (rd σ (T + 6) 501 i)))] from rfl) ?_
          refine B_goto rfl my_41 rfl (tgt := 6) rfl ?_
          refine B_loc (l' := [wr T, wi a, wi (b + 1), wi (i + 1), wx, wx]) ⟨Or.inl rfl, Or.inl rfl, Or.inl rfl, Or.inl rfl, Or.inr rfl, Or.inr rfl, trivial⟩ ?_
          exact ih _ _ _ (by omega) (by omega) (by omega) (by omega) (by omega)
      · refine B_iinc rfl my_41 (by decide) rfl rfl rfl (by omega) (by omega) (show _ = [wr T, wi (a + 1), wi b, wi i, wi (rd σ (T + 4) 501 i), wi (w32 ((rd σ (T + 4) 501 i) + (rd σ (T + 6) 501 i)))] from rfl) ?_
        refine B_aloadn rfl my_41 rfl ?_
        refine B_ref hE.1 rfl my_41 rfl (r := (T + 1)) (wf_0_0 hT) ?_
        refine B_ref hE.1 rfl my_41 rfl (r := (T + 2)) (wf_1_0 hT) ?_
        refine B_iload rfl my_41 rfl ?_
        refine B_iload rfl my_41 rfl ?_
        refine B_iconst rfl my_41 (by decide) ?_
        refine B_cS rfl cw_41_5_0 (as := [wr (T + 2), wi (rd σ (T + 4) 501 i), wi (w32 ((rd σ (T + 4) 501 i) + (rd σ (T + 6) 501 i))), wi 0]) (rest := []) rfl (Nat.le_of_ble_eq_true rfl) (g_isDecimal hE (nm_2 hT) (fun _ => kr_of fun _ => hR _ (by omega) (by omega) _) (by decide)) (fun vo s9 hq => ?_)
        obtain ⟨x15, rfl, hz16, rfl⟩ := hq
        show Bt E 41 83 [wr T, wi (a + 1), wi b, wi i, wi (rd σ (T + 4) 501 i), wi (w32 ((rd σ (T + 4) 501 i) + (rd σ (T + 6) 501 i)))] [wi x15] σ _
        refine B_top (fun r17 => ?_)
        refine B_if_eq rfl my_41 rfl (tgt := 89) (nx := 86) rfl rfl (fun c18 => ?_) (fun c18 => ?_)
        · refine B_iinc rfl my_41 (by decide) rfl rfl rfl (by omega) (by omega) (show _ = [wr T, wi (a + 1), wi b, wi (i + 1), wi (rd σ (T + 4) 501 i), wi (w32 ((rd σ (T + 4) 501 i) + (rd σ (T + 6) 501 i)))] from rfl) ?_
          refine B_goto rfl my_41 rfl (tgt := 6) rfl ?_
          refine B_loc (l' := [wr T, wi (a + 1), wi b, wi (i + 1), wx, wx]) ⟨Or.inl rfl, Or.inl rfl, Or.inl rfl, Or.inl rfl, Or.inr rfl, Or.inr rfl, trivial⟩ ?_
          exact ih _ _ _ (by omega) (by omega) (by omega) (by omega) (by omega)
        · refine B_iinc rfl my_41 (by decide) rfl rfl rfl (by omega) (by omega) (show _ = [wr T, wi (a + 1), wi (b + 1), wi i, wi (rd σ (T + 4) 501 i), wi (w32 ((rd σ (T + 4) 501 i) + (rd σ (T + 6) 501 i)))] from rfl) ?_
          refine B_iinc rfl my_41 (by decide) rfl rfl rfl (by omega) (by omega) (show _ = [wr T, wi (a + 1), wi (b + 1), wi (i + 1), wi (rd σ (T + 4) 501 i), wi (w32 ((rd σ (T + 4) 501 i) + (rd σ (T + 6) 501 i)))] from rfl) ?_
          refine B_goto rfl my_41 rfl (tgt := 6) rfl ?_
          refine B_loc (l' := [wr T, wi (a + 1), wi (b + 1), wi (i + 1), wx, wx]) ⟨Or.inl rfl, Or.inl rfl, Or.inl rfl, Or.inl rfl, Or.inr rfl, Or.inr rfl, trivial⟩ ?_
          exact ih _ _ _ (by omega) (by omega) (by omega) (by omega) (by omega)
theorem g_guessedMark {E : mE} {σ : wSt} {T : Nat} (hE : wE E) (hT : Tb T) (hR : KRd T σ) (hI : RI T σ) : Ev E 41 [wr T] σ (fun x => x = 0 ∨ x = 1) := by
  refine Fn.of (nL := 6) ?_
  show Bt E 41 0 [wr T, wx, wx, wx, wx, wx] [] σ _
  refine B_iconst rfl my_41 (by decide) ?_
  refine B_istoren rfl my_41 (by decide) rfl (show _ = [wr T, wi 0, wx, wx, wx, wx] from rfl) ?_
  refine B_iconst rfl my_41 (by decide) ?_
  refine B_istoren rfl my_41 (by decide) rfl (show _ = [wr T, wi 0, wi 0, wx, wx, wx] from rfl) ?_
  refine B_iconst rfl my_41 (by decide) ?_
  refine B_istoren rfl my_41 (by decide) rfl (show _ = [wr T, wi 0, wi 0, wi 0, wx, wx] from rfl) ?_
  exact l_guessedMark hE hT hR hI _ 0 0 0 (by omega) (by omega) (by omega) (by omega) (Nat.le_refl _)
theorem t_nameCell {E : mE} {σ : wSt} {T : Nat} (hE : wE E) (hT : Tb T) (hR : KRd T σ) (hI : RI T σ) {c kd va : Int} (hq : 0 ≤ kd ∧ kd ≤ 5 ∧ (kd = 0 ↔ rd σ (T + 6) 501 c = 0) ∧ (kd = 5 → va = rd σ (T + 6) 501 c) ∧ (kd = 0 → va = 0)) : Bt E 42 172 [wr T, wi c, wx, wx, wi va, wx, wx, wi kd] [] σ (fun vo t => vo = none ∧ ∃ kd va, (0 ≤ kd ∧ kd ≤ 5 ∧ (kd = 0 ↔ rd σ (T + 6) 501 c = 0) ∧ (kd = 5 → va = rd σ (T + 6) 501 c) ∧ (kd = 0 → va = 0)) ∧ pt (pt σ (T + 25) 501 c kd) (T + 27) 501 c va = t) := by
  refine B_aloadn rfl my_42 rfl ?_
  refine B_ref hE.1 rfl my_42 rfl (r := (T + 25)) (wf_0_3 hT) ?_
  refine B_iloadn rfl my_42 rfl ?_
  refine B_iload rfl my_42 rfl ?_
  refine B_cV hE.1 rfl (nm_25 hT).1 cw_42_21 (as := [wi c, wi kd]) (rest := []) rfl (Nat.le_of_ble_eq_true rfl) (g_put hE (nm_25 hT) (by decide)) (fun vo s9 hq => ?_)
  obtain ⟨rfl, rfl⟩ := hq
  show Bt E 42 182 [wr T, wi c, wx, wx, wi va, wx, wx, wi kd] [] (pt σ (T + 25) 501 c kd) _
  refine B_aloadn rfl my_42 rfl ?_
  refine B_ref hE.1 rfl my_42 rfl (r := (T + 27)) (wf_0_4 hT) ?_
  refine B_iloadn rfl my_42 rfl ?_
  refine B_iload rfl my_42 rfl ?_
  refine B_cV hE.1 rfl (nm_27 hT).1 cw_42_21 (as := [wi c, wi va]) (rest := []) rfl (Nat.le_of_ble_eq_true rfl) (g_put hE (nm_27 hT) (by decide)) (fun vo s9 hq => ?_)
  obtain ⟨rfl, rfl⟩ := hq
  show Bt E 42 192 [wr T, wi c, wx, wx, wi va, wx, wx, wi kd] [] (pt (pt σ (T + 25) 501 c kd) (T + 27) 501 c va) _
  refine B_ret rfl my_42 rfl ?_
  exact ⟨rfl, kd, va, hq, rfl⟩
theorem g_nameCell {E : mE} {σ : wSt} {T : Nat} (hE : wE E) (hT : Tb T) (hR : KRd T σ) (hI : RI T σ) {c : Int} (hm : kn σ T 9) (h1 : 0 ≤ c) (h2 : c < gv σ (T + 1) 8) : Fn E 42 [wr T, wi c] σ (fun vo t => vo = none ∧ ∃ kd va, (0 ≤ kd ∧ kd ≤ 5 ∧ (kd = 0 ↔ rd σ (T + 6) 501 c = 0) ∧ (kd = 5 → va = rd σ (T + 6) 501 c) ∧ (kd = 0 → va = 0)) ∧ pt (pt σ (T + 25) 501 c kd) (T + 27) 501 c va = t) := by
  have hc := hI.2.2.1 c h1 h2
  refine Fn.of (nL := 8) ?_
  show Bt E 42 0 [wr T, wi c, wx, wx, wx, wx, wx, wx] [] σ _
  refine B_rng 1 rfl (fun ha1 => ?_)
  refine B_aloadn rfl my_42 rfl ?_
  refine B_ref hE.1 rfl my_42 rfl (r := (T + 1)) (wf_0_0 hT) ?_
  refine B_ref hE.1 rfl my_42 rfl (r := (T + 2)) (wf_1_0 hT) ?_
  refine B_astoren rfl my_42 (by decide) rfl (show _ = [wr T, wi c, wr (T + 2), wx, wx, wx, wx, wx] from rfl) ?_
  refine B_aloadn rfl my_42 rfl ?_
  refine B_ref hE.1 rfl my_42 rfl (r := (T + 1)) (wf_0_0 hT) ?_
  refine B_ref hE.1 rfl my_42 rfl (r := (T + 4)) (wf_1_1 hT) ?_
  refine B_iloadn rfl my_42 rfl ?_
  refine B_cV hE.1 rfl (nm_4 hT).1 cw_42_20 (as := [wi c]) (rest := []) rfl (Nat.le_of_ble_eq_true rfl) (g_at hE (nm_4 hT) (by decide) (kr_of fun _ => hR _ (by omega) (by omega) _)) (fun vo s9 hq => ?_)
  obtain ⟨rfl, rfl⟩ := hq
  show Bt E 42 19 [wr T, wi c, wr (T + 2), wx, wx, wx, wx, wx] [wi (rd σ (T + 4) 501 c)] σ _
  refine B_top (fun r1 => ?_)
  refine B_istoren rfl my_42 (by decide) rfl (show _ = [wr T, wi c, wr (T + 2), wi (rd σ (T + 4) 501 c), wx, wx, wx, wx] from rfl) ?_
  refine B_aloadn rfl my_42 rfl ?_
  refine B_ref hE.1 rfl my_42 rfl (r := (T + 1)) (wf_0_0 hT) ?_
  refine B_ref hE.1 rfl my_42 rfl (r := (T + 6)) (wf_1_2 hT) ?_
  refine B_iloadn rfl my_42 rfl ?_
  refine B_cV hE.1 rfl (nm_6 hT).1 cw_42_20 (as := [wi c]) (rest := []) rfl (Nat.le_of_ble_eq_true rfl) (g_at hE (nm_6 hT) (by decide) (kr_of fun _ => hR _ (by omega) (by omega) _)) (fun vo s9 hq => ?_)
  obtain ⟨rfl, rfl⟩ := hq
  show Bt E 42 31 [wr T, wi c, wr (T + 2), wi (rd σ (T + 4) 501 c), wx, wx, wx, wx] [wi (rd σ (T + 6) 501 c)] σ _
  refine B_top (fun r2 => ?_)
  refine B_istore rfl my_42 (by decide) rfl (show _ = [wr T, wi c, wr (T + 2), wi (rd σ (T + 4) 501 c), wi (rd σ (T + 6) 501 c), wx, wx, wx] from rfl) ?_
  refine B_iloadn rfl my_42 rfl ?_
  refine B_iload rfl my_42 rfl ?_
  refine B_iadd rfl my_42 (by omega) (by omega) ?_
  refine B_istore rfl my_42 (by decide) rfl (show _ = [wr T, wi c, wr (T + 2), wi (rd σ (T + 4) 501 c), wi (rd σ (T + 6) 501 c), wi ((rd σ (T + 4) 501 c) + (rd σ (T + 6) 501 c)), wx, wx] from rfl) ?_
  refine B_aloadn rfl my_42 rfl ?_
  refine B_iloadn rfl my_42 rfl ?_
  refine B_iload rfl my_42 rfl ?_
  refine B_cS rfl cw_42_9_0 (as := [wr (T + 2), wi (rd σ (T + 4) 501 c), wi ((rd σ (T + 4) 501 c) + (rd σ (T + 6) 501 c))]) (rest := []) rfl (Nat.le_of_ble_eq_true rfl) (g_dayNumber hE (nm_2 hT) (fun _ => kr_of fun _ => hR _ (by omega) (by omega) _) (by decide)) (fun vo s9 hq => ?_)
  obtain ⟨x3, rfl, hz4, rfl⟩ := hq
  show Bt E 42 46 [wr T, wi c, wr (T + 2), wi (rd σ (T + 4) 501 c), wi (rd σ (T + 6) 501 c), wi ((rd σ (T + 4) 501 c) + (rd σ (T + 6) 501 c)), wx, wx] [wi x3] σ _
  refine B_top (fun r5 => ?_)
  refine B_istore rfl my_42 (by decide) rfl (show _ = [wr T, wi c, wr (T + 2), wi (rd σ (T + 4) 501 c), wi (rd σ (T + 6) 501 c), wi ((rd σ (T + 4) 501 c) + (rd σ (T + 6) 501 c)), wi x3, wx] from rfl) ?_
  refine B_iconst rfl my_42 (by decide) ?_
  refine B_istore rfl my_42 (by decide) rfl (show _ = [wr T, wi c, wr (T + 2), wi (rd σ (T + 4) 501 c), wi (rd σ (T + 6) 501 c), wi ((rd σ (T + 4) 501 c) + (rd σ (T + 6) 501 c)), wi x3, wi 5] from rfl) ?_
  refine B_iloadn rfl my_42 rfl ?_
  refine B_iload rfl my_42 rfl ?_
  refine B_ic_ne rfl my_42 rfl (tgt := 63) (nx := 57) rfl rfl (fun c6 => ?_) (fun c6 => ?_)
  · refine B_aloadn rfl my_42 rfl ?_
    refine B_iloadn rfl my_42 rfl ?_
    refine B_iload rfl my_42 rfl ?_
    refine B_cS rfl cw_42_4_0 (as := [wr (T + 2), wi (rd σ (T + 4) 501 c), wi ((rd σ (T + 4) 501 c) + (rd σ (T + 6) 501 c))]) (rest := []) rfl (Nat.le_of_ble_eq_true rfl) (g_isWhole hE (nm_2 hT) (fun _ => kr_of fun _ => hR _ (by omega) (by omega) _) (by decide)) (fun vo s9 hq => ?_)
    obtain ⟨x7, rfl, hz8, rfl⟩ := hq
    show Bt E 42 70 [wr T, wi c, wr (T + 2), wi (rd σ (T + 4) 501 c), wi (rd σ (T + 6) 501 c), wi ((rd σ (T + 4) 501 c) + (rd σ (T + 6) 501 c)), wi x3, wi 5] [wi x7] σ _
    refine B_top (fun r9 => ?_)
    refine B_if_eq rfl my_42 rfl (tgt := 88) (nx := 73) rfl rfl (fun c10 => ?_) (fun c10 => ?_)
    · refine B_aloadn rfl my_42 rfl ?_
      refine B_iloadn rfl my_42 rfl ?_
      refine B_iload rfl my_42 rfl ?_
      refine B_aloadn rfl my_42 rfl ?_
      refine B_int hE.1 rfl my_42 rfl (wn_0_9 hT) hm (fun r11 => ?_)
      refine B_if_ne rfl my_42 rfl (tgt := 104) (nx := 99) rfl rfl (fun c12 => ?_) (fun c12 => ?_)
      · refine B_iconst rfl my_42 (by decide) ?_
        refine B_cS rfl cw_42_5_0 (as := [wr (T + 2), wi (rd σ (T + 4) 501 c), wi ((rd σ (T + 4) 501 c) + (rd σ (T + 6) 501 c)), wi 0]) (rest := []) rfl (Nat.le_of_ble_eq_true rfl) (g_isDecimal hE (nm_2 hT) (fun _ => kr_of fun _ => hR _ (by omega) (by omega) _) (by decide)) (fun vo s9 hq => ?_)
        obtain ⟨x13, rfl, hz14, rfl⟩ := hq
        show Bt E 42 108 [wr T, wi c, wr (T + 2), wi (rd σ (T + 4) 501 c), wi (rd σ (T + 6) 501 c), wi ((rd σ (T + 4) 501 c) + (rd σ (T + 6) 501 c)), wi x3, wi 5] [wi x13] σ _
        refine B_top (fun r15 => ?_)
        refine B_if_eq rfl my_42 rfl (tgt := 126) (nx := 111) rfl rfl (fun c16 => ?_) (fun c16 => ?_)
        · refine B_iload rfl my_42 rfl ?_
          refine B_iconst rfl my_42 (by decide) ?_
          refine B_ic_eq rfl my_42 rfl (tgt := 142) (nx := 132) rfl rfl (fun c17 => ?_) (fun c17 => ?_)
          · refine B_aloadn rfl my_42 rfl ?_
            refine B_iloadn rfl my_42 rfl ?_
            refine B_iload rfl my_42 rfl ?_
            refine B_cS rfl cw_42_6_0 (as := [wr (T + 2), wi (rd σ (T + 4) 501 c), wi ((rd σ (T + 4) 501 c) + (rd σ (T + 6) 501 c))]) (rest := []) rfl (Nat.le_of_ble_eq_true rfl) (g_isFlag hE (nm_2 hT) (fun _ => kr_of fun _ => hR _ (by omega) (by omega) _) (by decide)) (fun vo s9 hq => ?_)
            obtain ⟨x18, rfl, hz19, rfl⟩ := hq
            show Bt E 42 149 [wr T, wi c, wr (T + 2), wi (rd σ (T + 4) 501 c), wi (rd σ (T + 6) 501 c), wi ((rd σ (T + 4) 501 c) + (rd σ (T + 6) 501 c)), wi x3, wi 5] [wi x18] σ _
            refine B_top (fun r20 => ?_)
            refine B_if_eq rfl my_42 rfl (tgt := 172) (nx := 152) rfl rfl (fun c21 => ?_) (fun c21 => ?_)
            · refine B_loc (l' := [wr T, wi c, wx, wx, wi (rd σ (T + 6) 501 c), wx, wx, wi 5]) ⟨Or.inl rfl, Or.inl rfl, Or.inr rfl, Or.inr rfl, Or.inl rfl, Or.inr rfl, Or.inr rfl, Or.inl rfl, trivial⟩ ?_
              exact t_nameCell hE hT hR hI ⟨by omega, by omega, by omega, by omega, by omega⟩
            · refine B_iconst rfl my_42 (by decide) ?_
              refine B_istore rfl my_42 (by decide) rfl (show _ = [wr T, wi c, wr (T + 2), wi (rd σ (T + 4) 501 c), wi (rd σ (T + 6) 501 c), wi ((rd σ (T + 4) 501 c) + (rd σ (T + 6) 501 c)), wi x3, wi 4] from rfl) ?_
              refine B_aloadn rfl my_42 rfl ?_
              refine B_iloadn rfl my_42 rfl ?_
              refine B_cV hE.1 rfl (nm_2 hT).1 cw_42_20 (as := [wi (rd σ (T + 4) 501 c)]) (rest := []) rfl (Nat.le_of_ble_eq_true rfl) (g_at hE (nm_2 hT) (by decide) (kr_of fun _ => hR _ (by omega) (by omega) _)) (fun vo s9 hq => ?_)
              obtain ⟨rfl, rfl⟩ := hq
              show Bt E 42 160 [wr T, wi c, wr (T + 2), wi (rd σ (T + 4) 501 c), wi (rd σ (T + 6) 501 c), wi ((rd σ (T + 4) 501 c) + (rd σ (T + 6) 501 c)), wi x3, wi 4] [wi (rd σ (T + 2) 500 (rd σ (T + 4) 501 c))] σ _
              refine B_top (fun r22 => ?_)
              refine B_bipush rfl my_42 (n := 44) rfl ?_
              refine B_ic_ne rfl my_42 rfl (tgt := 169) (nx := 165) rfl rfl (fun c23 => ?_) (fun c23 => ?_)
              · refine B_iconst rfl my_42 (by decide) ?_
                refine B_istore rfl my_42 (by decide) rfl (show _ = [wr T, wi c, wr (T + 2), wi (rd σ (T + 4) 501 c), wi 0, wi ((rd σ (T + 4) 501 c) + (rd σ (T + 6) 501 c)), wi x3, wi 4] from rfl) ?_
                refine B_loc (l' := [wr T, wi c, wx, wx, wi 0, wx, wx, wi 4]) ⟨Or.inl rfl, Or.inl rfl, Or.inr rfl, Or.inr rfl, Or.inl rfl, Or.inr rfl, Or.inr rfl, Or.inl rfl, trivial⟩ ?_
                exact t_nameCell hE hT hR hI ⟨by omega, by omega, by omega, by omega, by omega⟩
              · refine B_iconst rfl my_42 (by decide) ?_
                refine B_goto rfl my_42 rfl (tgt := 170) rfl ?_
                refine B_istore rfl my_42 (by decide) rfl (show _ = [wr T, wi c, wr (T + 2), wi (rd σ (T + 4) 501 c), wi 1, wi ((rd σ (T + 4) 501 c) + (rd σ (T + 6) 501 c)), wi x3, wi 4] from rfl) ?_
                refine B_loc (l' := [wr T, wi c, wx, wx, wi 1, wx, wx, wi 4]) ⟨Or.inl rfl, Or.inl rfl, Or.inr rfl, Or.inr rfl, Or.inl rfl, Or.inr rfl, Or.inr rfl, Or.inl rfl, trivial⟩ ?_
                exact t_nameCell hE hT hR hI ⟨by omega, by omega, by omega, by omega, by omega⟩
          · refine B_iconst rfl my_42 (by decide) ?_
            refine B_istore rfl my_42 (by decide) rfl (show _ = [wr T, wi c, wr (T + 2), wi (rd σ (T + 4) 501 c), wi (rd σ (T + 6) 501 c), wi ((rd σ (T + 4) 501 c) + (rd σ (T + 6) 501 c)), wi x3, wi 3] from rfl) ?_
            refine B_iload rfl my_42 rfl ?_
            refine B_istore rfl my_42 (by decide) rfl (show _ = [wr T, wi c, wr (T + 2), wi (rd σ (T + 4) 501 c), wi x3, wi ((rd σ (T + 4) 501 c) + (rd σ (T + 6) 501 c)), wi x3, wi 3] from rfl) ?_
            refine B_goto rfl my_42 rfl (tgt := 172) rfl ?_
            refine B_loc (l' := [wr T, wi c, wx, wx, wi x3, wx, wx, wi 3]) ⟨Or.inl rfl, Or.inl rfl, Or.inr rfl, Or.inr rfl, Or.inl rfl, Or.inr rfl, Or.inr rfl, Or.inl rfl, trivial⟩ ?_
            exact t_nameCell hE hT hR hI ⟨by omega, by omega, by omega, by omega, by omega⟩
        · refine B_iconst rfl my_42 (by decide) ?_
          refine B_istore rfl my_42 (by decide) rfl (show _ = [wr T, wi c, wr (T + 2), wi (rd σ (T + 4) 501 c), wi (rd σ (T + 6) 501 c), wi ((rd σ (T + 4) 501 c) + (rd σ (T + 6) 501 c)), wi x3, wi 2] from rfl) ?_
          refine B_aloadn rfl my_42 rfl ?_
          refine B_iloadn rfl my_42 rfl ?_
          refine B_iload rfl my_42 rfl ?_
          refine B_cS rfl cw_42_8_0 (as := [wr (T + 2), wi (rd σ (T + 4) 501 c), wi ((rd σ (T + 4) 501 c) + (rd σ (T + 6) 501 c))]) (rest := []) rfl (Nat.le_of_ble_eq_true rfl) (g_thousandths hE (nm_2 hT) (fun _ => kr_of fun _ => hR _ (by omega) (by omega) _) (by decide)) (fun vo s9 hq => ?_)
          obtain ⟨x24, rfl, hz25, rfl⟩ := hq
          show Bt E 42 121 [wr T, wi c, wr (T + 2), wi (rd σ (T + 4) 501 c), wi (rd σ (T + 6) 501 c), wi ((rd σ (T + 4) 501 c) + (rd σ (T + 6) 501 c)), wi x3, wi 2] [wi x24] σ _
          refine B_top (fun r26 => ?_)
          refine B_istore rfl my_42 (by decide) rfl (show _ = [wr T, wi c, wr (T + 2), wi (rd σ (T + 4) 501 c), wi x24, wi ((rd σ (T + 4) 501 c) + (rd σ (T + 6) 501 c)), wi x3, wi 2] from rfl) ?_
          refine B_goto rfl my_42 rfl (tgt := 172) rfl ?_
          refine B_loc (l' := [wr T, wi c, wx, wx, wi x24, wx, wx, wi 2]) ⟨Or.inl rfl, Or.inl rfl, Or.inr rfl, Or.inr rfl, Or.inl rfl, Or.inr rfl, Or.inr rfl, Or.inl rfl, trivial⟩ ?_
          exact t_nameCell hE hT hR hI ⟨by omega, by omega, by omega, by omega, by omega⟩
      · refine B_bipush rfl my_42 (n := 7) rfl ?_
        refine B_goto rfl my_42 rfl (tgt := 105) rfl ?_
        refine B_cS rfl cw_42_5_0 (as := [wr (T + 2), wi (rd σ (T + 4) 501 c), wi ((rd σ (T + 4) 501 c) + (rd σ (T + 6) 501 c)), wi 7]) (rest := []) rfl (Nat.le_of_ble_eq_true rfl) (g_isDecimal hE (nm_2 hT) (fun _ => kr_of fun _ => hR _ (by omega) (by omega) _) (by decide)) (fun vo s9 hq => ?_)
        obtain ⟨x27, rfl, hz28, rfl⟩ := hq
        show Bt E 42 108 [wr T, wi c, wr (T + 2), wi (rd σ (T + 4) 501 c), wi (rd σ (T + 6) 501 c), wi ((rd σ (T + 4) 501 c) + (rd σ (T + 6) 501 c)), wi x3, wi 5] [wi x27] σ _
        refine B_top (fun r29 => ?_)
        refine B_if_eq rfl my_42 rfl (tgt := 126) (nx := 111) rfl rfl (fun c30 => ?_) (fun c30 => ?_)
        · refine B_iload rfl my_42 rfl ?_
          refine B_iconst rfl my_42 (by decide) ?_
          refine B_ic_eq rfl my_42 rfl (tgt := 142) (nx := 132) rfl rfl (fun c31 => ?_) (fun c31 => ?_)
          · refine B_aloadn rfl my_42 rfl ?_
            refine B_iloadn rfl my_42 rfl ?_
            refine B_iload rfl my_42 rfl ?_
            refine B_cS rfl cw_42_6_0 (as := [wr (T + 2), wi (rd σ (T + 4) 501 c), wi ((rd σ (T + 4) 501 c) + (rd σ (T + 6) 501 c))]) (rest := []) rfl (Nat.le_of_ble_eq_true rfl) (g_isFlag hE (nm_2 hT) (fun _ => kr_of fun _ => hR _ (by omega) (by omega) _) (by decide)) (fun vo s9 hq => ?_)
            obtain ⟨x32, rfl, hz33, rfl⟩ := hq
            show Bt E 42 149 [wr T, wi c, wr (T + 2), wi (rd σ (T + 4) 501 c), wi (rd σ (T + 6) 501 c), wi ((rd σ (T + 4) 501 c) + (rd σ (T + 6) 501 c)), wi x3, wi 5] [wi x32] σ _
            refine B_top (fun r34 => ?_)
            refine B_if_eq rfl my_42 rfl (tgt := 172) (nx := 152) rfl rfl (fun c35 => ?_) (fun c35 => ?_)
            · refine B_loc (l' := [wr T, wi c, wx, wx, wi (rd σ (T + 6) 501 c), wx, wx, wi 5]) ⟨Or.inl rfl, Or.inl rfl, Or.inr rfl, Or.inr rfl, Or.inl rfl, Or.inr rfl, Or.inr rfl, Or.inl rfl, trivial⟩ ?_
              exact t_nameCell hE hT hR hI ⟨by omega, by omega, by omega, by omega, by omega⟩
            · refine B_iconst rfl my_42 (by decide) ?_
              refine B_istore rfl my_42 (by decide) rfl (show _ = [wr T, wi c, wr (T + 2), wi (rd σ (T + 4) 501 c), wi (rd σ (T + 6) 501 c), wi ((rd σ (T + 4) 501 c) + (rd σ (T + 6) 501 c)), wi x3, wi 4] from rfl) ?_
              refine B_aloadn rfl my_42 rfl ?_
              refine B_iloadn rfl my_42 rfl ?_
              refine B_cV hE.1 rfl (nm_2 hT).1 cw_42_20 (as := [wi (rd σ (T + 4) 501 c)]) (rest := []) rfl (Nat.le_of_ble_eq_true rfl) (g_at hE (nm_2 hT) (by decide) (kr_of fun _ => hR _ (by omega) (by omega) _)) (fun vo s9 hq => ?_)
              obtain ⟨rfl, rfl⟩ := hq
              show Bt E 42 160 [wr T, wi c, wr (T + 2), wi (rd σ (T + 4) 501 c), wi (rd σ (T + 6) 501 c), wi ((rd σ (T + 4) 501 c) + (rd σ (T + 6) 501 c)), wi x3, wi 4] [wi (rd σ (T + 2) 500 (rd σ (T + 4) 501 c))] σ _
              refine B_top (fun r36 => ?_)
              refine B_bipush rfl my_42 (n := 44) rfl ?_
              refine B_ic_ne rfl my_42 rfl (tgt := 169) (nx := 165) rfl rfl (fun c37 => ?_) (fun c37 => ?_)
              · refine B_iconst rfl my_42 (by decide) ?_
                refine B_istore rfl my_42 (by decide) rfl (show _ = [wr T, wi c, wr (T + 2), wi (rd σ (T + 4) 501 c), wi 0, wi ((rd σ (T + 4) 501 c) + (rd σ (T + 6) 501 c)), wi x3, wi 4] from rfl) ?_
                refine B_loc (l' := [wr T, wi c, wx, wx, wi 0, wx, wx, wi 4]) ⟨Or.inl rfl, Or.inl rfl, Or.inr rfl, Or.inr rfl, Or.inl rfl, Or.inr rfl, Or.inr rfl, Or.inl rfl, trivial⟩ ?_
                exact t_nameCell hE hT hR hI ⟨by omega, by omega, by omega, by omega, by omega⟩
              · refine B_iconst rfl my_42 (by decide) ?_
                refine B_goto rfl my_42 rfl (tgt := 170) rfl ?_
                refine B_istore rfl my_42 (by decide) rfl (show _ = [wr T, wi c, wr (T + 2), wi (rd σ (T + 4) 501 c), wi 1, wi ((rd σ (T + 4) 501 c) + (rd σ (T + 6) 501 c)), wi x3, wi 4] from rfl) ?_
                refine B_loc (l' := [wr T, wi c, wx, wx, wi 1, wx, wx, wi 4]) ⟨Or.inl rfl, Or.inl rfl, Or.inr rfl, Or.inr rfl, Or.inl rfl, Or.inr rfl, Or.inr rfl, Or.inl rfl, trivial⟩ ?_
                exact t_nameCell hE hT hR hI ⟨by omega, by omega, by omega, by omega, by omega⟩
          · refine B_iconst rfl my_42 (by decide) ?_
            refine B_istore rfl my_42 (by decide) rfl (show _ = [wr T, wi c, wr (T + 2), wi (rd σ (T + 4) 501 c), wi (rd σ (T + 6) 501 c), wi ((rd σ (T + 4) 501 c) + (rd σ (T + 6) 501 c)), wi x3, wi 3] from rfl) ?_
            refine B_iload rfl my_42 rfl ?_
            refine B_istore rfl my_42 (by decide) rfl (show _ = [wr T, wi c, wr (T + 2), wi (rd σ (T + 4) 501 c), wi x3, wi ((rd σ (T + 4) 501 c) + (rd σ (T + 6) 501 c)), wi x3, wi 3] from rfl) ?_
            refine B_goto rfl my_42 rfl (tgt := 172) rfl ?_
            refine B_loc (l' := [wr T, wi c, wx, wx, wi x3, wx, wx, wi 3]) ⟨Or.inl rfl, Or.inl rfl, Or.inr rfl, Or.inr rfl, Or.inl rfl, Or.inr rfl, Or.inr rfl, Or.inl rfl, trivial⟩ ?_
            exact t_nameCell hE hT hR hI ⟨by omega, by omega, by omega, by omega, by omega⟩
        · refine B_iconst rfl my_42 (by decide) ?_
          refine B_istore rfl my_42 (by decide) rfl (show _ = [wr T, wi c, wr (T + 2), wi (rd σ (T + 4) 501 c), wi (rd σ (T + 6) 501 c), wi ((rd σ (T + 4) 501 c) + (rd σ (T + 6) 501 c)), wi x3, wi 2] from rfl) ?_
          refine B_aloadn rfl my_42 rfl ?_
          refine B_iloadn rfl my_42 rfl ?_
          refine B_iload rfl my_42 rfl ?_
          refine B_cS rfl cw_42_8_0 (as := [wr (T + 2), wi (rd σ (T + 4) 501 c), wi ((rd σ (T + 4) 501 c) + (rd σ (T + 6) 501 c))]) (rest := []) rfl (Nat.le_of_ble_eq_true rfl) (g_thousandths hE (nm_2 hT) (fun _ => kr_of fun _ => hR _ (by omega) (by omega) _) (by decide)) (fun vo s9 hq => ?_)
          obtain ⟨x38, rfl, hz39, rfl⟩ := hq
          show Bt E 42 121 [wr T, wi c, wr (T + 2), wi (rd σ (T + 4) 501 c), wi (rd σ (T + 6) 501 c), wi ((rd σ (T + 4) 501 c) + (rd σ (T + 6) 501 c)), wi x3, wi 2] [wi x38] σ _
          refine B_top (fun r40 => ?_)
          refine B_istore rfl my_42 (by decide) rfl (show _ = [wr T, wi c, wr (T + 2), wi (rd σ (T + 4) 501 c), wi x38, wi ((rd σ (T + 4) 501 c) + (rd σ (T + 6) 501 c)), wi x3, wi 2] from rfl) ?_
          refine B_goto rfl my_42 rfl (tgt := 172) rfl ?_
          refine B_loc (l' := [wr T, wi c, wx, wx, wi x38, wx, wx, wi 2]) ⟨Or.inl rfl, Or.inl rfl, Or.inr rfl, Or.inr rfl, Or.inl rfl, Or.inr rfl, Or.inr rfl, Or.inl rfl, trivial⟩ ?_
          exact t_nameCell hE hT hR hI ⟨by omega, by omega, by omega, by omega, by omega⟩
    · refine B_iconst rfl my_42 (by decide) ?_
      refine B_istore rfl my_42 (by decide) rfl (show _ = [wr T, wi c, wr (T + 2), wi (rd σ (T + 4) 501 c), wi (rd σ (T + 6) 501 c), wi ((rd σ (T + 4) 501 c) + (rd σ (T + 6) 501 c)), wi x3, wi 1] from rfl) ?_
      refine B_aloadn rfl my_42 rfl ?_
      refine B_iloadn rfl my_42 rfl ?_
      refine B_iload rfl my_42 rfl ?_
      refine B_cS rfl cw_42_7_0 (as := [wr (T + 2), wi (rd σ (T + 4) 501 c), wi ((rd σ (T + 4) 501 c) + (rd σ (T + 6) 501 c))]) (rest := []) rfl (Nat.le_of_ble_eq_true rfl) (g_wholeNumber hE (nm_2 hT) (fun _ => kr_of fun _ => hR _ (by omega) (by omega) _) (by decide)) (fun vo s9 hq => ?_)
      obtain ⟨x41, rfl, hz42, rfl⟩ := hq
      show Bt E 42 83 [wr T, wi c, wr (T + 2), wi (rd σ (T + 4) 501 c), wi (rd σ (T + 6) 501 c), wi ((rd σ (T + 4) 501 c) + (rd σ (T + 6) 501 c)), wi x3, wi 1] [wi x41] σ _
      refine B_top (fun r43 => ?_)
      refine B_istore rfl my_42 (by decide) rfl (show _ = [wr T, wi c, wr (T + 2), wi (rd σ (T + 4) 501 c), wi x41, wi ((rd σ (T + 4) 501 c) + (rd σ (T + 6) 501 c)), wi x3, wi 1] from rfl) ?_
      refine B_goto rfl my_42 rfl (tgt := 172) rfl ?_
      refine B_loc (l' := [wr T, wi c, wx, wx, wi x41, wx, wx, wi 1]) ⟨Or.inl rfl, Or.inl rfl, Or.inr rfl, Or.inr rfl, Or.inl rfl, Or.inr rfl, Or.inr rfl, Or.inl rfl, trivial⟩ ?_
      exact t_nameCell hE hT hR hI ⟨by omega, by omega, by omega, by omega, by omega⟩
  · refine B_iconst rfl my_42 (by decide) ?_
    refine B_istore rfl my_42 (by decide) rfl (show _ = [wr T, wi c, wr (T + 2), wi (rd σ (T + 4) 501 c), wi (rd σ (T + 6) 501 c), wi ((rd σ (T + 4) 501 c) + (rd σ (T + 6) 501 c)), wi x3, wi 0] from rfl) ?_
    refine B_goto rfl my_42 rfl (tgt := 172) rfl ?_
    refine B_loc (l' := [wr T, wi c, wx, wx, wi (rd σ (T + 6) 501 c), wx, wx, wi 0]) ⟨Or.inl rfl, Or.inl rfl, Or.inr rfl, Or.inr rfl, Or.inl rfl, Or.inr rfl, Or.inr rfl, Or.inl rfl, trivial⟩ ?_
    exact t_nameCell hE hT hR hI ⟨by omega, by omega, by omega, by omega, by omega⟩
