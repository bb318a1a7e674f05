/-! ===== the checksum over a settled table ===== -/
theorem cw_100_101_0 : wcS 100 0 101 2 3 = true := by decide +kernel
theorem cw_100_102_0 : wcS 100 0 102 2 3 = true := by decide +kernel
theorem cw_100_103_0 : wcS 100 0 103 2 3 = true := by decide +kernel
theorem cw_100_104_0 : wcS 100 0 104 2 4 = true := by decide +kernel
theorem cw_100_110 : wcV 100 0 110 6 1 1 = true := by decide +kernel
theorem cw_100_34 : wcV 100 0 34 2 0 0 = true := by decide +kernel
theorem cw_100_56 : wcV 100 0 56 3 1 1 = true := by decide +kernel
theorem cw_100_57 : wcV 100 0 57 3 1 1 = true := by decide +kernel
theorem cw_101_104_0 : wcS 101 0 104 2 4 = true := by decide +kernel
theorem cw_101_20 : wcV 101 0 20 1 1 1 = true := by decide +kernel
theorem cw_101_35 : wcV 101 0 35 2 1 1 = true := by decide +kernel
theorem cw_101_36 : wcV 101 0 36 2 2 2 = true := by decide +kernel
theorem cw_101_58 : wcV 101 0 58 3 2 2 = true := by decide +kernel
theorem cw_102_104_0 : wcS 102 0 104 2 4 = true := by decide +kernel
theorem cw_102_33 : wcV 102 0 33 2 0 0 = true := by decide +kernel
theorem cw_102_59 : wcV 102 0 59 3 2 2 = true := by decide +kernel
theorem cw_102_64 : wcV 102 0 64 3 2 2 = true := by decide +kernel
theorem cw_102_65 : wcV 102 0 65 3 1 1 = true := by decide +kernel
theorem cw_103_104_0 : wcS 103 0 104 2 4 = true := by decide +kernel
theorem cw_103_2 : wcV 103 0 2 0 2 2 = true := by decide +kernel
theorem cw_103_20 : wcV 103 0 20 1 1 1 = true := by decide +kernel
def mxd (d x : Int) : Int := wla (wlm d 31) x
theorem kp_off {T : Nat} {σ s : wSt} {i : Int} {R : Nat → Prop} (h : KPi T σ i) (ho : Off R σ s) (hR : ∀ a, T ≤ a → a ≤ T + 33 → ¬ R a) : KPi T s i := by
  obtain ⟨h1, h2, h3, h4, h5⟩ := h
  have e : ∀ a b, T ≤ a → a ≤ T + 33 → gv s a b = gv σ a b := fun a b a1 a2 => off_gv ho (hR a a1 a2)
  have r : ∀ k len i, k ≤ 32 → rd s (T + k) len i = rd σ (T + k) len i := fun k len i hk => off_rd ho (hR _ (by omega) (by omega))
  refine ⟨(off_kn ho (hR _ (by omega) (by omega))).mpr h1, by rw [e _ _ (by omega) (by omega)]; exact h2, by rw [e _ _ (by omega) (by omega)]; exact h3, fun q q1 q2 => ?_, fun q q1 q2 => ?_⟩
  · rw [e _ _ (by omega) (by omega)] at q2
    obtain ⟨g1, g2, g3⟩ := h4 q q1 q2
    rw [r 23 _ _ (by decide), e T 10 (by omega) (by omega), r 14 _ _ (by decide), e (T + 1) 12 (by omega) (by omega)]
    refine ⟨off_kr ho (hR _ (by omega) (by omega)) g1, g2, fun k k1 k2 => ?_⟩
    rw [e (T + 16) 3 (by omega) (by omega)] at k2
    rw [r 17 _ _ (by decide)]
    exact g3 k k1 k2
  · rw [e _ _ (by omega) (by omega)] at q2
    rw [r 23 _ _ (by decide), r 23 _ _ (by decide)]
    exact h5 q q1 q2
theorem sit_off {T : Nat} {σ s : wSt} {R : Nat → Prop} (h : SIt T σ) (ho : Off R σ s) (hR : ∀ a, T ≤ a → a ≤ T + 33 → ¬ R a) : SIt T s := by
  obtain ⟨⟨h1, h2⟩, ⟨⟨a1, a2, a3⟩, a4, a5⟩, h4, h5, h6, h7⟩ := h
  have e : ∀ a b, T ≤ a → a ≤ T + 33 → gv s a b = gv σ a b := fun a b x1 x2 => off_gv ho (hR a x1 x2)
  have hR1 : ∀ a, T + 1 ≤ a → a ≤ T + 15 → ¬ R a := fun a x1 x2 => hR a (by omega) (by omega)
  have hkn : ∀ b, kn σ T b → kn s T b := fun b => (off_kn ho (hR T (by omega) (by omega))).mpr
  refine ⟨⟨krd_off h1 ho hR1, ri_off h2 ho hR1⟩, ⟨⟨hkn _ a1, hkn _ a2, hkn _ a3⟩, by rw [e T 12 (by omega) (by omega)]; exact a4, by rw [e T 10 (by omega) (by omega)]; exact a5⟩, ?_, fun c c1 c2 => ?_, ?_, ?_⟩
  · rw [e (T + 1) 8 (by omega) (by omega)]
    exact kv_off h4 ho (hR _ (by omega) (by omega)) (hR _ (by omega) (by omega)) (hR _ (by omega) (by omega))
  · rw [e (T + 1) 12 (by omega) (by omega)] at c2
    obtain ⟨g1, g2⟩ := h5 c c1 c2
    refine ⟨off_kr ho (hR _ (by omega) (by omega)) g1, fun r r1 r2 r3 => ?_⟩
    rw [e T 10 (by omega) (by omega)] at r1
    rw [e (T + 1) 9 (by omega) (by omega)] at r2
    rw [ca_off ho hR1] at r3
    exact rpf_to (g2 r r1 r2 r3) ho hR1 (hR _ (by omega) (by omega)) (e T 10 (by omega) (by omega)) (fun b => ho _ (hR _ (by omega) (by omega)) b)
  · rw [e (T + 1) 9 (by omega) (by omega)]
    exact fi_off h6 ho (e T 10 (by omega) (by omega)) (hR _ (by omega) (by omega)) (fun a x1 x2 => hR a (by omega) (by omega))
  · rw [e (T + 1) 9 (by omega) (by omega)]
    exact kp_off h7 ho hR
/-- a table's region, but its tally -/
def RSr (T : Nat) (σ : wSt) : wSt := fun a b => if T ≤ a ∧ a ≤ T + 33 then σ a b else none
theorem rsr_sub {T : Nat} {σ : wSt} : Sub (RSr T σ) σ := fun a b h => by
  by_cases g : T ≤ a ∧ a ≤ T + 33
  · unfold kn RSr at h
    unfold kn gv RSr
    rw [if_pos g] at h ⊢
    exact ⟨h, rfl⟩
  · unfold kn RSr at h
    rw [if_neg g] at h
    cases h
theorem rsr_off {T : Nat} {σ : wSt} : Off (fun a => ¬ (T ≤ a ∧ a ≤ T + 33)) σ (RSr T σ) := fun a ha b => if_pos (by omega)
theorem rsr_sit {T : Nat} {σ : wSt} (h : SIt T σ) : SIt T (RSr T σ) := sit_off h rsr_off (fun a a1 a2 e => e ⟨a1, a2⟩)
theorem rsr_nty {T : Nat} {σ : wSt} : NTy T (RSr T σ) := fun b h => by
  unfold kn RSr at h
  rw [if_neg (by omega)] at h
  cases h
theorem rsr_eq {T : Nat} {σ s : wSt} {R : Nat → Prop} (ho : Off R σ s) (hR : ∀ a, T ≤ a → a ≤ T + 33 → ¬ R a) : RSr T s = RSr T σ := by
  funext a b
  unfold RSr
  by_cases g : T ≤ a ∧ a ≤ T + 33
  · rw [if_pos g, if_pos g]
    exact ho a (hR a g.1 g.2) b
  · rw [if_neg g, if_neg g]
/-- a call's answer, by what such a store knows -/
def An (E : mE) (k : Nat) (as : List wV) (σ : wSt) (v : wV) : Prop := Ok [] as σ ∧ ∃ s, Fx E k as σ (some v) s
theorem an_fn {E : mE} {k : Nat} {as : List wV} {σ : wSt} {v w : wV} (h1 : An E k as σ v) (h2 : An E k as σ w) : v = w := by
  obtain ⟨ho, s, f1⟩ := h1
  obtain ⟨-, t, f2⟩ := h2
  obtain ⟨h, -⟩ := Fx.fn ho f1 f2
  cases h
  rfl
theorem an_of {E : mE} {k : Nat} {as : List wV} {τ σ : wSt} {F : Int → wV} (hF : ∀ x y, F x = F y → x = y) (hs : Sub τ σ) (h1 : Fn E k as τ (fun vo t => ∃ x, vo = some (F x) ∧ True ∧ τ = t)) (h2 : Fn E k as σ (fun vo t => ∃ x, vo = some (F x) ∧ True ∧ σ = t)) : Fn E k as σ (fun vo t => ∃ x, vo = some (F x) ∧ An E k as τ (F x) ∧ σ = t) := fun ho => by
  obtain ⟨v1, s1, ⟨x, rfl, -, rfl⟩, f1⟩ := h1 (ho.sub hs)
  obtain ⟨v2, s2, ⟨y, rfl, -, rfl⟩, f2⟩ := h2 ho
  obtain ⟨h, -⟩ := Fx.fn ho f2 (f1.sub hs)
  have e := hF y x (Option.some.inj h)
  subst e
  exact ⟨_, _, ⟨_, rfl, ⟨ho.sub hs, _, f1⟩, rfl⟩, f2⟩
theorem wi_inj (x y : Int) (h : wi x = wi y) : x = y := (Prod.mk.inj h).2
theorem wl_inj (x y : Int) (h : wl x = wl y) : x = y := (Prod.mk.inj h).2
theorem g_mixed {E : mE} {σ : wSt} {d x : Int} : Gv E 104 [wl d, wl x] σ (wl (mxd d x)) := by
  refine Fn.of (nL := 4) ?_
  show Bt E 104 0 [wl d, wx, wl x, wx] [] σ _
  refine B_lloadn rfl my_104 rfl ?_
  refine B_ldc2 rfl my_104 (n := 31) rfl ?_
  refine B_lmul rfl my_104 ?_
  refine B_lloadn rfl my_104 rfl ?_
  refine B_ladd rfl my_104 ?_
  refine B_lret rfl my_104 rfl ?_
  exact ⟨rfl, rfl⟩
theorem l_wr2 {E : mE} {σ : wSt} {T : Nat} (hE : wE E) (hT : Tb T) (hS : SIt T σ) {a r : Int} {P : Option wV → wSt → Prop} (hr1 : 0 ≤ r) (hr2 : r < gv σ (T + 1) 9) (kont : ∀ d, Bt E 101 100 [wl a, wx, wr T, wl d, wx, wi r, wx, wx, wx] [] σ P) : ∀ (k : Nat) (d i : Int), 0 ≤ i → i ≤ 20 → (20 - i).toNat ≤ k → Bt E 101 38 [wl a, wx, wr T, wl d, wx, wi r, wi i, wx, wx] [] σ P := by
  intro k
  induction k with
  | zero =>
    intro d i h1 h2 hm
    have h0 := hS.hI.1
    have gc0 := ca_c hS.hI (r := r) (c := i)
    refine B_rng 5 rfl (fun ha5 => ?_)
    refine B_rng 6 rfl (fun ha6 => ?_)
    refine B_iload rfl my_101 rfl ?_
    refine B_aloadn rfl my_101 rfl ?_
    refine B_ref hE.1 rfl my_101 rfl (r := (T + 1)) (wf_0_0 hT) ?_
    refine B_iload rfl my_101 rfl ?_
    refine B_cV hE.1 rfl (wc_1 hT) cw_101_35 (as := [wi r]) (rest := [wi i]) rfl (Nat.le_of_ble_eq_true rfl) (g_cellsIn hE hT hS.hR) (fun vo s9 hq => ?_)
    obtain ⟨rfl, rfl⟩ := hq
    show Bt E 101 49 [wl a, wx, wr T, wl d, wx, wi r, wi i, wx, wx] [wi (min (rd σ (T + 14) 60 r) 20), wi i] σ _
    refine B_top (fun r1 => ?_)
    refine B_ic_ge rfl my_101 rfl (tgt := 100) (nx := 52) rfl rfl (fun c2 => ?_) (fun c2 => ?_)
    · refine B_loc (l' := [wl a, wx, wr T, wl d, wx, wi r, wx, wx, wx]) ⟨Or.inl rfl, Or.inl rfl, Or.inl rfl, Or.inl rfl, Or.inl rfl, Or.inl rfl, Or.inr rfl, Or.inr rfl, Or.inr rfl, trivial⟩ ?_
      exact kont _
    · exact absurd hm (by omega)
  | succ k ih =>
    intro d i h1 h2 hm
    have h0 := hS.hI.1
    have gc0 := ca_c hS.hI (r := r) (c := i)
    refine B_rng 5 rfl (fun ha5 => ?_)
    refine B_rng 6 rfl (fun ha6 => ?_)
    refine B_iload rfl my_101 rfl ?_
    refine B_aloadn rfl my_101 rfl ?_
    refine B_ref hE.1 rfl my_101 rfl (r := (T + 1)) (wf_0_0 hT) ?_
    refine B_iload rfl my_101 rfl ?_
    refine B_cV hE.1 rfl (wc_1 hT) cw_101_35 (as := [wi r]) (rest := [wi i]) rfl (Nat.le_of_ble_eq_true rfl) (g_cellsIn hE hT hS.hR) (fun vo s9 hq => ?_)
    obtain ⟨rfl, rfl⟩ := hq
    show Bt E 101 49 [wl a, wx, wr T, wl d, wx, wi r, wi i, wx, wx] [wi (min (rd σ (T + 14) 60 r) 20), wi i] σ _
    refine B_top (fun r1 => ?_)
    refine B_ic_ge rfl my_101 rfl (tgt := 100) (nx := 52) rfl rfl (fun c2 => ?_) (fun c2 => ?_)
    · refine B_loc (l' := [wl a, wx, wr T, wl d, wx, wi r, wx, wx, wx]) ⟨Or.inl rfl, Or.inl rfl, Or.inl rfl, Or.inl rfl, Or.inl rfl, Or.inl rfl, Or.inr rfl, Or.inr rfl, Or.inr rfl, trivial⟩ ?_
      exact kont _
    · refine B_aloadn rfl my_101 rfl ?_
      refine B_ref hE.1 rfl my_101 rfl (r := (T + 1)) (wf_0_0 hT) ?_
      refine B_iload rfl my_101 rfl ?_
      refine B_iload rfl my_101 rfl ?_
      refine B_cV hE.1 rfl (wc_1 hT) cw_101_36 (as := [wi r, wi i]) (rest := []) rfl (Nat.le_of_ble_eq_true rfl) (g_cellAt hE hT hS.hR hS.hI) (fun vo s9 hq => ?_)
      obtain ⟨rfl, rfl⟩ := hq
      show Bt E 101 63 [wl a, wx, wr T, wl d, wx, wi r, wi i, wx, wx] [wi (ca σ T r i)] σ _
      refine B_top (fun r3 => ?_)
      refine B_istore rfl my_101 (by decide) rfl (show _ = [wl a, wx, wr T, wl d, wx, wi r, wi i, wi (ca σ T r i), wx] from rfl) ?_
      have gc := gc0.resolve_left (fun g => g.2 ⟨by omega, by omega, by omega, by omega⟩)
      refine B_iconst rfl my_101 (by decide) ?_
      refine B_istore rfl my_101 (by decide) rfl (show _ = [wl a, wx, wr T, wl d, wx, wi r, wi i, wi (ca σ T r i), wi 0] from rfl) ?_
      refine B_iload rfl my_101 rfl ?_
      refine B_iconst rfl my_101 (by decide) ?_
      refine B_ic_gt rfl my_101 rfl (tgt := 94) (nx := 74) rfl rfl (fun c9 => absurd c9 (by decide)) (fun _ => ?_)
      show Bt E 101 74 [wl a, wx, wr T, wl d, wx, wi r, wi i, wi (ca σ T r i), wi 0] [] σ _
      refine B_lloadn rfl my_101 rfl ?_
      refine B_aloadn rfl my_101 rfl ?_
      refine B_iload rfl my_101 rfl ?_
      refine B_iload rfl my_101 rfl ?_
      refine B_cV hE.1 rfl (wc_0 hT) cw_101_58 (as := [wi (ca σ T r i), wi 0]) (rest := [wl d]) rfl (Nat.le_of_ble_eq_true rfl) (g_factOfCell0 hE hT hS gc.2.2.1 gc.2.2.2) (fun vo s9 hq => ?_)
      obtain ⟨rfl, rfl⟩ := hq
      show Bt E 101 83 [wl a, wx, wr T, wl d, wx, wi r, wi i, wi (ca σ T r i), wi 0] [wi (rd σ (T + 25) 501 (ca σ T r i)), wl d] σ _
      refine B_top (fun r5 => ?_)
      refine B_i2l rfl my_101 ?_
      refine B_cS rfl cw_101_104_0 (as := [wl d, wl (rd σ (T + 25) 501 (ca σ T r i))]) (rest := []) rfl (Nat.le_of_ble_eq_true rfl) g_mixed (fun vo s9 hq => ?_)
      obtain ⟨rfl, rfl⟩ := hq
      show Bt E 101 87 [wl a, wx, wr T, wl d, wx, wi r, wi i, wi (ca σ T r i), wi 0] [wl (mxd d (rd σ (T + 25) 501 (ca σ T r i)))] σ _
      refine B_lstoren rfl my_101 (by decide) rfl (show _ = [wl a, wx, wr T, wl (mxd d (rd σ (T + 25) 501 (ca σ T r i))), wx, wi r, wi i, wi (ca σ T r i), wi 0] from rfl) ?_
      refine B_iinc rfl my_101 (by decide) rfl rfl rfl (by omega) (by omega) (show _ = [wl a, wx, wr T, wl (mxd d (rd σ (T + 25) 501 (ca σ T r i))), wx, wi r, wi i, wi (ca σ T r i), wi 1] from rfl) ?_
      refine B_goto rfl my_101 rfl (tgt := 68) rfl ?_
      refine B_iload rfl my_101 rfl ?_
      refine B_iconst rfl my_101 (by decide) ?_
      refine B_ic_gt rfl my_101 rfl (tgt := 94) (nx := 74) rfl rfl (fun c9 => absurd c9 (by decide)) (fun _ => ?_)
      show Bt E 101 74 [wl a, wx, wr T, wl (mxd d (rd σ (T + 25) 501 (ca σ T r i))), wx, wi r, wi i, wi (ca σ T r i), wi 1] [] σ _
      refine B_lloadn rfl my_101 rfl ?_
      refine B_aloadn rfl my_101 rfl ?_
      refine B_iload rfl my_101 rfl ?_
      refine B_iload rfl my_101 rfl ?_
      refine B_cV hE.1 rfl (wc_0 hT) cw_101_58 (as := [wi (ca σ T r i), wi 1]) (rest := [wl (mxd d (rd σ (T + 25) 501 (ca σ T r i)))]) rfl (Nat.le_of_ble_eq_true rfl) (g_factOfCell1 hE hT hS gc.2.2.1 gc.2.2.2) (fun vo s9 hq => ?_)
      obtain ⟨rfl, rfl⟩ := hq
      show Bt E 101 83 [wl a, wx, wr T, wl (mxd d (rd σ (T + 25) 501 (ca σ T r i))), wx, wi r, wi i, wi (ca σ T r i), wi 1] [wi (rd σ (T + 27) 501 (ca σ T r i)), wl (mxd d (rd σ (T + 25) 501 (ca σ T r i)))] σ _
      refine B_top (fun r7 => ?_)
      refine B_i2l rfl my_101 ?_
      refine B_cS rfl cw_101_104_0 (as := [wl (mxd d (rd σ (T + 25) 501 (ca σ T r i))), wl (rd σ (T + 27) 501 (ca σ T r i))]) (rest := []) rfl (Nat.le_of_ble_eq_true rfl) g_mixed (fun vo s9 hq => ?_)
      obtain ⟨rfl, rfl⟩ := hq
      show Bt E 101 87 [wl a, wx, wr T, wl (mxd d (rd σ (T + 25) 501 (ca σ T r i))), wx, wi r, wi i, wi (ca σ T r i), wi 1] [wl (mxd (mxd d (rd σ (T + 25) 501 (ca σ T r i))) (rd σ (T + 27) 501 (ca σ T r i)))] σ _
      refine B_lstoren rfl my_101 (by decide) rfl (show _ = [wl a, wx, wr T, wl (mxd (mxd d (rd σ (T + 25) 501 (ca σ T r i))) (rd σ (T + 27) 501 (ca σ T r i))), wx, wi r, wi i, wi (ca σ T r i), wi 1] from rfl) ?_
      refine B_iinc rfl my_101 (by decide) rfl rfl rfl (by omega) (by omega) (show _ = [wl a, wx, wr T, wl (mxd (mxd d (rd σ (T + 25) 501 (ca σ T r i))) (rd σ (T + 27) 501 (ca σ T r i))), wx, wi r, wi i, wi (ca σ T r i), wi 2] from rfl) ?_
      refine B_goto rfl my_101 rfl (tgt := 68) rfl ?_
      refine B_iload rfl my_101 rfl ?_
      refine B_iconst rfl my_101 (by decide) ?_
      refine B_ic_gt rfl my_101 rfl (tgt := 94) (nx := 74) rfl rfl (fun c9 => absurd c9 (by decide)) (fun _ => ?_)
      show Bt E 101 74 [wl a, wx, wr T, wl (mxd (mxd d (rd σ (T + 25) 501 (ca σ T r i))) (rd σ (T + 27) 501 (ca σ T r i))), wx, wi r, wi i, wi (ca σ T r i), wi 2] [] σ _
      refine B_lloadn rfl my_101 rfl ?_
      refine B_aloadn rfl my_101 rfl ?_
      refine B_iload rfl my_101 rfl ?_
      refine B_iload rfl my_101 rfl ?_
      refine B_cV hE.1 rfl (wc_0 hT) cw_101_58 (as := [wi (ca σ T r i), wi 2]) (rest := [wl (mxd (mxd d (rd σ (T + 25) 501 (ca σ T r i))) (rd σ (T + 27) 501 (ca σ T r i)))]) rfl (Nat.le_of_ble_eq_true rfl) (g_factOfCell2 hE hT hS gc.2.2.1 gc.2.2.2) (fun vo s9 hq => ?_)
      obtain ⟨rfl, rfl⟩ := hq
      show Bt E 101 83 [wl a, wx, wr T, wl (mxd (mxd d (rd σ (T + 25) 501 (ca σ T r i))) (rd σ (T + 27) 501 (ca σ T r i))), wx, wi r, wi i, wi (ca σ T r i), wi 2] [wi (rd σ (T + 6) 501 (ca σ T r i)), wl (mxd (mxd d (rd σ (T + 25) 501 (ca σ T r i))) (rd σ (T + 27) 501 (ca σ T r i)))] σ _
      refine B_top (fun r9 => ?_)
      refine B_i2l rfl my_101 ?_
      refine B_cS rfl cw_101_104_0 (as := [wl (mxd (mxd d (rd σ (T + 25) 501 (ca σ T r i))) (rd σ (T + 27) 501 (ca σ T r i))), wl (rd σ (T + 6) 501 (ca σ T r i))]) (rest := []) rfl (Nat.le_of_ble_eq_true rfl) g_mixed (fun vo s9 hq => ?_)
      obtain ⟨rfl, rfl⟩ := hq
      show Bt E 101 87 [wl a, wx, wr T, wl (mxd (mxd d (rd σ (T + 25) 501 (ca σ T r i))) (rd σ (T + 27) 501 (ca σ T r i))), wx, wi r, wi i, wi (ca σ T r i), wi 2] [wl (mxd (mxd (mxd d (rd σ (T + 25) 501 (ca σ T r i))) (rd σ (T + 27) 501 (ca σ T r i))) (rd σ (T + 6) 501 (ca σ T r i)))] σ _
      refine B_lstoren rfl my_101 (by decide) rfl (show _ = [wl a, wx, wr T, wl (mxd (mxd (mxd d (rd σ (T + 25) 501 (ca σ T r i))) (rd σ (T + 27) 501 (ca σ T r i))) (rd σ (T + 6) 501 (ca σ T r i))), wx, wi r, wi i, wi (ca σ T r i), wi 2] from rfl) ?_
      refine B_iinc rfl my_101 (by decide) rfl rfl rfl (by omega) (by omega) (show _ = [wl a, wx, wr T, wl (mxd (mxd (mxd d (rd σ (T + 25) 501 (ca σ T r i))) (rd σ (T + 27) 501 (ca σ T r i))) (rd σ (T + 6) 501 (ca σ T r i))), wx, wi r, wi i, wi (ca σ T r i), wi 3] from rfl) ?_
      refine B_goto rfl my_101 rfl (tgt := 68) rfl ?_
      refine B_iload rfl my_101 rfl ?_
      refine B_iconst rfl my_101 (by decide) ?_
      refine B_ic_gt rfl my_101 rfl (tgt := 94) (nx := 74) rfl rfl (fun c9 => absurd c9 (by decide)) (fun _ => ?_)
      show Bt E 101 74 [wl a, wx, wr T, wl (mxd (mxd (mxd d (rd σ (T + 25) 501 (ca σ T r i))) (rd σ (T + 27) 501 (ca σ T r i))) (rd σ (T + 6) 501 (ca σ T r i))), wx, wi r, wi i, wi (ca σ T r i), wi 3] [] σ _
      refine B_lloadn rfl my_101 rfl ?_
      refine B_aloadn rfl my_101 rfl ?_
      refine B_iload rfl my_101 rfl ?_
      refine B_iload rfl my_101 rfl ?_
      refine B_cV hE.1 rfl (wc_0 hT) cw_101_58 (as := [wi (ca σ T r i), wi 3]) (rest := [wl (mxd (mxd (mxd d (rd σ (T + 25) 501 (ca σ T r i))) (rd σ (T + 27) 501 (ca σ T r i))) (rd σ (T + 6) 501 (ca σ T r i)))]) rfl (Nat.le_of_ble_eq_true rfl) (g_factOfCell3 hE hT hS gc.2.2.1 gc.2.2.2) (fun vo s9 hq => ?_)
      obtain ⟨rfl, rfl⟩ := hq
      show Bt E 101 83 [wl a, wx, wr T, wl (mxd (mxd (mxd d (rd σ (T + 25) 501 (ca σ T r i))) (rd σ (T + 27) 501 (ca σ T r i))) (rd σ (T + 6) 501 (ca σ T r i))), wx, wi r, wi i, wi (ca σ T r i), wi 3] [wi (rd σ (T + 10) 501 (ca σ T r i)), wl (mxd (mxd (mxd d (rd σ (T + 25) 501 (ca σ T r i))) (rd σ (T + 27) 501 (ca σ T r i))) (rd σ (T + 6) 501 (ca σ T r i)))] σ _
      refine B_top (fun r11 => ?_)
      refine B_i2l rfl my_101 ?_
      refine B_cS rfl cw_101_104_0 (as := [wl (mxd (mxd (mxd d (rd σ (T + 25) 501 (ca σ T r i))) (rd σ (T + 27) 501 (ca σ T r i))) (rd σ (T + 6) 501 (ca σ T r i))), wl (rd σ (T + 10) 501 (ca σ T r i))]) (rest := []) rfl (Nat.le_of_ble_eq_true rfl) g_mixed (fun vo s9 hq => ?_)
      obtain ⟨rfl, rfl⟩ := hq
      show Bt E 101 87 [wl a, wx, wr T, wl (mxd (mxd (mxd d (rd σ (T + 25) 501 (ca σ T r i))) (rd σ (T + 27) 501 (ca σ T r i))) (rd σ (T + 6) 501 (ca σ T r i))), wx, wi r, wi i, wi (ca σ T r i), wi 3] [wl (mxd (mxd (mxd (mxd d (rd σ (T + 25) 501 (ca σ T r i))) (rd σ (T + 27) 501 (ca σ T r i))) (rd σ (T + 6) 501 (ca σ T r i))) (rd σ (T + 10) 501 (ca σ T r i)))] σ _
      refine B_lstoren rfl my_101 (by decide) rfl (show _ = [wl a, wx, wr T, wl (mxd (mxd (mxd (mxd d (rd σ (T + 25) 501 (ca σ T r i))) (rd σ (T + 27) 501 (ca σ T r i))) (rd σ (T + 6) 501 (ca σ T r i))) (rd σ (T + 10) 501 (ca σ T r i))), wx, wi r, wi i, wi (ca σ T r i), wi 3] from rfl) ?_
      refine B_iinc rfl my_101 (by decide) rfl rfl rfl (by omega) (by omega) (show _ = [wl a, wx, wr T, wl (mxd (mxd (mxd (mxd d (rd σ (T + 25) 501 (ca σ T r i))) (rd σ (T + 27) 501 (ca σ T r i))) (rd σ (T + 6) 501 (ca σ T r i))) (rd σ (T + 10) 501 (ca σ T r i))), wx, wi r, wi i, wi (ca σ T r i), wi 4] from rfl) ?_
      refine B_goto rfl my_101 rfl (tgt := 68) rfl ?_
      refine B_iload rfl my_101 rfl ?_
      refine B_iconst rfl my_101 (by decide) ?_
      refine B_ic_gt rfl my_101 rfl (tgt := 94) (nx := 74) rfl rfl (fun c9 => absurd c9 (by decide)) (fun _ => ?_)
      show Bt E 101 74 [wl a, wx, wr T, wl (mxd (mxd (mxd (mxd d (rd σ (T + 25) 501 (ca σ T r i))) (rd σ (T + 27) 501 (ca σ T r i))) (rd σ (T + 6) 501 (ca σ T r i))) (rd σ (T + 10) 501 (ca σ T r i))), wx, wi r, wi i, wi (ca σ T r i), wi 4] [] σ _
      refine B_lloadn rfl my_101 rfl ?_
      refine B_aloadn rfl my_101 rfl ?_
      refine B_iload rfl my_101 rfl ?_
      refine B_iload rfl my_101 rfl ?_
      refine B_cV hE.1 rfl (wc_0 hT) cw_101_58 (as := [wi (ca σ T r i), wi 4]) (rest := [wl (mxd (mxd (mxd (mxd d (rd σ (T + 25) 501 (ca σ T r i))) (rd σ (T + 27) 501 (ca σ T r i))) (rd σ (T + 6) 501 (ca σ T r i))) (rd σ (T + 10) 501 (ca σ T r i)))]) rfl (Nat.le_of_ble_eq_true rfl) (g_factOfCell4 hE hT hS gc.2.2.1 gc.2.2.2) (fun vo s9 hq => ?_)
      obtain ⟨rfl, rfl⟩ := hq
      show Bt E 101 83 [wl a, wx, wr T, wl (mxd (mxd (mxd (mxd d (rd σ (T + 25) 501 (ca σ T r i))) (rd σ (T + 27) 501 (ca σ T r i))) (rd σ (T + 6) 501 (ca σ T r i))) (rd σ (T + 10) 501 (ca σ T r i))), wx, wi r, wi i, wi (ca σ T r i), wi 4] [wi (rd σ (T + 8) 501 (ca σ T r i)), wl (mxd (mxd (mxd (mxd d (rd σ (T + 25) 501 (ca σ T r i))) (rd σ (T + 27) 501 (ca σ T r i))) (rd σ (T + 6) 501 (ca σ T r i))) (rd σ (T + 10) 501 (ca σ T r i)))] σ _
      refine B_top (fun r13 => ?_)
      refine B_i2l rfl my_101 ?_
      refine B_cS rfl cw_101_104_0 (as := [wl (mxd (mxd (mxd (mxd d (rd σ (T + 25) 501 (ca σ T r i))) (rd σ (T + 27) 501 (ca σ T r i))) (rd σ (T + 6) 501 (ca σ T r i))) (rd σ (T + 10) 501 (ca σ T r i))), wl (rd σ (T + 8) 501 (ca σ T r i))]) (rest := []) rfl (Nat.le_of_ble_eq_true rfl) g_mixed (fun vo s9 hq => ?_)
      obtain ⟨rfl, rfl⟩ := hq
      show Bt E 101 87 [wl a, wx, wr T, wl (mxd (mxd (mxd (mxd d (rd σ (T + 25) 501 (ca σ T r i))) (rd σ (T + 27) 501 (ca σ T r i))) (rd σ (T + 6) 501 (ca σ T r i))) (rd σ (T + 10) 501 (ca σ T r i))), wx, wi r, wi i, wi (ca σ T r i), wi 4] [wl (mxd (mxd (mxd (mxd (mxd d (rd σ (T + 25) 501 (ca σ T r i))) (rd σ (T + 27) 501 (ca σ T r i))) (rd σ (T + 6) 501 (ca σ T r i))) (rd σ (T + 10) 501 (ca σ T r i))) (rd σ (T + 8) 501 (ca σ T r i)))] σ _
      refine B_lstoren rfl my_101 (by decide) rfl (show _ = [wl a, wx, wr T, wl (mxd (mxd (mxd (mxd (mxd d (rd σ (T + 25) 501 (ca σ T r i))) (rd σ (T + 27) 501 (ca σ T r i))) (rd σ (T + 6) 501 (ca σ T r i))) (rd σ (T + 10) 501 (ca σ T r i))) (rd σ (T + 8) 501 (ca σ T r i))), wx, wi r, wi i, wi (ca σ T r i), wi 4] from rfl) ?_
      refine B_iinc rfl my_101 (by decide) rfl rfl rfl (by omega) (by omega) (show _ = [wl a, wx, wr T, wl (mxd (mxd (mxd (mxd (mxd d (rd σ (T + 25) 501 (ca σ T r i))) (rd σ (T + 27) 501 (ca σ T r i))) (rd σ (T + 6) 501 (ca σ T r i))) (rd σ (T + 10) 501 (ca σ T r i))) (rd σ (T + 8) 501 (ca σ T r i))), wx, wi r, wi i, wi (ca σ T r i), wi 5] from rfl) ?_
      refine B_goto rfl my_101 rfl (tgt := 68) rfl ?_
      refine B_iload rfl my_101 rfl ?_
      refine B_iconst rfl my_101 (by decide) ?_
      refine B_ic_gt rfl my_101 rfl (tgt := 94) (nx := 74) rfl rfl (fun _ => ?_) (fun c9 => absurd c9 (by decide))
      show Bt E 101 94 [wl a, wx, wr T, wl (mxd (mxd (mxd (mxd (mxd d (rd σ (T + 25) 501 (ca σ T r i))) (rd σ (T + 27) 501 (ca σ T r i))) (rd σ (T + 6) 501 (ca σ T r i))) (rd σ (T + 10) 501 (ca σ T r i))) (rd σ (T + 8) 501 (ca σ T r i))), wx, wi r, wi i, wi (ca σ T r i), wi 5] [] σ _
      refine B_iinc rfl my_101 (by decide) rfl rfl rfl (by omega) (by omega) (show _ = [wl a, wx, wr T, wl (mxd (mxd (mxd (mxd (mxd d (rd σ (T + 25) 501 (ca σ T r i))) (rd σ (T + 27) 501 (ca σ T r i))) (rd σ (T + 6) 501 (ca σ T r i))) (rd σ (T + 10) 501 (ca σ T r i))) (rd σ (T + 8) 501 (ca σ T r i))), wx, wi r, wi (i + 1), wi (ca σ T r i), wi 5] from rfl) ?_
      refine B_goto rfl my_101 rfl (tgt := 38) rfl ?_
      refine B_loc (l' := [wl a, wx, wr T, wl (mxd (mxd (mxd (mxd (mxd d (rd σ (T + 25) 501 (ca σ T r i))) (rd σ (T + 27) 501 (ca σ T r i))) (rd σ (T + 6) 501 (ca σ T r i))) (rd σ (T + 10) 501 (ca σ T r i))) (rd σ (T + 8) 501 (ca σ T r i))), wx, wi r, wi (i + 1), wx, wx]) ⟨Or.inl rfl, Or.inl rfl, Or.inl rfl, Or.inl rfl, Or.inl rfl, Or.inl rfl, Or.inl rfl, Or.inr rfl, Or.inr rfl, trivial⟩ ?_
      exact ih _ _ (by omega) (by omega) (by omega)
theorem l_wr1 {E : mE} {σ : wSt} {T : Nat} (hE : wE E) (hT : Tb T) (hS : SIt T σ) {a : Int} : ∀ (k : Nat) (d r : Int), 0 ≤ r → (gv σ (T + 1) 9 - r).toNat ≤ k → Bt E 101 5 [wl a, wx, wr T, wl d, wx, wi r, wx, wx, wx] [] σ (fun vo t => ∃ x, vo = some (wl x) ∧ True ∧ σ = t) := by
  intro k
  induction k with
  | zero =>
    intro d r h1 hm
    have h0 := hS.hI.1
    refine B_rng 5 rfl (fun ha5 => ?_)
    refine B_iload rfl my_101 rfl ?_
    refine B_aloadn rfl my_101 rfl ?_
    refine B_ref hE.1 rfl my_101 rfl (r := (T + 1)) (wf_0_0 hT) ?_
    refine B_int hE.1 rfl my_101 rfl (wn_1_9 hT) (hS.hR _ (by omega) (by omega) _) (fun r1 => ?_)
    refine B_ic_ge rfl my_101 rfl (tgt := 106) (nx := 17) rfl rfl (fun c2 => ?_) (fun c2 => ?_)
    · refine B_lloadn rfl my_101 rfl ?_
      refine B_lret rfl my_101 rfl ?_
      exact ⟨_, rfl, trivial, rfl⟩
    · exact absurd hm (by omega)
  | succ k ih =>
    intro d r h1 hm
    have h0 := hS.hI.1
    refine B_rng 5 rfl (fun ha5 => ?_)
    refine B_iload rfl my_101 rfl ?_
    refine B_aloadn rfl my_101 rfl ?_
    refine B_ref hE.1 rfl my_101 rfl (r := (T + 1)) (wf_0_0 hT) ?_
    refine B_int hE.1 rfl my_101 rfl (wn_1_9 hT) (hS.hR _ (by omega) (by omega) _) (fun r1 => ?_)
    refine B_ic_ge rfl my_101 rfl (tgt := 106) (nx := 17) rfl rfl (fun c2 => ?_) (fun c2 => ?_)
    · refine B_lloadn rfl my_101 rfl ?_
      refine B_lret rfl my_101 rfl ?_
      exact ⟨_, rfl, trivial, rfl⟩
    · refine B_lloadn rfl my_101 rfl ?_
      refine B_aloadn rfl my_101 rfl ?_
      refine B_ref hE.1 rfl my_101 rfl (r := (T + 1)) (wf_0_0 hT) ?_
      refine B_ref hE.1 rfl my_101 rfl (r := (T + 14)) (wf_1_6 hT) ?_
      refine B_iload rfl my_101 rfl ?_
      refine B_cV hE.1 rfl (nm_14 hT).1 cw_101_20 (as := [wi r]) (rest := [wl d]) rfl (Nat.le_of_ble_eq_true rfl) (g_at hE (nm_14 hT) (by decide) (kr_of fun _ => hS.hR _ (by omega) (by omega) _)) (fun vo s9 hq => ?_)
      obtain ⟨rfl, rfl⟩ := hq
      show Bt E 101 30 [wl a, wx, wr T, wl d, wx, wi r, wx, wx, wx] [wi (rd σ (T + 14) 60 r), wl d] σ _
      refine B_top (fun r3 => ?_)
      refine B_i2l rfl my_101 ?_
      refine B_cS rfl cw_101_104_0 (as := [wl d, wl (rd σ (T + 14) 60 r)]) (rest := []) rfl (Nat.le_of_ble_eq_true rfl) g_mixed (fun vo s9 hq => ?_)
      obtain ⟨rfl, rfl⟩ := hq
      show Bt E 101 34 [wl a, wx, wr T, wl d, wx, wi r, wx, wx, wx] [wl (mxd d (rd σ (T + 14) 60 r))] σ _
      refine B_lstoren rfl my_101 (by decide) rfl (show _ = [wl a, wx, wr T, wl (mxd d (rd σ (T + 14) 60 r)), wx, wi r, wx, wx, wx] from rfl) ?_
      refine B_iconst rfl my_101 (by decide) ?_
      refine B_istore rfl my_101 (by decide) rfl (show _ = [wl a, wx, wr T, wl (mxd d (rd σ (T + 14) 60 r)), wx, wi r, wi 0, wx, wx] from rfl) ?_
      refine l_wr2 hE hT hS h1 (by omega) (fun d9 => ?_) _ _ 0 (by omega) (by omega) (Nat.le_refl _)
      refine B_iinc rfl my_101 (by decide) rfl rfl rfl (by omega) (by omega) (show _ = [wl a, wx, wr T, wl d9, wx, wi (r + 1), wx, wx, wx] from rfl) ?_
      refine B_goto rfl my_101 rfl (tgt := 5) rfl ?_
      exact ih _ _ (by omega) (by omega)
theorem g_withRows {E : mE} {σ : wSt} {T : Nat} (hE : wE E) (hT : Tb T) (hS : SIt T σ) {a : Int} : Fn E 101 [wl a, wr T] σ (fun vo t => ∃ x, vo = some (wl x) ∧ True ∧ σ = t) := by
  refine Fn.of (nL := 9) ?_
  show Bt E 101 0 [wl a, wx, wr T, wx, wx, wx, wx, wx, wx] [] σ _
  refine B_lloadn rfl my_101 rfl ?_
  refine B_lstoren rfl my_101 (by decide) rfl (show _ = [wl a, wx, wr T, wl a, wx, wx, wx, wx, wx] from rfl) ?_
  refine B_iconst rfl my_101 (by decide) ?_
  refine B_istore rfl my_101 (by decide) rfl (show _ = [wl a, wx, wr T, wl a, wx, wi 0, wx, wx, wx] from rfl) ?_
  exact l_wr1 hE hT hS _ _ 0 (by omega) (Nat.le_refl _)
theorem l_wc {E : mE} {σ : wSt} {T : Nat} (hE : wE E) (hT : Tb T) (hS : SIt T σ) (hN : NTy T σ) {a : Int} : ∀ (k : Nat) (d i : Int), 0 ≤ i → i ≤ 20 → (20 - i).toNat ≤ k → Bt E 102 5 [wl a, wx, wr T, wl d, wx, wi i, wx] [] σ (fun vo t => ∃ x, vo = some (wl x) ∧ True ∧ σ = t) := by
  intro k
  induction k with
  | zero =>
    intro d i h1 h2 hm
    have h0 := hS.hI.1
    refine B_rng 5 rfl (fun ha5 => ?_)
    refine B_iload rfl my_102 rfl ?_
    refine B_aloadn rfl my_102 rfl ?_
    refine B_ref hE.1 rfl my_102 rfl (r := (T + 1)) (wf_0_0 hT) ?_
    refine B_cV hE.1 rfl (wc_1 hT) cw_102_33 (as := []) (rest := [wi i]) rfl (Nat.le_of_ble_eq_true rfl) (g_columnCount hE hT hS.hR) (fun vo s9 hq => ?_)
    obtain ⟨rfl, rfl⟩ := hq
    show Bt E 102 14 [wl a, wx, wr T, wl d, wx, wi i, wx] [wi (min (gv σ (T + 1) 12) 20), wi i] σ _
    refine B_top (fun r1 => ?_)
    refine B_ic_ge rfl my_102 rfl (tgt := 89) (nx := 17) rfl rfl (fun c2 => ?_) (fun c2 => ?_)
    · refine B_lloadn rfl my_102 rfl ?_
      refine B_lret rfl my_102 rfl ?_
      exact ⟨_, rfl, trivial, rfl⟩
    · exact absurd hm (by omega)
  | succ k ih =>
    intro d i h1 h2 hm
    have h0 := hS.hI.1
    refine B_rng 5 rfl (fun ha5 => ?_)
    refine B_iload rfl my_102 rfl ?_
    refine B_aloadn rfl my_102 rfl ?_
    refine B_ref hE.1 rfl my_102 rfl (r := (T + 1)) (wf_0_0 hT) ?_
    refine B_cV hE.1 rfl (wc_1 hT) cw_102_33 (as := []) (rest := [wi i]) rfl (Nat.le_of_ble_eq_true rfl) (g_columnCount hE hT hS.hR) (fun vo s9 hq => ?_)
    obtain ⟨rfl, rfl⟩ := hq
    show Bt E 102 14 [wl a, wx, wr T, wl d, wx, wi i, wx] [wi (min (gv σ (T + 1) 12) 20), wi i] σ _
    refine B_top (fun r1 => ?_)
    refine B_ic_ge rfl my_102 rfl (tgt := 89) (nx := 17) rfl rfl (fun c2 => ?_) (fun c2 => ?_)
    · refine B_lloadn rfl my_102 rfl ?_
      refine B_lret rfl my_102 rfl ?_
      exact ⟨_, rfl, trivial, rfl⟩
    · refine B_iconst rfl my_102 (by decide) ?_
      refine B_istore rfl my_102 (by decide) rfl (show _ = [wl a, wx, wr T, wl d, wx, wi i, wi 0] from rfl) ?_
      refine B_iload rfl my_102 rfl ?_
      refine B_iconst rfl my_102 (by decide) ?_
      refine B_ic_gt rfl my_102 rfl (tgt := 46) (nx := 26) rfl rfl (fun c9 => absurd c9 (by decide)) (fun _ => ?_)
      show Bt E 102 26 [wl a, wx, wr T, wl d, wx, wi i, wi 0] [] σ _
      refine B_lloadn rfl my_102 rfl ?_
      refine B_aloadn rfl my_102 rfl ?_
      refine B_iload rfl my_102 rfl ?_
      refine B_iload rfl my_102 rfl ?_
      refine B_cV hE.1 rfl (wc_0 hT) cw_102_59 (as := [wi i, wi 0]) (rest := [wl d]) rfl (Nat.le_of_ble_eq_true rfl) (g_factOfColumn0 hE hT hS h1 (by omega)) (fun vo s9 hq => ?_)
      obtain ⟨rfl, rfl⟩ := hq
      show Bt E 102 35 [wl a, wx, wr T, wl d, wx, wi i, wi 0] [wi (rd σ (T + 31) 20 i), wl d] σ _
      refine B_top (fun r4 => ?_)
      refine B_i2l rfl my_102 ?_
      refine B_cS rfl cw_102_104_0 (as := [wl d, wl (rd σ (T + 31) 20 i)]) (rest := []) rfl (Nat.le_of_ble_eq_true rfl) g_mixed (fun vo s9 hq => ?_)
      obtain ⟨rfl, rfl⟩ := hq
      show Bt E 102 39 [wl a, wx, wr T, wl d, wx, wi i, wi 0] [wl (mxd d (rd σ (T + 31) 20 i))] σ _
      refine B_lstoren rfl my_102 (by decide) rfl (show _ = [wl a, wx, wr T, wl (mxd d (rd σ (T + 31) 20 i)), wx, wi i, wi 0] from rfl) ?_
      refine B_iinc rfl my_102 (by decide) rfl rfl rfl (by omega) (by omega) (show _ = [wl a, wx, wr T, wl (mxd d (rd σ (T + 31) 20 i)), wx, wi i, wi 1] from rfl) ?_
      refine B_goto rfl my_102 rfl (tgt := 20) rfl ?_
      refine B_iload rfl my_102 rfl ?_
      refine B_iconst rfl my_102 (by decide) ?_
      refine B_ic_gt rfl my_102 rfl (tgt := 46) (nx := 26) rfl rfl (fun c9 => absurd c9 (by decide)) (fun _ => ?_)
      show Bt E 102 26 [wl a, wx, wr T, wl (mxd d (rd σ (T + 31) 20 i)), wx, wi i, wi 1] [] σ _
      refine B_lloadn rfl my_102 rfl ?_
      refine B_aloadn rfl my_102 rfl ?_
      refine B_iload rfl my_102 rfl ?_
      refine B_iload rfl my_102 rfl ?_
      refine B_cV hE.1 rfl (wc_0 hT) cw_102_59 (as := [wi i, wi 1]) (rest := [wl (mxd d (rd σ (T + 31) 20 i))]) rfl (Nat.le_of_ble_eq_true rfl) (g_factOfColumn1 hE hT hS h1 (by omega) hN) (fun vo s9 hq => ?_)
      obtain ⟨rfl, rfl⟩ := hq
      show Bt E 102 35 [wl a, wx, wr T, wl (mxd d (rd σ (T + 31) 20 i)), wx, wi i, wi 1] [wi (fln σ T i (gv σ T 10) (gv σ (T + 1) 9 - gv σ T 10).toNat), wl (mxd d (rd σ (T + 31) 20 i))] σ _
      refine B_top (fun r6 => ?_)
      refine B_i2l rfl my_102 ?_
      refine B_cS rfl cw_102_104_0 (as := [wl (mxd d (rd σ (T + 31) 20 i)), wl (fln σ T i (gv σ T 10) (gv σ (T + 1) 9 - gv σ T 10).toNat)]) (rest := []) rfl (Nat.le_of_ble_eq_true rfl) g_mixed (fun vo s9 hq => ?_)
      obtain ⟨rfl, rfl⟩ := hq
      show Bt E 102 39 [wl a, wx, wr T, wl (mxd d (rd σ (T + 31) 20 i)), wx, wi i, wi 1] [wl (mxd (mxd d (rd σ (T + 31) 20 i)) (fln σ T i (gv σ T 10) (gv σ (T + 1) 9 - gv σ T 10).toNat))] σ _
      refine B_lstoren rfl my_102 (by decide) rfl (show _ = [wl a, wx, wr T, wl (mxd (mxd d (rd σ (T + 31) 20 i)) (fln σ T i (gv σ T 10) (gv σ (T + 1) 9 - gv σ T 10).toNat)), wx, wi i, wi 1] from rfl) ?_
      refine B_iinc rfl my_102 (by decide) rfl rfl rfl (by omega) (by omega) (show _ = [wl a, wx, wr T, wl (mxd (mxd d (rd σ (T + 31) 20 i)) (fln σ T i (gv σ T 10) (gv σ (T + 1) 9 - gv σ T 10).toNat)), wx, wi i, wi 2] from rfl) ?_
      refine B_goto rfl my_102 rfl (tgt := 20) rfl ?_
      refine B_iload rfl my_102 rfl ?_
      refine B_iconst rfl my_102 (by decide) ?_
      refine B_ic_gt rfl my_102 rfl (tgt := 46) (nx := 26) rfl rfl (fun c9 => absurd c9 (by decide)) (fun _ => ?_)
      show Bt E 102 26 [wl a, wx, wr T, wl (mxd (mxd d (rd σ (T + 31) 20 i)) (fln σ T i (gv σ T 10) (gv σ (T + 1) 9 - gv σ T 10).toNat)), wx, wi i, wi 2] [] σ _
      refine B_lloadn rfl my_102 rfl ?_
      refine B_aloadn rfl my_102 rfl ?_
      refine B_iload rfl my_102 rfl ?_
      refine B_iload rfl my_102 rfl ?_
      refine B_cV hE.1 rfl (wc_0 hT) cw_102_59 (as := [wi i, wi 2]) (rest := [wl (mxd (mxd d (rd σ (T + 31) 20 i)) (fln σ T i (gv σ T 10) (gv σ (T + 1) 9 - gv σ T 10).toNat))]) rfl (Nat.le_of_ble_eq_true rfl) (g_factOfColumn2 hE hT hS h1 (by omega) hN) (fun vo s9 hq => ?_)
      obtain ⟨rfl, rfl⟩ := hq
      show Bt E 102 35 [wl a, wx, wr T, wl (mxd (mxd d (rd σ (T + 31) 20 i)) (fln σ T i (gv σ T 10) (gv σ (T + 1) 9 - gv σ T 10).toNat)), wx, wi i, wi 2] [wi (ctn σ T i 0 (gv σ T 10) (gv σ (T + 1) 9 - gv σ T 10).toNat), wl (mxd (mxd d (rd σ (T + 31) 20 i)) (fln σ T i (gv σ T 10) (gv σ (T + 1) 9 - gv σ T 10).toNat))] σ _
      refine B_top (fun r8 => ?_)
      refine B_i2l rfl my_102 ?_
      refine B_cS rfl cw_102_104_0 (as := [wl (mxd (mxd d (rd σ (T + 31) 20 i)) (fln σ T i (gv σ T 10) (gv σ (T + 1) 9 - gv σ T 10).toNat)), wl (ctn σ T i 0 (gv σ T 10) (gv σ (T + 1) 9 - gv σ T 10).toNat)]) (rest := []) rfl (Nat.le_of_ble_eq_true rfl) g_mixed (fun vo s9 hq => ?_)
      obtain ⟨rfl, rfl⟩ := hq
      show Bt E 102 39 [wl a, wx, wr T, wl (mxd (mxd d (rd σ (T + 31) 20 i)) (fln σ T i (gv σ T 10) (gv σ (T + 1) 9 - gv σ T 10).toNat)), wx, wi i, wi 2] [wl (mxd (mxd (mxd d (rd σ (T + 31) 20 i)) (fln σ T i (gv σ T 10) (gv σ (T + 1) 9 - gv σ T 10).toNat)) (ctn σ T i 0 (gv σ T 10) (gv σ (T + 1) 9 - gv σ T 10).toNat))] σ _
      refine B_lstoren rfl my_102 (by decide) rfl (show _ = [wl a, wx, wr T, wl (mxd (mxd (mxd d (rd σ (T + 31) 20 i)) (fln σ T i (gv σ T 10) (gv σ (T + 1) 9 - gv σ T 10).toNat)) (ctn σ T i 0 (gv σ T 10) (gv σ (T + 1) 9 - gv σ T 10).toNat)), wx, wi i, wi 2] from rfl) ?_
      refine B_iinc rfl my_102 (by decide) rfl rfl rfl (by omega) (by omega) (show _ = [wl a, wx, wr T, wl (mxd (mxd (mxd d (rd σ (T + 31) 20 i)) (fln σ T i (gv σ T 10) (gv σ (T + 1) 9 - gv σ T 10).toNat)) (ctn σ T i 0 (gv σ T 10) (gv σ (T + 1) 9 - gv σ T 10).toNat)), wx, wi i, wi 3] from rfl) ?_
      refine B_goto rfl my_102 rfl (tgt := 20) rfl ?_
      refine B_iload rfl my_102 rfl ?_
      refine B_iconst rfl my_102 (by decide) ?_
      refine B_ic_gt rfl my_102 rfl (tgt := 46) (nx := 26) rfl rfl (fun c9 => absurd c9 (by decide)) (fun _ => ?_)
      show Bt E 102 26 [wl a, wx, wr T, wl (mxd (mxd (mxd d (rd σ (T + 31) 20 i)) (fln σ T i (gv σ T 10) (gv σ (T + 1) 9 - gv σ T 10).toNat)) (ctn σ T i 0 (gv σ T 10) (gv σ (T + 1) 9 - gv σ T 10).toNat)), wx, wi i, wi 3] [] σ _
      refine B_lloadn rfl my_102 rfl ?_
      refine B_aloadn rfl my_102 rfl ?_
      refine B_iload rfl my_102 rfl ?_
      refine B_iload rfl my_102 rfl ?_
      refine B_cV hE.1 rfl (wc_0 hT) cw_102_59 (as := [wi i, wi 3]) (rest := [wl (mxd (mxd (mxd d (rd σ (T + 31) 20 i)) (fln σ T i (gv σ T 10) (gv σ (T + 1) 9 - gv σ T 10).toNat)) (ctn σ T i 0 (gv σ T 10) (gv σ (T + 1) 9 - gv σ T 10).toNat))]) rfl (Nat.le_of_ble_eq_true rfl) (g_factOfColumn3 hE hT hS h1 (by omega)) (fun vo s9 hq => ?_)
      obtain ⟨rfl, rfl⟩ := hq
      show Bt E 102 35 [wl a, wx, wr T, wl (mxd (mxd (mxd d (rd σ (T + 31) 20 i)) (fln σ T i (gv σ T 10) (gv σ (T + 1) 9 - gv σ T 10).toNat)) (ctn σ T i 0 (gv σ T 10) (gv σ (T + 1) 9 - gv σ T 10).toNat)), wx, wi i, wi 3] [wi (icn σ T i (gv σ (T + 16) 3).toNat), wl (mxd (mxd (mxd d (rd σ (T + 31) 20 i)) (fln σ T i (gv σ T 10) (gv σ (T + 1) 9 - gv σ T 10).toNat)) (ctn σ T i 0 (gv σ T 10) (gv σ (T + 1) 9 - gv σ T 10).toNat))] σ _
      refine B_top (fun r10 => ?_)
      refine B_i2l rfl my_102 ?_
      refine B_cS rfl cw_102_104_0 (as := [wl (mxd (mxd (mxd d (rd σ (T + 31) 20 i)) (fln σ T i (gv σ T 10) (gv σ (T + 1) 9 - gv σ T 10).toNat)) (ctn σ T i 0 (gv σ T 10) (gv σ (T + 1) 9 - gv σ T 10).toNat)), wl (icn σ T i (gv σ (T + 16) 3).toNat)]) (rest := []) rfl (Nat.le_of_ble_eq_true rfl) g_mixed (fun vo s9 hq => ?_)
      obtain ⟨rfl, rfl⟩ := hq
      show Bt E 102 39 [wl a, wx, wr T, wl (mxd (mxd (mxd d (rd σ (T + 31) 20 i)) (fln σ T i (gv σ T 10) (gv σ (T + 1) 9 - gv σ T 10).toNat)) (ctn σ T i 0 (gv σ T 10) (gv σ (T + 1) 9 - gv σ T 10).toNat)), wx, wi i, wi 3] [wl (mxd (mxd (mxd (mxd d (rd σ (T + 31) 20 i)) (fln σ T i (gv σ T 10) (gv σ (T + 1) 9 - gv σ T 10).toNat)) (ctn σ T i 0 (gv σ T 10) (gv σ (T + 1) 9 - gv σ T 10).toNat)) (icn σ T i (gv σ (T + 16) 3).toNat))] σ _
      refine B_lstoren rfl my_102 (by decide) rfl (show _ = [wl a, wx, wr T, wl (mxd (mxd (mxd (mxd d (rd σ (T + 31) 20 i)) (fln σ T i (gv σ T 10) (gv σ (T + 1) 9 - gv σ T 10).toNat)) (ctn σ T i 0 (gv σ T 10) (gv σ (T + 1) 9 - gv σ T 10).toNat)) (icn σ T i (gv σ (T + 16) 3).toNat)), wx, wi i, wi 3] from rfl) ?_
      refine B_iinc rfl my_102 (by decide) rfl rfl rfl (by omega) (by omega) (show _ = [wl a, wx, wr T, wl (mxd (mxd (mxd (mxd d (rd σ (T + 31) 20 i)) (fln σ T i (gv σ T 10) (gv σ (T + 1) 9 - gv σ T 10).toNat)) (ctn σ T i 0 (gv σ T 10) (gv σ (T + 1) 9 - gv σ T 10).toNat)) (icn σ T i (gv σ (T + 16) 3).toNat)), wx, wi i, wi 4] from rfl) ?_
      refine B_goto rfl my_102 rfl (tgt := 20) rfl ?_
      refine B_iload rfl my_102 rfl ?_
      refine B_iconst rfl my_102 (by decide) ?_
      refine B_ic_gt rfl my_102 rfl (tgt := 46) (nx := 26) rfl rfl (fun c9 => absurd c9 (by decide)) (fun _ => ?_)
      show Bt E 102 26 [wl a, wx, wr T, wl (mxd (mxd (mxd (mxd d (rd σ (T + 31) 20 i)) (fln σ T i (gv σ T 10) (gv σ (T + 1) 9 - gv σ T 10).toNat)) (ctn σ T i 0 (gv σ T 10) (gv σ (T + 1) 9 - gv σ T 10).toNat)) (icn σ T i (gv σ (T + 16) 3).toNat)), wx, wi i, wi 4] [] σ _
      refine B_lloadn rfl my_102 rfl ?_
      refine B_aloadn rfl my_102 rfl ?_
      refine B_iload rfl my_102 rfl ?_
      refine B_iload rfl my_102 rfl ?_
      refine B_cV hE.1 rfl (wc_0 hT) cw_102_59 (as := [wi i, wi 4]) (rest := [wl (mxd (mxd (mxd (mxd d (rd σ (T + 31) 20 i)) (fln σ T i (gv σ T 10) (gv σ (T + 1) 9 - gv σ T 10).toNat)) (ctn σ T i 0 (gv σ T 10) (gv σ (T + 1) 9 - gv σ T 10).toNat)) (icn σ T i (gv σ (T + 16) 3).toNat))]) rfl (Nat.le_of_ble_eq_true rfl) (g_factOfColumn4 hE hT hS h1 (by omega) hN) (fun vo s9 hq => ?_)
      obtain ⟨rfl, rfl⟩ := hq
      show Bt E 102 35 [wl a, wx, wr T, wl (mxd (mxd (mxd (mxd d (rd σ (T + 31) 20 i)) (fln σ T i (gv σ T 10) (gv σ (T + 1) 9 - gv σ T 10).toNat)) (ctn σ T i 0 (gv σ T 10) (gv σ (T + 1) 9 - gv σ T 10).toNat)) (icn σ T i (gv σ (T + 16) 3).toNat)), wx, wi i, wi 4] [wi (fln σ T i (gv σ T 10) (gv σ (T + 1) 9 - gv σ T 10).toNat - rpn σ T i (gv σ T 10) (gv σ (T + 1) 9 - gv σ T 10).toNat), wl (mxd (mxd (mxd (mxd d (rd σ (T + 31) 20 i)) (fln σ T i (gv σ T 10) (gv σ (T + 1) 9 - gv σ T 10).toNat)) (ctn σ T i 0 (gv σ T 10) (gv σ (T + 1) 9 - gv σ T 10).toNat)) (icn σ T i (gv σ (T + 16) 3).toNat))] σ _
      refine B_top (fun r12 => ?_)
      refine B_i2l rfl my_102 ?_
      refine B_cS rfl cw_102_104_0 (as := [wl (mxd (mxd (mxd (mxd d (rd σ (T + 31) 20 i)) (fln σ T i (gv σ T 10) (gv σ (T + 1) 9 - gv σ T 10).toNat)) (ctn σ T i 0 (gv σ T 10) (gv σ (T + 1) 9 - gv σ T 10).toNat)) (icn σ T i (gv σ (T + 16) 3).toNat)), wl (fln σ T i (gv σ T 10) (gv σ (T + 1) 9 - gv σ T 10).toNat - rpn σ T i (gv σ T 10) (gv σ (T + 1) 9 - gv σ T 10).toNat)]) (rest := []) rfl (Nat.le_of_ble_eq_true rfl) g_mixed (fun vo s9 hq => ?_)
      obtain ⟨rfl, rfl⟩ := hq
      show Bt E 102 39 [wl a, wx, wr T, wl (mxd (mxd (mxd (mxd d (rd σ (T + 31) 20 i)) (fln σ T i (gv σ T 10) (gv σ (T + 1) 9 - gv σ T 10).toNat)) (ctn σ T i 0 (gv σ T 10) (gv σ (T + 1) 9 - gv σ T 10).toNat)) (icn σ T i (gv σ (T + 16) 3).toNat)), wx, wi i, wi 4] [wl (mxd (mxd (mxd (mxd (mxd d (rd σ (T + 31) 20 i)) (fln σ T i (gv σ T 10) (gv σ (T + 1) 9 - gv σ T 10).toNat)) (ctn σ T i 0 (gv σ T 10) (gv σ (T + 1) 9 - gv σ T 10).toNat)) (icn σ T i (gv σ (T + 16) 3).toNat)) (fln σ T i (gv σ T 10) (gv σ (T + 1) 9 - gv σ T 10).toNat - rpn σ T i (gv σ T 10) (gv σ (T + 1) 9 - gv σ T 10).toNat))] σ _
      refine B_lstoren rfl my_102 (by decide) rfl (show _ = [wl a, wx, wr T, wl (mxd (mxd (mxd (mxd (mxd d (rd σ (T + 31) 20 i)) (fln σ T i (gv σ T 10) (gv σ (T + 1) 9 - gv σ T 10).toNat)) (ctn σ T i 0 (gv σ T 10) (gv σ (T + 1) 9 - gv σ T 10).toNat)) (icn σ T i (gv σ (T + 16) 3).toNat)) (fln σ T i (gv σ T 10) (gv σ (T + 1) 9 - gv σ T 10).toNat - rpn σ T i (gv σ T 10) (gv σ (T + 1) 9 - gv σ T 10).toNat)), wx, wi i, wi 4] from rfl) ?_
      refine B_iinc rfl my_102 (by decide) rfl rfl rfl (by omega) (by omega) (show _ = [wl a, wx, wr T, wl (mxd (mxd (mxd (mxd (mxd d (rd σ (T + 31) 20 i)) (fln σ T i (gv σ T 10) (gv σ (T + 1) 9 - gv σ T 10).toNat)) (ctn σ T i 0 (gv σ T 10) (gv σ (T + 1) 9 - gv σ T 10).toNat)) (icn σ T i (gv σ (T + 16) 3).toNat)) (fln σ T i (gv σ T 10) (gv σ (T + 1) 9 - gv σ T 10).toNat - rpn σ T i (gv σ T 10) (gv σ (T + 1) 9 - gv σ T 10).toNat)), wx, wi i, wi 5] from rfl) ?_
      refine B_goto rfl my_102 rfl (tgt := 20) rfl ?_
      refine B_iload rfl my_102 rfl ?_
      refine B_iconst rfl my_102 (by decide) ?_
      refine B_ic_gt rfl my_102 rfl (tgt := 46) (nx := 26) rfl rfl (fun _ => ?_) (fun c9 => absurd c9 (by decide))
      show Bt E 102 46 [wl a, wx, wr T, wl (mxd (mxd (mxd (mxd (mxd d (rd σ (T + 31) 20 i)) (fln σ T i (gv σ T 10) (gv σ (T + 1) 9 - gv σ T 10).toNat)) (ctn σ T i 0 (gv σ T 10) (gv σ (T + 1) 9 - gv σ T 10).toNat)) (icn σ T i (gv σ (T + 16) 3).toNat)) (fln σ T i (gv σ T 10) (gv σ (T + 1) 9 - gv σ T 10).toNat - rpn σ T i (gv σ T 10) (gv σ (T + 1) 9 - gv σ T 10).toNat)), wx, wi i, wi 5] [] σ _
      refine B_lloadn rfl my_102 rfl ?_
      refine B_aloadn rfl my_102 rfl ?_
      refine B_iload rfl my_102 rfl ?_
      refine B_iconst rfl my_102 (by decide) ?_
      refine B_cV hE.1 rfl (wc_0 hT) cw_102_64 (as := [wi i, wi 0]) (rest := [wl (mxd (mxd (mxd (mxd (mxd d (rd σ (T + 31) 20 i)) (fln σ T i (gv σ T 10) (gv σ (T + 1) 9 - gv σ T 10).toNat)) (ctn σ T i 0 (gv σ T 10) (gv σ (T + 1) 9 - gv σ T 10).toNat)) (icn σ T i (gv σ (T + 16) 3).toNat)) (fln σ T i (gv σ T 10) (gv σ (T + 1) 9 - gv σ T 10).toNat - rpn σ T i (gv σ T 10) (gv σ (T + 1) 9 - gv σ T 10).toNat))]) rfl (Nat.le_of_ble_eq_true rfl) (g_extreme0 hE hT hS h1 (by omega)) (fun vo s9 hq => ?_)
      obtain ⟨x0, rfl, _, rfl⟩ := hq
      show Bt E 102 54 [wl a, wx, wr T, wl (mxd (mxd (mxd (mxd (mxd d (rd σ (T + 31) 20 i)) (fln σ T i (gv σ T 10) (gv σ (T + 1) 9 - gv σ T 10).toNat)) (ctn σ T i 0 (gv σ T 10) (gv σ (T + 1) 9 - gv σ T 10).toNat)) (icn σ T i (gv σ (T + 16) 3).toNat)) (fln σ T i (gv σ T 10) (gv σ (T + 1) 9 - gv σ T 10).toNat - rpn σ T i (gv σ T 10) (gv σ (T + 1) 9 - gv σ T 10).toNat)), wx, wi i, wi 5] [wi x0, wl (mxd (mxd (mxd (mxd (mxd d (rd σ (T + 31) 20 i)) (fln σ T i (gv σ T 10) (gv σ (T + 1) 9 - gv σ T 10).toNat)) (ctn σ T i 0 (gv σ T 10) (gv σ (T + 1) 9 - gv σ T 10).toNat)) (icn σ T i (gv σ (T + 16) 3).toNat)) (fln σ T i (gv σ T 10) (gv σ (T + 1) 9 - gv σ T 10).toNat - rpn σ T i (gv σ T 10) (gv σ (T + 1) 9 - gv σ T 10).toNat))] σ _
      refine B_top (fun r14 => ?_)
      refine B_i2l rfl my_102 ?_
      refine B_cS rfl cw_102_104_0 (as := [wl (mxd (mxd (mxd (mxd (mxd d (rd σ (T + 31) 20 i)) (fln σ T i (gv σ T 10) (gv σ (T + 1) 9 - gv σ T 10).toNat)) (ctn σ T i 0 (gv σ T 10) (gv σ (T + 1) 9 - gv σ T 10).toNat)) (icn σ T i (gv σ (T + 16) 3).toNat)) (fln σ T i (gv σ T 10) (gv σ (T + 1) 9 - gv σ T 10).toNat - rpn σ T i (gv σ T 10) (gv σ (T + 1) 9 - gv σ T 10).toNat)), wl x0]) (rest := []) rfl (Nat.le_of_ble_eq_true rfl) g_mixed (fun vo s9 hq => ?_)
      obtain ⟨rfl, rfl⟩ := hq
      show Bt E 102 58 [wl a, wx, wr T, wl (mxd (mxd (mxd (mxd (mxd d (rd σ (T + 31) 20 i)) (fln σ T i (gv σ T 10) (gv σ (T + 1) 9 - gv σ T 10).toNat)) (ctn σ T i 0 (gv σ T 10) (gv σ (T + 1) 9 - gv σ T 10).toNat)) (icn σ T i (gv σ (T + 16) 3).toNat)) (fln σ T i (gv σ T 10) (gv σ (T + 1) 9 - gv σ T 10).toNat - rpn σ T i (gv σ T 10) (gv σ (T + 1) 9 - gv σ T 10).toNat)), wx, wi i, wi 5] [wl (mxd (mxd (mxd (mxd (mxd (mxd d (rd σ (T + 31) 20 i)) (fln σ T i (gv σ T 10) (gv σ (T + 1) 9 - gv σ T 10).toNat)) (ctn σ T i 0 (gv σ T 10) (gv σ (T + 1) 9 - gv σ T 10).toNat)) (icn σ T i (gv σ (T + 16) 3).toNat)) (fln σ T i (gv σ T 10) (gv σ (T + 1) 9 - gv σ T 10).toNat - rpn σ T i (gv σ T 10) (gv σ (T + 1) 9 - gv σ T 10).toNat)) x0)] σ _
      refine B_lstoren rfl my_102 (by decide) rfl (show _ = [wl a, wx, wr T, wl (mxd (mxd (mxd (mxd (mxd (mxd d (rd σ (T + 31) 20 i)) (fln σ T i (gv σ T 10) (gv σ (T + 1) 9 - gv σ T 10).toNat)) (ctn σ T i 0 (gv σ T 10) (gv σ (T + 1) 9 - gv σ T 10).toNat)) (icn σ T i (gv σ (T + 16) 3).toNat)) (fln σ T i (gv σ T 10) (gv σ (T + 1) 9 - gv σ T 10).toNat - rpn σ T i (gv σ T 10) (gv σ (T + 1) 9 - gv σ T 10).toNat)) x0), wx, wi i, wi 5] from rfl) ?_
      refine B_lloadn rfl my_102 rfl ?_
      refine B_aloadn rfl my_102 rfl ?_
      refine B_iload rfl my_102 rfl ?_
      refine B_iconst rfl my_102 (by decide) ?_
      refine B_cV hE.1 rfl (wc_0 hT) cw_102_64 (as := [wi i, wi 1]) (rest := [wl (mxd (mxd (mxd (mxd (mxd (mxd d (rd σ (T + 31) 20 i)) (fln σ T i (gv σ T 10) (gv σ (T + 1) 9 - gv σ T 10).toNat)) (ctn σ T i 0 (gv σ T 10) (gv σ (T + 1) 9 - gv σ T 10).toNat)) (icn σ T i (gv σ (T + 16) 3).toNat)) (fln σ T i (gv σ T 10) (gv σ (T + 1) 9 - gv σ T 10).toNat - rpn σ T i (gv σ T 10) (gv σ (T + 1) 9 - gv σ T 10).toNat)) x0)]) rfl (Nat.le_of_ble_eq_true rfl) (g_extreme1 hE hT hS h1 (by omega)) (fun vo s9 hq => ?_)
      obtain ⟨x1, rfl, _, rfl⟩ := hq
      show Bt E 102 67 [wl a, wx, wr T, wl (mxd (mxd (mxd (mxd (mxd (mxd d (rd σ (T + 31) 20 i)) (fln σ T i (gv σ T 10) (gv σ (T + 1) 9 - gv σ T 10).toNat)) (ctn σ T i 0 (gv σ T 10) (gv σ (T + 1) 9 - gv σ T 10).toNat)) (icn σ T i (gv σ (T + 16) 3).toNat)) (fln σ T i (gv σ T 10) (gv σ (T + 1) 9 - gv σ T 10).toNat - rpn σ T i (gv σ T 10) (gv σ (T + 1) 9 - gv σ T 10).toNat)) x0), wx, wi i, wi 5] [wi x1, wl (mxd (mxd (mxd (mxd (mxd (mxd d (rd σ (T + 31) 20 i)) (fln σ T i (gv σ T 10) (gv σ (T + 1) 9 - gv σ T 10).toNat)) (ctn σ T i 0 (gv σ T 10) (gv σ (T + 1) 9 - gv σ T 10).toNat)) (icn σ T i (gv σ (T + 16) 3).toNat)) (fln σ T i (gv σ T 10) (gv σ (T + 1) 9 - gv σ T 10).toNat - rpn σ T i (gv σ T 10) (gv σ (T + 1) 9 - gv σ T 10).toNat)) x0)] σ _
      refine B_top (fun r15 => ?_)
      refine B_i2l rfl my_102 ?_
      refine B_cS rfl cw_102_104_0 (as := [wl (mxd (mxd (mxd (mxd (mxd (mxd d (rd σ (T + 31) 20 i)) (fln σ T i (gv σ T 10) (gv σ (T + 1) 9 - gv σ T 10).toNat)) (ctn σ T i 0 (gv σ T 10) (gv σ (T + 1) 9 - gv σ T 10).toNat)) (icn σ T i (gv σ (T + 16) 3).toNat)) (fln σ T i (gv σ T 10) (gv σ (T + 1) 9 - gv σ T 10).toNat - rpn σ T i (gv σ T 10) (gv σ (T + 1) 9 - gv σ T 10).toNat)) x0), wl x1]) (rest := []) rfl (Nat.le_of_ble_eq_true rfl) g_mixed (fun vo s9 hq => ?_)
      obtain ⟨rfl, rfl⟩ := hq
      show Bt E 102 71 [wl a, wx, wr T, wl (mxd (mxd (mxd (mxd (mxd (mxd d (rd σ (T + 31) 20 i)) (fln σ T i (gv σ T 10) (gv σ (T + 1) 9 - gv σ T 10).toNat)) (ctn σ T i 0 (gv σ T 10) (gv σ (T + 1) 9 - gv σ T 10).toNat)) (icn σ T i (gv σ (T + 16) 3).toNat)) (fln σ T i (gv σ T 10) (gv σ (T + 1) 9 - gv σ T 10).toNat - rpn σ T i (gv σ T 10) (gv σ (T + 1) 9 - gv σ T 10).toNat)) x0), wx, wi i, wi 5] [wl (mxd (mxd (mxd (mxd (mxd (mxd (mxd d (rd σ (T + 31) 20 i)) (fln σ T i (gv σ T 10) (gv σ (T + 1) 9 - gv σ T 10).toNat)) (ctn σ T i 0 (gv σ T 10) (gv σ (T + 1) 9 - gv σ T 10).toNat)) (icn σ T i (gv σ (T + 16) 3).toNat)) (fln σ T i (gv σ T 10) (gv σ (T + 1) 9 - gv σ T 10).toNat - rpn σ T i (gv σ T 10) (gv σ (T + 1) 9 - gv σ T 10).toNat)) x0) x1)] σ _
      refine B_lstoren rfl my_102 (by decide) rfl (show _ = [wl a, wx, wr T, wl (mxd (mxd (mxd (mxd (mxd (mxd (mxd d (rd σ (T + 31) 20 i)) (fln σ T i (gv σ T 10) (gv σ (T + 1) 9 - gv σ T 10).toNat)) (ctn σ T i 0 (gv σ T 10) (gv σ (T + 1) 9 - gv σ T 10).toNat)) (icn σ T i (gv σ (T + 16) 3).toNat)) (fln σ T i (gv σ T 10) (gv σ (T + 1) 9 - gv σ T 10).toNat - rpn σ T i (gv σ T 10) (gv σ (T + 1) 9 - gv σ T 10).toNat)) x0) x1), wx, wi i, wi 5] from rfl) ?_
      refine B_lloadn rfl my_102 rfl ?_
      refine B_aloadn rfl my_102 rfl ?_
      refine B_iload rfl my_102 rfl ?_
      refine B_cV hE.1 rfl (wc_0 hT) cw_102_65 (as := [wi i]) (rest := [wl (mxd (mxd (mxd (mxd (mxd (mxd (mxd d (rd σ (T + 31) 20 i)) (fln σ T i (gv σ T 10) (gv σ (T + 1) 9 - gv σ T 10).toNat)) (ctn σ T i 0 (gv σ T 10) (gv σ (T + 1) 9 - gv σ T 10).toNat)) (icn σ T i (gv σ (T + 16) 3).toNat)) (fln σ T i (gv σ T 10) (gv σ (T + 1) 9 - gv σ T 10).toNat - rpn σ T i (gv σ T 10) (gv σ (T + 1) 9 - gv σ T 10).toNat)) x0) x1)]) rfl (Nat.le_of_ble_eq_true rfl) (g_total hE hT hS h1 (by omega)) (fun vo s9 hq => ?_)
      obtain ⟨rfl, hb, rfl⟩ := hq
      show Bt E 102 79 [wl a, wx, wr T, wl (mxd (mxd (mxd (mxd (mxd (mxd (mxd d (rd σ (T + 31) 20 i)) (fln σ T i (gv σ T 10) (gv σ (T + 1) 9 - gv σ T 10).toNat)) (ctn σ T i 0 (gv σ T 10) (gv σ (T + 1) 9 - gv σ T 10).toNat)) (icn σ T i (gv σ (T + 16) 3).toNat)) (fln σ T i (gv σ T 10) (gv σ (T + 1) 9 - gv σ T 10).toNat - rpn σ T i (gv σ T 10) (gv σ (T + 1) 9 - gv σ T 10).toNat)) x0) x1), wx, wi i, wi 5] [wl (sv σ T i (gv σ T 11).toNat), wl (mxd (mxd (mxd (mxd (mxd (mxd (mxd d (rd σ (T + 31) 20 i)) (fln σ T i (gv σ T 10) (gv σ (T + 1) 9 - gv σ T 10).toNat)) (ctn σ T i 0 (gv σ T 10) (gv σ (T + 1) 9 - gv σ T 10).toNat)) (icn σ T i (gv σ (T + 16) 3).toNat)) (fln σ T i (gv σ T 10) (gv σ (T + 1) 9 - gv σ T 10).toNat - rpn σ T i (gv σ T 10) (gv σ (T + 1) 9 - gv σ T 10).toNat)) x0) x1)] σ _
      refine B_cS rfl cw_102_104_0 (as := [wl (mxd (mxd (mxd (mxd (mxd (mxd (mxd d (rd σ (T + 31) 20 i)) (fln σ T i (gv σ T 10) (gv σ (T + 1) 9 - gv σ T 10).toNat)) (ctn σ T i 0 (gv σ T 10) (gv σ (T + 1) 9 - gv σ T 10).toNat)) (icn σ T i (gv σ (T + 16) 3).toNat)) (fln σ T i (gv σ T 10) (gv σ (T + 1) 9 - gv σ T 10).toNat - rpn σ T i (gv σ T 10) (gv σ (T + 1) 9 - gv σ T 10).toNat)) x0) x1), wl (sv σ T i (gv σ T 11).toNat)]) (rest := []) rfl (Nat.le_of_ble_eq_true rfl) g_mixed (fun vo s9 hq => ?_)
      obtain ⟨rfl, rfl⟩ := hq
      show Bt E 102 82 [wl a, wx, wr T, wl (mxd (mxd (mxd (mxd (mxd (mxd (mxd d (rd σ (T + 31) 20 i)) (fln σ T i (gv σ T 10) (gv σ (T + 1) 9 - gv σ T 10).toNat)) (ctn σ T i 0 (gv σ T 10) (gv σ (T + 1) 9 - gv σ T 10).toNat)) (icn σ T i (gv σ (T + 16) 3).toNat)) (fln σ T i (gv σ T 10) (gv σ (T + 1) 9 - gv σ T 10).toNat - rpn σ T i (gv σ T 10) (gv σ (T + 1) 9 - gv σ T 10).toNat)) x0) x1), wx, wi i, wi 5] [wl (mxd (mxd (mxd (mxd (mxd (mxd (mxd (mxd d (rd σ (T + 31) 20 i)) (fln σ T i (gv σ T 10) (gv σ (T + 1) 9 - gv σ T 10).toNat)) (ctn σ T i 0 (gv σ T 10) (gv σ (T + 1) 9 - gv σ T 10).toNat)) (icn σ T i (gv σ (T + 16) 3).toNat)) (fln σ T i (gv σ T 10) (gv σ (T + 1) 9 - gv σ T 10).toNat - rpn σ T i (gv σ T 10) (gv σ (T + 1) 9 - gv σ T 10).toNat)) x0) x1) (sv σ T i (gv σ T 11).toNat))] σ _
      refine B_lstoren rfl my_102 (by decide) rfl (show _ = [wl a, wx, wr T, wl (mxd (mxd (mxd (mxd (mxd (mxd (mxd (mxd d (rd σ (T + 31) 20 i)) (fln σ T i (gv σ T 10) (gv σ (T + 1) 9 - gv σ T 10).toNat)) (ctn σ T i 0 (gv σ T 10) (gv σ (T + 1) 9 - gv σ T 10).toNat)) (icn σ T i (gv σ (T + 16) 3).toNat)) (fln σ T i (gv σ T 10) (gv σ (T + 1) 9 - gv σ T 10).toNat - rpn σ T i (gv σ T 10) (gv σ (T + 1) 9 - gv σ T 10).toNat)) x0) x1) (sv σ T i (gv σ T 11).toNat)), wx, wi i, wi 5] from rfl) ?_
      refine B_iinc rfl my_102 (by decide) rfl rfl rfl (by omega) (by omega) (show _ = [wl a, wx, wr T, wl (mxd (mxd (mxd (mxd (mxd (mxd (mxd (mxd d (rd σ (T + 31) 20 i)) (fln σ T i (gv σ T 10) (gv σ (T + 1) 9 - gv σ T 10).toNat)) (ctn σ T i 0 (gv σ T 10) (gv σ (T + 1) 9 - gv σ T 10).toNat)) (icn σ T i (gv σ (T + 16) 3).toNat)) (fln σ T i (gv σ T 10) (gv σ (T + 1) 9 - gv σ T 10).toNat - rpn σ T i (gv σ T 10) (gv σ (T + 1) 9 - gv σ T 10).toNat)) x0) x1) (sv σ T i (gv σ T 11).toNat)), wx, wi (i + 1), wi 5] from rfl) ?_
      refine B_goto rfl my_102 rfl (tgt := 5) rfl ?_
      refine B_loc (l' := [wl a, wx, wr T, wl (mxd (mxd (mxd (mxd (mxd (mxd (mxd (mxd d (rd σ (T + 31) 20 i)) (fln σ T i (gv σ T 10) (gv σ (T + 1) 9 - gv σ T 10).toNat)) (ctn σ T i 0 (gv σ T 10) (gv σ (T + 1) 9 - gv σ T 10).toNat)) (icn σ T i (gv σ (T + 16) 3).toNat)) (fln σ T i (gv σ T 10) (gv σ (T + 1) 9 - gv σ T 10).toNat - rpn σ T i (gv σ T 10) (gv σ (T + 1) 9 - gv σ T 10).toNat)) x0) x1) (sv σ T i (gv σ T 11).toNat)), wx, wi (i + 1), wx]) ⟨Or.inl rfl, Or.inl rfl, Or.inl rfl, Or.inl rfl, Or.inl rfl, Or.inl rfl, Or.inr rfl, trivial⟩ ?_
      exact ih _ _ (by omega) (by omega) (by omega)
theorem g_withColumns {E : mE} {σ : wSt} {T : Nat} (hE : wE E) (hT : Tb T) (hS : SIt T σ) (hN : NTy T σ) {a : Int} : Fn E 102 [wl a, wr T] σ (fun vo t => ∃ x, vo = some (wl x) ∧ True ∧ σ = t) := by
  refine Fn.of (nL := 7) ?_
  show Bt E 102 0 [wl a, wx, wr T, wx, wx, wx, wx] [] σ _
  refine B_lloadn rfl my_102 rfl ?_
  refine B_lstoren rfl my_102 (by decide) rfl (show _ = [wl a, wx, wr T, wl a, wx, wx, wx] from rfl) ?_
  refine B_iconst rfl my_102 (by decide) ?_
  refine B_istore rfl my_102 (by decide) rfl (show _ = [wl a, wx, wr T, wl a, wx, wi 0, wx] from rfl) ?_
  exact l_wc hE hT hS hN _ _ 0 (by omega) (by omega) (Nat.le_refl _)
theorem l_wk {E : mE} {σ : wSt} {T : Nat} (hE : wE E) (hT : Tb T) (hS : SIt T σ) {a : Int} : ∀ (k : Nat) (d i : Int), 0 ≤ i → (gv σ T 11 - i).toNat ≤ k → Bt E 103 58 [wl a, wx, wr T, wl d, wx, wi i, wx] [] σ (fun vo t => ∃ x, vo = some (wl x) ∧ True ∧ σ = t) := by
  intro k
  induction k with
  | zero =>
    intro d i h1 hm
    have h0 := hS.hI.1
    have hk := hS.2.2.2.2.2.2.2.1
    refine B_rng 5 rfl (fun ha5 => ?_)
    refine B_iload rfl my_103 rfl ?_
    refine B_aloadn rfl my_103 rfl ?_
    refine B_int hE.1 rfl my_103 rfl (wn_0_11 hT) hS.2.2.2.2.2.1 (fun r1 => ?_)
    refine B_ic_ge rfl my_103 rfl (tgt := 88) (nx := 67) rfl rfl (fun c2 => ?_) (fun c2 => ?_)
    · refine B_lloadn rfl my_103 rfl ?_
      refine B_lret rfl my_103 rfl ?_
      exact ⟨_, rfl, trivial, rfl⟩
    · exact absurd hm (by omega)
  | succ k ih =>
    intro d i h1 hm
    have h0 := hS.hI.1
    have hk := hS.2.2.2.2.2.2.2.1
    refine B_rng 5 rfl (fun ha5 => ?_)
    refine B_iload rfl my_103 rfl ?_
    refine B_aloadn rfl my_103 rfl ?_
    refine B_int hE.1 rfl my_103 rfl (wn_0_11 hT) hS.2.2.2.2.2.1 (fun r1 => ?_)
    refine B_ic_ge rfl my_103 rfl (tgt := 88) (nx := 67) rfl rfl (fun c2 => ?_) (fun c2 => ?_)
    · refine B_lloadn rfl my_103 rfl ?_
      refine B_lret rfl my_103 rfl ?_
      exact ⟨_, rfl, trivial, rfl⟩
    · refine B_lloadn rfl my_103 rfl ?_
      refine B_aloadn rfl my_103 rfl ?_
      refine B_ref hE.1 rfl my_103 rfl (r := (T + 23)) (wf_0_2 hT) ?_
      refine B_iload rfl my_103 rfl ?_
      refine B_cV hE.1 rfl (nm_23 hT).1 cw_103_20 (as := [wi i]) (rest := [wl d]) rfl (Nat.le_of_ble_eq_true rfl) (g_at hE (nm_23 hT) (by decide) (hS.kp h1 (by omega))) (fun vo s9 hq => ?_)
      obtain ⟨rfl, rfl⟩ := hq
      show Bt E 103 77 [wl a, wx, wr T, wl d, wx, wi i, wx] [wi (rd σ (T + 23) 60 i), wl d] σ _
      refine B_top (fun r3 => ?_)
      refine B_i2l rfl my_103 ?_
      refine B_cS rfl cw_103_104_0 (as := [wl d, wl (rd σ (T + 23) 60 i)]) (rest := []) rfl (Nat.le_of_ble_eq_true rfl) g_mixed (fun vo s9 hq => ?_)
      obtain ⟨rfl, rfl⟩ := hq
      show Bt E 103 81 [wl a, wx, wr T, wl d, wx, wi i, wx] [wl (mxd d (rd σ (T + 23) 60 i))] σ _
      refine B_lstoren rfl my_103 (by decide) rfl (show _ = [wl a, wx, wr T, wl (mxd d (rd σ (T + 23) 60 i)), wx, wi i, wx] from rfl) ?_
      refine B_iinc rfl my_103 (by decide) rfl rfl rfl (by omega) (by omega) (show _ = [wl a, wx, wr T, wl (mxd d (rd σ (T + 23) 60 i)), wx, wi (i + 1), wx] from rfl) ?_
      refine B_goto rfl my_103 rfl (tgt := 58) rfl ?_
      exact ih _ _ (by omega) (by omega)
theorem l_wf {E : mE} {σ : wSt} {T : Nat} (hE : wE E) (hT : Tb T) (hS : SIt T σ) {a : Int} : ∀ (k : Nat) (d i : Int), 0 ≤ i → (gv σ (T + 16) 3 - i).toNat ≤ k → Bt E 103 5 [wl a, wx, wr T, wl d, wx, wi i, wx] [] σ (fun vo t => ∃ x, vo = some (wl x) ∧ True ∧ σ = t) := by
  intro k
  induction k with
  | zero =>
    intro d i h1 hm
    have h0 := hS.hI.1
    refine B_rng 5 rfl (fun ha5 => ?_)
    refine B_iload rfl my_103 rfl ?_
    refine B_aloadn rfl my_103 rfl ?_
    refine B_ref hE.1 rfl my_103 rfl (r := (T + 16)) (wf_0_1 hT) ?_
    refine B_int hE.1 rfl my_103 rfl (wn_16_3 hT) hS.2.2.2.2.1.1 (fun r1 => ?_)
    refine B_ic_ge rfl my_103 rfl (tgt := 55) (nx := 17) rfl rfl (fun c2 => ?_) (fun c2 => ?_)
    · refine B_iconst rfl my_103 (by decide) ?_
      refine B_istore rfl my_103 (by decide) rfl (show _ = [wl a, wx, wr T, wl d, wx, wi 0, wx] from rfl) ?_
      exact l_wk hE hT hS _ _ 0 (by omega) (Nat.le_refl _)
    · exact absurd hm (by omega)
  | succ k ih =>
    intro d i h1 hm
    have h0 := hS.hI.1
    refine B_rng 5 rfl (fun ha5 => ?_)
    refine B_iload rfl my_103 rfl ?_
    refine B_aloadn rfl my_103 rfl ?_
    refine B_ref hE.1 rfl my_103 rfl (r := (T + 16)) (wf_0_1 hT) ?_
    refine B_int hE.1 rfl my_103 rfl (wn_16_3 hT) hS.2.2.2.2.1.1 (fun r1 => ?_)
    refine B_ic_ge rfl my_103 rfl (tgt := 55) (nx := 17) rfl rfl (fun c2 => ?_) (fun c2 => ?_)
    · refine B_iconst rfl my_103 (by decide) ?_
      refine B_istore rfl my_103 (by decide) rfl (show _ = [wl a, wx, wr T, wl d, wx, wi 0, wx] from rfl) ?_
      exact l_wk hE hT hS _ _ 0 (by omega) (Nat.le_refl _)
    · refine B_iconst rfl my_103 (by decide) ?_
      refine B_istore rfl my_103 (by decide) rfl (show _ = [wl a, wx, wr T, wl d, wx, wi i, wi 0] from rfl) ?_
      refine B_iload rfl my_103 rfl ?_
      refine B_iconst rfl my_103 (by decide) ?_
      refine B_ic_gt rfl my_103 rfl (tgt := 49) (nx := 26) rfl rfl (fun c9 => absurd c9 (by decide)) (fun _ => ?_)
      show Bt E 103 26 [wl a, wx, wr T, wl d, wx, wi i, wi 0] [] σ _
      refine B_lloadn rfl my_103 rfl ?_
      refine B_aloadn rfl my_103 rfl ?_
      refine B_ref hE.1 rfl my_103 rfl (r := (T + 16)) (wf_0_1 hT) ?_
      refine B_iload rfl my_103 rfl ?_
      refine B_iload rfl my_103 rfl ?_
      refine B_cV hE.1 rfl (wc_16 hT) cw_103_2 (as := [wi i, wi 0]) (rest := [wl d]) rfl (Nat.le_of_ble_eq_true rfl) (g_fact0 hE hT hS h1 (by omega)) (fun vo s9 hq => ?_)
      obtain ⟨rfl, rfl⟩ := hq
      show Bt E 103 38 [wl a, wx, wr T, wl d, wx, wi i, wi 0] [wi (rd σ (T + 17) 561 i), wl d] σ _
      refine B_top (fun r4 => ?_)
      refine B_i2l rfl my_103 ?_
      refine B_cS rfl cw_103_104_0 (as := [wl d, wl (rd σ (T + 17) 561 i)]) (rest := []) rfl (Nat.le_of_ble_eq_true rfl) g_mixed (fun vo s9 hq => ?_)
      obtain ⟨rfl, rfl⟩ := hq
      show Bt E 103 42 [wl a, wx, wr T, wl d, wx, wi i, wi 0] [wl (mxd d (rd σ (T + 17) 561 i))] σ _
      refine B_lstoren rfl my_103 (by decide) rfl (show _ = [wl a, wx, wr T, wl (mxd d (rd σ (T + 17) 561 i)), wx, wi i, wi 0] from rfl) ?_
      refine B_iinc rfl my_103 (by decide) rfl rfl rfl (by omega) (by omega) (show _ = [wl a, wx, wr T, wl (mxd d (rd σ (T + 17) 561 i)), wx, wi i, wi 1] from rfl) ?_
      refine B_goto rfl my_103 rfl (tgt := 20) rfl ?_
      refine B_iload rfl my_103 rfl ?_
      refine B_iconst rfl my_103 (by decide) ?_
      refine B_ic_gt rfl my_103 rfl (tgt := 49) (nx := 26) rfl rfl (fun c9 => absurd c9 (by decide)) (fun _ => ?_)
      show Bt E 103 26 [wl a, wx, wr T, wl (mxd d (rd σ (T + 17) 561 i)), wx, wi i, wi 1] [] σ _
      refine B_lloadn rfl my_103 rfl ?_
      refine B_aloadn rfl my_103 rfl ?_
      refine B_ref hE.1 rfl my_103 rfl (r := (T + 16)) (wf_0_1 hT) ?_
      refine B_iload rfl my_103 rfl ?_
      refine B_iload rfl my_103 rfl ?_
      refine B_cV hE.1 rfl (wc_16 hT) cw_103_2 (as := [wi i, wi 1]) (rest := [wl (mxd d (rd σ (T + 17) 561 i))]) rfl (Nat.le_of_ble_eq_true rfl) (g_fact1 hE hT hS h1 (by omega)) (fun vo s9 hq => ?_)
      obtain ⟨rfl, rfl⟩ := hq
      show Bt E 103 38 [wl a, wx, wr T, wl (mxd d (rd σ (T + 17) 561 i)), wx, wi i, wi 1] [wi (rd σ (T + 19) 561 i), wl (mxd d (rd σ (T + 17) 561 i))] σ _
      refine B_top (fun r6 => ?_)
      refine B_i2l rfl my_103 ?_
      refine B_cS rfl cw_103_104_0 (as := [wl (mxd d (rd σ (T + 17) 561 i)), wl (rd σ (T + 19) 561 i)]) (rest := []) rfl (Nat.le_of_ble_eq_true rfl) g_mixed (fun vo s9 hq => ?_)
      obtain ⟨rfl, rfl⟩ := hq
      show Bt E 103 42 [wl a, wx, wr T, wl (mxd d (rd σ (T + 17) 561 i)), wx, wi i, wi 1] [wl (mxd (mxd d (rd σ (T + 17) 561 i)) (rd σ (T + 19) 561 i))] σ _
      refine B_lstoren rfl my_103 (by decide) rfl (show _ = [wl a, wx, wr T, wl (mxd (mxd d (rd σ (T + 17) 561 i)) (rd σ (T + 19) 561 i)), wx, wi i, wi 1] from rfl) ?_
      refine B_iinc rfl my_103 (by decide) rfl rfl rfl (by omega) (by omega) (show _ = [wl a, wx, wr T, wl (mxd (mxd d (rd σ (T + 17) 561 i)) (rd σ (T + 19) 561 i)), wx, wi i, wi 2] from rfl) ?_
      refine B_goto rfl my_103 rfl (tgt := 20) rfl ?_
      refine B_iload rfl my_103 rfl ?_
      refine B_iconst rfl my_103 (by decide) ?_
      refine B_ic_gt rfl my_103 rfl (tgt := 49) (nx := 26) rfl rfl (fun c9 => absurd c9 (by decide)) (fun _ => ?_)
      show Bt E 103 26 [wl a, wx, wr T, wl (mxd (mxd d (rd σ (T + 17) 561 i)) (rd σ (T + 19) 561 i)), wx, wi i, wi 2] [] σ _
      refine B_lloadn rfl my_103 rfl ?_
      refine B_aloadn rfl my_103 rfl ?_
      refine B_ref hE.1 rfl my_103 rfl (r := (T + 16)) (wf_0_1 hT) ?_
      refine B_iload rfl my_103 rfl ?_
      refine B_iload rfl my_103 rfl ?_
      refine B_cV hE.1 rfl (wc_16 hT) cw_103_2 (as := [wi i, wi 2]) (rest := [wl (mxd (mxd d (rd σ (T + 17) 561 i)) (rd σ (T + 19) 561 i))]) rfl (Nat.le_of_ble_eq_true rfl) (g_fact2 hE hT hS h1 (by omega)) (fun vo s9 hq => ?_)
      obtain ⟨rfl, rfl⟩ := hq
      show Bt E 103 38 [wl a, wx, wr T, wl (mxd (mxd d (rd σ (T + 17) 561 i)) (rd σ (T + 19) 561 i)), wx, wi i, wi 2] [wi (rd σ (T + 21) 561 i), wl (mxd (mxd d (rd σ (T + 17) 561 i)) (rd σ (T + 19) 561 i))] σ _
      refine B_top (fun r8 => ?_)
      refine B_i2l rfl my_103 ?_
      refine B_cS rfl cw_103_104_0 (as := [wl (mxd (mxd d (rd σ (T + 17) 561 i)) (rd σ (T + 19) 561 i)), wl (rd σ (T + 21) 561 i)]) (rest := []) rfl (Nat.le_of_ble_eq_true rfl) g_mixed (fun vo s9 hq => ?_)
      obtain ⟨rfl, rfl⟩ := hq
      show Bt E 103 42 [wl a, wx, wr T, wl (mxd (mxd d (rd σ (T + 17) 561 i)) (rd σ (T + 19) 561 i)), wx, wi i, wi 2] [wl (mxd (mxd (mxd d (rd σ (T + 17) 561 i)) (rd σ (T + 19) 561 i)) (rd σ (T + 21) 561 i))] σ _
      refine B_lstoren rfl my_103 (by decide) rfl (show _ = [wl a, wx, wr T, wl (mxd (mxd (mxd d (rd σ (T + 17) 561 i)) (rd σ (T + 19) 561 i)) (rd σ (T + 21) 561 i)), wx, wi i, wi 2] from rfl) ?_
      refine B_iinc rfl my_103 (by decide) rfl rfl rfl (by omega) (by omega) (show _ = [wl a, wx, wr T, wl (mxd (mxd (mxd d (rd σ (T + 17) 561 i)) (rd σ (T + 19) 561 i)) (rd σ (T + 21) 561 i)), wx, wi i, wi 3] from rfl) ?_
      refine B_goto rfl my_103 rfl (tgt := 20) rfl ?_
      refine B_iload rfl my_103 rfl ?_
      refine B_iconst rfl my_103 (by decide) ?_
      refine B_ic_gt rfl my_103 rfl (tgt := 49) (nx := 26) rfl rfl (fun _ => ?_) (fun c9 => absurd c9 (by decide))
      show Bt E 103 49 [wl a, wx, wr T, wl (mxd (mxd (mxd d (rd σ (T + 17) 561 i)) (rd σ (T + 19) 561 i)) (rd σ (T + 21) 561 i)), wx, wi i, wi 3] [] σ _
      refine B_iinc rfl my_103 (by decide) rfl rfl rfl (by omega) (by omega) (show _ = [wl a, wx, wr T, wl (mxd (mxd (mxd d (rd σ (T + 17) 561 i)) (rd σ (T + 19) 561 i)) (rd σ (T + 21) 561 i)), wx, wi (i + 1), wi 3] from rfl) ?_
      refine B_goto rfl my_103 rfl (tgt := 5) rfl ?_
      refine B_loc (l' := [wl a, wx, wr T, wl (mxd (mxd (mxd d (rd σ (T + 17) 561 i)) (rd σ (T + 19) 561 i)) (rd σ (T + 21) 561 i)), wx, wi (i + 1), wx]) ⟨Or.inl rfl, Or.inl rfl, Or.inl rfl, Or.inl rfl, Or.inl rfl, Or.inl rfl, Or.inr rfl, trivial⟩ ?_
      exact ih _ _ (by omega) (by omega)
theorem g_withFaultsAndKept {E : mE} {σ : wSt} {T : Nat} (hE : wE E) (hT : Tb T) (hS : SIt T σ) {a : Int} : Fn E 103 [wl a, wr T] σ (fun vo t => ∃ x, vo = some (wl x) ∧ True ∧ σ = t) := by
  refine Fn.of (nL := 7) ?_
  show Bt E 103 0 [wl a, wx, wr T, wx, wx, wx, wx] [] σ _
  refine B_lloadn rfl my_103 rfl ?_
  refine B_lstoren rfl my_103 (by decide) rfl (show _ = [wl a, wx, wr T, wl a, wx, wx, wx] from rfl) ?_
  refine B_iconst rfl my_103 (by decide) ?_
  refine B_istore rfl my_103 (by decide) rfl (show _ = [wl a, wx, wr T, wl a, wx, wi 0, wx] from rfl) ?_
  exact l_wf hE hT hS _ _ 0 (by omega) (Nat.le_refl _)
def dg0 (σ : wSt) (T : Nat) (q : Int) : Int := mxd (mxd (mxd (mxd (mxd (mxd (mxd (mxd (mxd (mxd (mxd (mxd (mxd (mxd 58075 (gv σ T 8)) (gv σ T 9)) (gv σ T 10)) (pts σ 11)) (pts σ 46)) (pts σ 81)) (pts σ 116)) (gv σ 3 1)) (gv σ (T + 1) 9)) (min (gv σ (T + 1) 12) 20)) (max 0 (gv σ (T + 1) 9 - gv σ T 10))) (gv σ (T + 16) 3)) (gv σ T 11)) q
/-- the checksum so far: of what the table 'now' is, and the scores -/
def D1g (E : mE) (T : Nat) (σ : wSt) (d : Int) : Prop := ∃ q r1 r2, An E 57 [wr T, wi 6] (RSr T σ) (wi q) ∧ An E 101 [wl (dg0 σ T q), wr T] (RSr T σ) (wl r1) ∧ An E 102 [wl r1, wr T] (RSr T σ) (wl r2) ∧ An E 103 [wl r2, wr T] (RSr T σ) (wl d)
theorem d1g_fn {E : mE} {T : Nat} {σ τ : wSt} {d e : Int} (h1 : D1g E T σ d) (h2 : D1g E T τ e) (hr : RSr T τ = RSr T σ) (h0 : ∀ q, dg0 τ T q = dg0 σ T q) : d = e := by
  obtain ⟨q, r1, r2, a1, a2, a3, a4⟩ := h1
  obtain ⟨q', s1, s2, b1, b2, b3, b4⟩ := h2
  rw [hr] at b1 b2 b3 b4
  have e1 := wi_inj _ _ (an_fn a1 b1)
  subst e1
  rw [h0] at b2
  have e2 := wl_inj _ _ (an_fn a2 b2)
  subst e2
  have e3 := wl_inj _ _ (an_fn a3 b3)
  subst e3
  exact wl_inj _ _ (an_fn a4 b4)
theorem t_dig1 {E : mE} {σ : wSt} {T : Nat} (hE : wE E) (hT : Tb T) (hS : SIt T σ) (hN : NTy T σ) (h8 : kn σ T 8) (hA : ∀ U, Tb U → KRd U σ ∧ RI U σ) (h3 : kn σ 3 1) {P : Option wV → wSt → Prop} (kont : ∀ d, D1g E T σ d → Bt E 100 131 [wr 2, wr T, wl d, wx, wi 0] [] σ P) : Bt E 100 4 [wr 2, wx, wx, wx, wx] [wr T] σ P := by
  refine B_astoren rfl my_100 (by decide) rfl (show _ = [wr 2, wr T, wx, wx, wx] from rfl) ?_
  refine B_ldc2 rfl my_100 (n := 58075) rfl ?_
  refine B_lstoren rfl my_100 (by decide) rfl (show _ = [wr 2, wr T, wl 58075, wx, wx] from rfl) ?_
  refine B_iconst rfl my_100 (by decide) ?_
  refine B_istore rfl my_100 (by decide) rfl (show _ = [wr 2, wr T, wl 58075, wx, wi 0] from rfl) ?_
  refine B_iload rfl my_100 rfl ?_
  refine B_iconst rfl my_100 (by decide) ?_
  refine B_ic_gt rfl my_100 rfl (tgt := 36) (nx := 18) rfl rfl (fun c9 => absurd c9 (by decide)) (fun _ => ?_)
  show Bt E 100 18 [wr 2, wr T, wl 58075, wx, wi 0] [] σ _
  refine B_lloadn rfl my_100 rfl ?_
  refine B_aloadn rfl my_100 rfl ?_
  refine B_iload rfl my_100 rfl ?_
  refine B_cV hE.1 rfl (wc_0 hT) cw_100_56 (as := [wi 0]) (rest := [wl 58075]) rfl (Nat.le_of_ble_eq_true rfl) (g_choice0 hE hT hS h8) (fun vo s9 hq => ?_)
  obtain ⟨rfl, rfl⟩ := hq
  show Bt E 100 25 [wr 2, wr T, wl 58075, wx, wi 0] [wi (gv σ T 8), wl 58075] σ _
  refine B_top (fun r2 => ?_)
  refine B_i2l rfl my_100 ?_
  refine B_cS rfl cw_100_104_0 (as := [wl 58075, wl (gv σ T 8)]) (rest := []) rfl (Nat.le_of_ble_eq_true rfl) g_mixed (fun vo s9 hq => ?_)
  obtain ⟨rfl, rfl⟩ := hq
  show Bt E 100 29 [wr 2, wr T, wl 58075, wx, wi 0] [wl (mxd 58075 (gv σ T 8))] σ _
  refine B_lstoren rfl my_100 (by decide) rfl (show _ = [wr 2, wr T, wl (mxd 58075 (gv σ T 8)), wx, wi 0] from rfl) ?_
  refine B_iinc rfl my_100 (by decide) rfl rfl rfl (by omega) (by omega) (show _ = [wr 2, wr T, wl (mxd 58075 (gv σ T 8)), wx, wi 1] from rfl) ?_
  refine B_goto rfl my_100 rfl (tgt := 12) rfl ?_
  refine B_iload rfl my_100 rfl ?_
  refine B_iconst rfl my_100 (by decide) ?_
  refine B_ic_gt rfl my_100 rfl (tgt := 36) (nx := 18) rfl rfl (fun c9 => absurd c9 (by decide)) (fun _ => ?_)
  show Bt E 100 18 [wr 2, wr T, wl (mxd 58075 (gv σ T 8)), wx, wi 1] [] σ _
  refine B_lloadn rfl my_100 rfl ?_
  refine B_aloadn rfl my_100 rfl ?_
  refine B_iload rfl my_100 rfl ?_
  refine B_cV hE.1 rfl (wc_0 hT) cw_100_56 (as := [wi 1]) (rest := [wl (mxd 58075 (gv σ T 8))]) rfl (Nat.le_of_ble_eq_true rfl) (g_choice1 hE hT hS) (fun vo s9 hq => ?_)
  obtain ⟨rfl, rfl⟩ := hq
  show Bt E 100 25 [wr 2, wr T, wl (mxd 58075 (gv σ T 8)), wx, wi 1] [wi (gv σ T 9), wl (mxd 58075 (gv σ T 8))] σ _
  refine B_top (fun r4 => ?_)
  refine B_i2l rfl my_100 ?_
  refine B_cS rfl cw_100_104_0 (as := [wl (mxd 58075 (gv σ T 8)), wl (gv σ T 9)]) (rest := []) rfl (Nat.le_of_ble_eq_true rfl) g_mixed (fun vo s9 hq => ?_)
  obtain ⟨rfl, rfl⟩ := hq
  show Bt E 100 29 [wr 2, wr T, wl (mxd 58075 (gv σ T 8)), wx, wi 1] [wl (mxd (mxd 58075 (gv σ T 8)) (gv σ T 9))] σ _
  refine B_lstoren rfl my_100 (by decide) rfl (show _ = [wr 2, wr T, wl (mxd (mxd 58075 (gv σ T 8)) (gv σ T 9)), wx, wi 1] from rfl) ?_
  refine B_iinc rfl my_100 (by decide) rfl rfl rfl (by omega) (by omega) (show _ = [wr 2, wr T, wl (mxd (mxd 58075 (gv σ T 8)) (gv σ T 9)), wx, wi 2] from rfl) ?_
  refine B_goto rfl my_100 rfl (tgt := 12) rfl ?_
  refine B_iload rfl my_100 rfl ?_
  refine B_iconst rfl my_100 (by decide) ?_
  refine B_ic_gt rfl my_100 rfl (tgt := 36) (nx := 18) rfl rfl (fun c9 => absurd c9 (by decide)) (fun _ => ?_)
  show Bt E 100 18 [wr 2, wr T, wl (mxd (mxd 58075 (gv σ T 8)) (gv σ T 9)), wx, wi 2] [] σ _
  refine B_lloadn rfl my_100 rfl ?_
  refine B_aloadn rfl my_100 rfl ?_
  refine B_iload rfl my_100 rfl ?_
  refine B_cV hE.1 rfl (wc_0 hT) cw_100_56 (as := [wi 2]) (rest := [wl (mxd (mxd 58075 (gv σ T 8)) (gv σ T 9))]) rfl (Nat.le_of_ble_eq_true rfl) (g_choice2 hE hT hS) (fun vo s9 hq => ?_)
  obtain ⟨rfl, rfl⟩ := hq
  show Bt E 100 25 [wr 2, wr T, wl (mxd (mxd 58075 (gv σ T 8)) (gv σ T 9)), wx, wi 2] [wi (gv σ T 10), wl (mxd (mxd 58075 (gv σ T 8)) (gv σ T 9))] σ _
  refine B_top (fun r6 => ?_)
  refine B_i2l rfl my_100 ?_
  refine B_cS rfl cw_100_104_0 (as := [wl (mxd (mxd 58075 (gv σ T 8)) (gv σ T 9)), wl (gv σ T 10)]) (rest := []) rfl (Nat.le_of_ble_eq_true rfl) g_mixed (fun vo s9 hq => ?_)
  obtain ⟨rfl, rfl⟩ := hq
  show Bt E 100 29 [wr 2, wr T, wl (mxd (mxd 58075 (gv σ T 8)) (gv σ T 9)), wx, wi 2] [wl (mxd (mxd (mxd 58075 (gv σ T 8)) (gv σ T 9)) (gv σ T 10))] σ _
  refine B_lstoren rfl my_100 (by decide) rfl (show _ = [wr 2, wr T, wl (mxd (mxd (mxd 58075 (gv σ T 8)) (gv σ T 9)) (gv σ T 10)), wx, wi 2] from rfl) ?_
  refine B_iinc rfl my_100 (by decide) rfl rfl rfl (by omega) (by omega) (show _ = [wr 2, wr T, wl (mxd (mxd (mxd 58075 (gv σ T 8)) (gv σ T 9)) (gv σ T 10)), wx, wi 3] from rfl) ?_
  refine B_goto rfl my_100 rfl (tgt := 12) rfl ?_
  refine B_iload rfl my_100 rfl ?_
  refine B_iconst rfl my_100 (by decide) ?_
  refine B_ic_gt rfl my_100 rfl (tgt := 36) (nx := 18) rfl rfl (fun _ => ?_) (fun c9 => absurd c9 (by decide))
  show Bt E 100 36 [wr 2, wr T, wl (mxd (mxd (mxd 58075 (gv σ T 8)) (gv σ T 9)) (gv σ T 10)), wx, wi 3] [] σ _
  refine B_iconst rfl my_100 (by decide) ?_
  refine B_istore rfl my_100 (by decide) rfl (show _ = [wr 2, wr T, wl (mxd (mxd (mxd 58075 (gv σ T 8)) (gv σ T 9)) (gv σ T 10)), wx, wi 0] from rfl) ?_
  refine B_iload rfl my_100 rfl ?_
  refine B_iconst rfl my_100 (by decide) ?_
  refine B_ic_gt rfl my_100 rfl (tgt := 69) (nx := 45) rfl rfl (fun c9 => absurd c9 (by decide)) (fun _ => ?_)
  show Bt E 100 45 [wr 2, wr T, wl (mxd (mxd (mxd 58075 (gv σ T 8)) (gv σ T 9)) (gv σ T 10)), wx, wi 0] [] σ _
  refine B_lloadn rfl my_100 rfl ?_
  refine B_aloadn rfl my_100 rfl ?_
  refine B_iload rfl my_100 rfl ?_
  refine B_cV hE.1 rfl rfl cw_100_110 (as := [wi 0]) (rest := [wl (mxd (mxd (mxd 58075 (gv σ T 8)) (gv σ T 9)) (gv σ T 10))]) rfl (Nat.le_of_ble_eq_true rfl) (g_tableWith hE (by omega) (by omega)) (fun vo s9 hq => ?_)
  obtain ⟨rfl, rfl⟩ := hq
  show Bt E 100 52 [wr 2, wr T, wl (mxd (mxd (mxd 58075 (gv σ T 8)) (gv σ T 9)) (gv σ T 10)), wx, wi 0] [wr 11, wl (mxd (mxd (mxd 58075 (gv σ T 8)) (gv σ T 9)) (gv σ T 10))] σ _
  refine B_ref hE.1 rfl my_100 rfl (r := 12) rfl ?_
  refine B_cV hE.1 rfl rfl cw_100_34 (as := []) (rest := [wl (mxd (mxd (mxd 58075 (gv σ T 8)) (gv σ T 9)) (gv σ T 10))]) rfl (Nat.le_of_ble_eq_true rfl) (g_points (T := 11) hE tb11 (hA 11 tb11).1 (hA 11 tb11).2) (fun vo s9 hq => ?_)
  obtain ⟨rfl, rfl⟩ := hq
  show Bt E 100 58 [wr 2, wr T, wl (mxd (mxd (mxd 58075 (gv σ T 8)) (gv σ T 9)) (gv σ T 10)), wx, wi 0] [wi (pts σ 11), wl (mxd (mxd (mxd 58075 (gv σ T 8)) (gv σ T 9)) (gv σ T 10))] σ _
  refine B_top (fun r9 => ?_)
  refine B_i2l rfl my_100 ?_
  refine B_cS rfl cw_100_104_0 (as := [wl (mxd (mxd (mxd 58075 (gv σ T 8)) (gv σ T 9)) (gv σ T 10)), wl (pts σ 11)]) (rest := []) rfl (Nat.le_of_ble_eq_true rfl) g_mixed (fun vo s9 hq => ?_)
  obtain ⟨rfl, rfl⟩ := hq
  show Bt E 100 62 [wr 2, wr T, wl (mxd (mxd (mxd 58075 (gv σ T 8)) (gv σ T 9)) (gv σ T 10)), wx, wi 0] [wl (mxd (mxd (mxd (mxd 58075 (gv σ T 8)) (gv σ T 9)) (gv σ T 10)) (pts σ 11))] σ _
  refine B_lstoren rfl my_100 (by decide) rfl (show _ = [wr 2, wr T, wl (mxd (mxd (mxd (mxd 58075 (gv σ T 8)) (gv σ T 9)) (gv σ T 10)) (pts σ 11)), wx, wi 0] from rfl) ?_
  refine B_iinc rfl my_100 (by decide) rfl rfl rfl (by omega) (by omega) (show _ = [wr 2, wr T, wl (mxd (mxd (mxd (mxd 58075 (gv σ T 8)) (gv σ T 9)) (gv σ T 10)) (pts σ 11)), wx, wi 1] from rfl) ?_
  refine B_goto rfl my_100 rfl (tgt := 39) rfl ?_
  refine B_iload rfl my_100 rfl ?_
  refine B_iconst rfl my_100 (by decide) ?_
  refine B_ic_gt rfl my_100 rfl (tgt := 69) (nx := 45) rfl rfl (fun c9 => absurd c9 (by decide)) (fun _ => ?_)
  show Bt E 100 45 [wr 2, wr T, wl (mxd (mxd (mxd (mxd 58075 (gv σ T 8)) (gv σ T 9)) (gv σ T 10)) (pts σ 11)), wx, wi 1] [] σ _
  refine B_lloadn rfl my_100 rfl ?_
  refine B_aloadn rfl my_100 rfl ?_
  refine B_iload rfl my_100 rfl ?_
  refine B_cV hE.1 rfl rfl cw_100_110 (as := [wi 1]) (rest := [wl (mxd (mxd (mxd (mxd 58075 (gv σ T 8)) (gv σ T 9)) (gv σ T 10)) (pts σ 11))]) rfl (Nat.le_of_ble_eq_true rfl) (g_tableWith hE (by omega) (by omega)) (fun vo s9 hq => ?_)
  obtain ⟨rfl, rfl⟩ := hq
  show Bt E 100 52 [wr 2, wr T, wl (mxd (mxd (mxd (mxd 58075 (gv σ T 8)) (gv σ T 9)) (gv σ T 10)) (pts σ 11)), wx, wi 1] [wr 46, wl (mxd (mxd (mxd (mxd 58075 (gv σ T 8)) (gv σ T 9)) (gv σ T 10)) (pts σ 11))] σ _
  refine B_ref hE.1 rfl my_100 rfl (r := 47) rfl ?_
  refine B_cV hE.1 rfl rfl cw_100_34 (as := []) (rest := [wl (mxd (mxd (mxd (mxd 58075 (gv σ T 8)) (gv σ T 9)) (gv σ T 10)) (pts σ 11))]) rfl (Nat.le_of_ble_eq_true rfl) (g_points (T := 46) hE tb46 (hA 46 tb46).1 (hA 46 tb46).2) (fun vo s9 hq => ?_)
  obtain ⟨rfl, rfl⟩ := hq
  show Bt E 100 58 [wr 2, wr T, wl (mxd (mxd (mxd (mxd 58075 (gv σ T 8)) (gv σ T 9)) (gv σ T 10)) (pts σ 11)), wx, wi 1] [wi (pts σ 46), wl (mxd (mxd (mxd (mxd 58075 (gv σ T 8)) (gv σ T 9)) (gv σ T 10)) (pts σ 11))] σ _
  refine B_top (fun r11 => ?_)
  refine B_i2l rfl my_100 ?_
  refine B_cS rfl cw_100_104_0 (as := [wl (mxd (mxd (mxd (mxd 58075 (gv σ T 8)) (gv σ T 9)) (gv σ T 10)) (pts σ 11)), wl (pts σ 46)]) (rest := []) rfl (Nat.le_of_ble_eq_true rfl) g_mixed (fun vo s9 hq => ?_)
  obtain ⟨rfl, rfl⟩ := hq
  show Bt E 100 62 [wr 2, wr T, wl (mxd (mxd (mxd (mxd 58075 (gv σ T 8)) (gv σ T 9)) (gv σ T 10)) (pts σ 11)), wx, wi 1] [wl (mxd (mxd (mxd (mxd (mxd 58075 (gv σ T 8)) (gv σ T 9)) (gv σ T 10)) (pts σ 11)) (pts σ 46))] σ _
  refine B_lstoren rfl my_100 (by decide) rfl (show _ = [wr 2, wr T, wl (mxd (mxd (mxd (mxd (mxd 58075 (gv σ T 8)) (gv σ T 9)) (gv σ T 10)) (pts σ 11)) (pts σ 46)), wx, wi 1] from rfl) ?_
  refine B_iinc rfl my_100 (by decide) rfl rfl rfl (by omega) (by omega) (show _ = [wr 2, wr T, wl (mxd (mxd (mxd (mxd (mxd 58075 (gv σ T 8)) (gv σ T 9)) (gv σ T 10)) (pts σ 11)) (pts σ 46)), wx, wi 2] from rfl) ?_
  refine B_goto rfl my_100 rfl (tgt := 39) rfl ?_
  refine B_iload rfl my_100 rfl ?_
  refine B_iconst rfl my_100 (by decide) ?_
  refine B_ic_gt rfl my_100 rfl (tgt := 69) (nx := 45) rfl rfl (fun c9 => absurd c9 (by decide)) (fun _ => ?_)
  show Bt E 100 45 [wr 2, wr T, wl (mxd (mxd (mxd (mxd (mxd 58075 (gv σ T 8)) (gv σ T 9)) (gv σ T 10)) (pts σ 11)) (pts σ 46)), wx, wi 2] [] σ _
  refine B_lloadn rfl my_100 rfl ?_
  refine B_aloadn rfl my_100 rfl ?_
  refine B_iload rfl my_100 rfl ?_
  refine B_cV hE.1 rfl rfl cw_100_110 (as := [wi 2]) (rest := [wl (mxd (mxd (mxd (mxd (mxd 58075 (gv σ T 8)) (gv σ T 9)) (gv σ T 10)) (pts σ 11)) (pts σ 46))]) rfl (Nat.le_of_ble_eq_true rfl) (g_tableWith hE (by omega) (by omega)) (fun vo s9 hq => ?_)
  obtain ⟨rfl, rfl⟩ := hq
  show Bt E 100 52 [wr 2, wr T, wl (mxd (mxd (mxd (mxd (mxd 58075 (gv σ T 8)) (gv σ T 9)) (gv σ T 10)) (pts σ 11)) (pts σ 46)), wx, wi 2] [wr 81, wl (mxd (mxd (mxd (mxd (mxd 58075 (gv σ T 8)) (gv σ T 9)) (gv σ T 10)) (pts σ 11)) (pts σ 46))] σ _
  refine B_ref hE.1 rfl my_100 rfl (r := 82) rfl ?_
  refine B_cV hE.1 rfl rfl cw_100_34 (as := []) (rest := [wl (mxd (mxd (mxd (mxd (mxd 58075 (gv σ T 8)) (gv σ T 9)) (gv σ T 10)) (pts σ 11)) (pts σ 46))]) rfl (Nat.le_of_ble_eq_true rfl) (g_points (T := 81) hE tb81 (hA 81 tb81).1 (hA 81 tb81).2) (fun vo s9 hq => ?_)
  obtain ⟨rfl, rfl⟩ := hq
  show Bt E 100 58 [wr 2, wr T, wl (mxd (mxd (mxd (mxd (mxd 58075 (gv σ T 8)) (gv σ T 9)) (gv σ T 10)) (pts σ 11)) (pts σ 46)), wx, wi 2] [wi (pts σ 81), wl (mxd (mxd (mxd (mxd (mxd 58075 (gv σ T 8)) (gv σ T 9)) (gv σ T 10)) (pts σ 11)) (pts σ 46))] σ _
  refine B_top (fun r13 => ?_)
  refine B_i2l rfl my_100 ?_
  refine B_cS rfl cw_100_104_0 (as := [wl (mxd (mxd (mxd (mxd (mxd 58075 (gv σ T 8)) (gv σ T 9)) (gv σ T 10)) (pts σ 11)) (pts σ 46)), wl (pts σ 81)]) (rest := []) rfl (Nat.le_of_ble_eq_true rfl) g_mixed (fun vo s9 hq => ?_)
  obtain ⟨rfl, rfl⟩ := hq
  show Bt E 100 62 [wr 2, wr T, wl (mxd (mxd (mxd (mxd (mxd 58075 (gv σ T 8)) (gv σ T 9)) (gv σ T 10)) (pts σ 11)) (pts σ 46)), wx, wi 2] [wl (mxd (mxd (mxd (mxd (mxd (mxd 58075 (gv σ T 8)) (gv σ T 9)) (gv σ T 10)) (pts σ 11)) (pts σ 46)) (pts σ 81))] σ _
  refine B_lstoren rfl my_100 (by decide) rfl (show _ = [wr 2, wr T, wl (mxd (mxd (mxd (mxd (mxd (mxd 58075 (gv σ T 8)) (gv σ T 9)) (gv σ T 10)) (pts σ 11)) (pts σ 46)) (pts σ 81)), wx, wi 2] from rfl) ?_
  refine B_iinc rfl my_100 (by decide) rfl rfl rfl (by omega) (by omega) (show _ = [wr 2, wr T, wl (mxd (mxd (mxd (mxd (mxd (mxd 58075 (gv σ T 8)) (gv σ T 9)) (gv σ T 10)) (pts σ 11)) (pts σ 46)) (pts σ 81)), wx, wi 3] from rfl) ?_
  refine B_goto rfl my_100 rfl (tgt := 39) rfl ?_
  refine B_iload rfl my_100 rfl ?_
  refine B_iconst rfl my_100 (by decide) ?_
  refine B_ic_gt rfl my_100 rfl (tgt := 69) (nx := 45) rfl rfl (fun c9 => absurd c9 (by decide)) (fun _ => ?_)
  show Bt E 100 45 [wr 2, wr T, wl (mxd (mxd (mxd (mxd (mxd (mxd 58075 (gv σ T 8)) (gv σ T 9)) (gv σ T 10)) (pts σ 11)) (pts σ 46)) (pts σ 81)), wx, wi 3] [] σ _
  refine B_lloadn rfl my_100 rfl ?_
  refine B_aloadn rfl my_100 rfl ?_
  refine B_iload rfl my_100 rfl ?_
  refine B_cV hE.1 rfl rfl cw_100_110 (as := [wi 3]) (rest := [wl (mxd (mxd (mxd (mxd (mxd (mxd 58075 (gv σ T 8)) (gv σ T 9)) (gv σ T 10)) (pts σ 11)) (pts σ 46)) (pts σ 81))]) rfl (Nat.le_of_ble_eq_true rfl) (g_tableWith hE (by omega) (by omega)) (fun vo s9 hq => ?_)
  obtain ⟨rfl, rfl⟩ := hq
  show Bt E 100 52 [wr 2, wr T, wl (mxd (mxd (mxd (mxd (mxd (mxd 58075 (gv σ T 8)) (gv σ T 9)) (gv σ T 10)) (pts σ 11)) (pts σ 46)) (pts σ 81)), wx, wi 3] [wr 116, wl (mxd (mxd (mxd (mxd (mxd (mxd 58075 (gv σ T 8)) (gv σ T 9)) (gv σ T 10)) (pts σ 11)) (pts σ 46)) (pts σ 81))] σ _
  refine B_ref hE.1 rfl my_100 rfl (r := 117) rfl ?_
  refine B_cV hE.1 rfl rfl cw_100_34 (as := []) (rest := [wl (mxd (mxd (mxd (mxd (mxd (mxd 58075 (gv σ T 8)) (gv σ T 9)) (gv σ T 10)) (pts σ 11)) (pts σ 46)) (pts σ 81))]) rfl (Nat.le_of_ble_eq_true rfl) (g_points (T := 116) hE tb116 (hA 116 tb116).1 (hA 116 tb116).2) (fun vo s9 hq => ?_)
  obtain ⟨rfl, rfl⟩ := hq
  show Bt E 100 58 [wr 2, wr T, wl (mxd (mxd (mxd (mxd (mxd (mxd 58075 (gv σ T 8)) (gv σ T 9)) (gv σ T 10)) (pts σ 11)) (pts σ 46)) (pts σ 81)), wx, wi 3] [wi (pts σ 116), wl (mxd (mxd (mxd (mxd (mxd (mxd 58075 (gv σ T 8)) (gv σ T 9)) (gv σ T 10)) (pts σ 11)) (pts σ 46)) (pts σ 81))] σ _
  refine B_top (fun r15 => ?_)
  refine B_i2l rfl my_100 ?_
  refine B_cS rfl cw_100_104_0 (as := [wl (mxd (mxd (mxd (mxd (mxd (mxd 58075 (gv σ T 8)) (gv σ T 9)) (gv σ T 10)) (pts σ 11)) (pts σ 46)) (pts σ 81)), wl (pts σ 116)]) (rest := []) rfl (Nat.le_of_ble_eq_true rfl) g_mixed (fun vo s9 hq => ?_)
  obtain ⟨rfl, rfl⟩ := hq
  show Bt E 100 62 [wr 2, wr T, wl (mxd (mxd (mxd (mxd (mxd (mxd 58075 (gv σ T 8)) (gv σ T 9)) (gv σ T 10)) (pts σ 11)) (pts σ 46)) (pts σ 81)), wx, wi 3] [wl (mxd (mxd (mxd (mxd (mxd (mxd (mxd 58075 (gv σ T 8)) (gv σ T 9)) (gv σ T 10)) (pts σ 11)) (pts σ 46)) (pts σ 81)) (pts σ 116))] σ _
  refine B_lstoren rfl my_100 (by decide) rfl (show _ = [wr 2, wr T, wl (mxd (mxd (mxd (mxd (mxd (mxd (mxd 58075 (gv σ T 8)) (gv σ T 9)) (gv σ T 10)) (pts σ 11)) (pts σ 46)) (pts σ 81)) (pts σ 116)), wx, wi 3] from rfl) ?_
  refine B_iinc rfl my_100 (by decide) rfl rfl rfl (by omega) (by omega) (show _ = [wr 2, wr T, wl (mxd (mxd (mxd (mxd (mxd (mxd (mxd 58075 (gv σ T 8)) (gv σ T 9)) (gv σ T 10)) (pts σ 11)) (pts σ 46)) (pts σ 81)) (pts σ 116)), wx, wi 4] from rfl) ?_
  refine B_goto rfl my_100 rfl (tgt := 39) rfl ?_
  refine B_iload rfl my_100 rfl ?_
  refine B_iconst rfl my_100 (by decide) ?_
  refine B_ic_gt rfl my_100 rfl (tgt := 69) (nx := 45) rfl rfl (fun _ => ?_) (fun c9 => absurd c9 (by decide))
  show Bt E 100 69 [wr 2, wr T, wl (mxd (mxd (mxd (mxd (mxd (mxd (mxd 58075 (gv σ T 8)) (gv σ T 9)) (gv σ T 10)) (pts σ 11)) (pts σ 46)) (pts σ 81)) (pts σ 116)), wx, wi 4] [] σ _
  refine B_lloadn rfl my_100 rfl ?_
  refine B_aloadn rfl my_100 rfl ?_
  refine B_ref hE.1 rfl my_100 rfl (r := 3) rfl ?_
  refine B_int hE.1 rfl my_100 rfl rfl h3 (fun r17 => ?_)
  refine B_i2l rfl my_100 ?_
  refine B_cS rfl cw_100_104_0 (as := [wl (mxd (mxd (mxd (mxd (mxd (mxd (mxd 58075 (gv σ T 8)) (gv σ T 9)) (gv σ T 10)) (pts σ 11)) (pts σ 46)) (pts σ 81)) (pts σ 116)), wl (gv σ 3 1)]) (rest := []) rfl (Nat.le_of_ble_eq_true rfl) g_mixed (fun vo s9 hq => ?_)
  obtain ⟨rfl, rfl⟩ := hq
  show Bt E 100 81 [wr 2, wr T, wl (mxd (mxd (mxd (mxd (mxd (mxd (mxd 58075 (gv σ T 8)) (gv σ T 9)) (gv σ T 10)) (pts σ 11)) (pts σ 46)) (pts σ 81)) (pts σ 116)), wx, wi 4] [wl (mxd (mxd (mxd (mxd (mxd (mxd (mxd (mxd 58075 (gv σ T 8)) (gv σ T 9)) (gv σ T 10)) (pts σ 11)) (pts σ 46)) (pts σ 81)) (pts σ 116)) (gv σ 3 1))] σ _
  refine B_lstoren rfl my_100 (by decide) rfl (show _ = [wr 2, wr T, wl (mxd (mxd (mxd (mxd (mxd (mxd (mxd (mxd 58075 (gv σ T 8)) (gv σ T 9)) (gv σ T 10)) (pts σ 11)) (pts σ 46)) (pts σ 81)) (pts σ 116)) (gv σ 3 1)), wx, wi 4] from rfl) ?_
  refine B_iconst rfl my_100 (by decide) ?_
  refine B_istore rfl my_100 (by decide) rfl (show _ = [wr 2, wr T, wl (mxd (mxd (mxd (mxd (mxd (mxd (mxd (mxd 58075 (gv σ T 8)) (gv σ T 9)) (gv σ T 10)) (pts σ 11)) (pts σ 46)) (pts σ 81)) (pts σ 116)) (gv σ 3 1)), wx, wi 1] from rfl) ?_
  refine B_iload rfl my_100 rfl ?_
  refine B_bipush rfl my_100 (n := 6) rfl ?_
  refine B_ic_gt rfl my_100 rfl (tgt := 110) (nx := 92) rfl rfl (fun c9 => absurd c9 (by decide)) (fun _ => ?_)
  show Bt E 100 92 [wr 2, wr T, wl (mxd (mxd (mxd (mxd (mxd (mxd (mxd (mxd 58075 (gv σ T 8)) (gv σ T 9)) (gv σ T 10)) (pts σ 11)) (pts σ 46)) (pts σ 81)) (pts σ 116)) (gv σ 3 1)), wx, wi 1] [] σ _
  refine B_lloadn rfl my_100 rfl ?_
  refine B_aloadn rfl my_100 rfl ?_
  refine B_iload rfl my_100 rfl ?_
  refine B_cV hE.1 rfl (wc_0 hT) cw_100_57 (as := [wi 1]) (rest := [wl (mxd (mxd (mxd (mxd (mxd (mxd (mxd (mxd 58075 (gv σ T 8)) (gv σ T 9)) (gv σ T 10)) (pts σ 11)) (pts σ 46)) (pts σ 81)) (pts σ 116)) (gv σ 3 1))]) rfl (Nat.le_of_ble_eq_true rfl) (g_howMany1 hE hT hS) (fun vo s9 hq => ?_)
  obtain ⟨rfl, rfl⟩ := hq
  show Bt E 100 99 [wr 2, wr T, wl (mxd (mxd (mxd (mxd (mxd (mxd (mxd (mxd 58075 (gv σ T 8)) (gv σ T 9)) (gv σ T 10)) (pts σ 11)) (pts σ 46)) (pts σ 81)) (pts σ 116)) (gv σ 3 1)), wx, wi 1] [wi (gv σ (T + 1) 9), wl (mxd (mxd (mxd (mxd (mxd (mxd (mxd (mxd 58075 (gv σ T 8)) (gv σ T 9)) (gv σ T 10)) (pts σ 11)) (pts σ 46)) (pts σ 81)) (pts σ 116)) (gv σ 3 1))] σ _
  refine B_top (fun r19 => ?_)
  refine B_i2l rfl my_100 ?_
  refine B_cS rfl cw_100_104_0 (as := [wl (mxd (mxd (mxd (mxd (mxd (mxd (mxd (mxd 58075 (gv σ T 8)) (gv σ T 9)) (gv σ T 10)) (pts σ 11)) (pts σ 46)) (pts σ 81)) (pts σ 116)) (gv σ 3 1)), wl (gv σ (T + 1) 9)]) (rest := []) rfl (Nat.le_of_ble_eq_true rfl) g_mixed (fun vo s9 hq => ?_)
  obtain ⟨rfl, rfl⟩ := hq
  show Bt E 100 103 [wr 2, wr T, wl (mxd (mxd (mxd (mxd (mxd (mxd (mxd (mxd 58075 (gv σ T 8)) (gv σ T 9)) (gv σ T 10)) (pts σ 11)) (pts σ 46)) (pts σ 81)) (pts σ 116)) (gv σ 3 1)), wx, wi 1] [wl (mxd (mxd (mxd (mxd (mxd (mxd (mxd (mxd (mxd 58075 (gv σ T 8)) (gv σ T 9)) (gv σ T 10)) (pts σ 11)) (pts σ 46)) (pts σ 81)) (pts σ 116)) (gv σ 3 1)) (gv σ (T + 1) 9))] σ _
  refine B_lstoren rfl my_100 (by decide) rfl (show _ = [wr 2, wr T, wl (mxd (mxd (mxd (mxd (mxd (mxd (mxd (mxd (mxd 58075 (gv σ T 8)) (gv σ T 9)) (gv σ T 10)) (pts σ 11)) (pts σ 46)) (pts σ 81)) (pts σ 116)) (gv σ 3 1)) (gv σ (T + 1) 9)), wx, wi 1] from rfl) ?_
  refine B_iinc rfl my_100 (by decide) rfl rfl rfl (by omega) (by omega) (show _ = [wr 2, wr T, wl (mxd (mxd (mxd (mxd (mxd (mxd (mxd (mxd (mxd 58075 (gv σ T 8)) (gv σ T 9)) (gv σ T 10)) (pts σ 11)) (pts σ 46)) (pts σ 81)) (pts σ 116)) (gv σ 3 1)) (gv σ (T + 1) 9)), wx, wi 2] from rfl) ?_
  refine B_goto rfl my_100 rfl (tgt := 85) rfl ?_
  refine B_iload rfl my_100 rfl ?_
  refine B_bipush rfl my_100 (n := 6) rfl ?_
  refine B_ic_gt rfl my_100 rfl (tgt := 110) (nx := 92) rfl rfl (fun c9 => absurd c9 (by decide)) (fun _ => ?_)
  show Bt E 100 92 [wr 2, wr T, wl (mxd (mxd (mxd (mxd (mxd (mxd (mxd (mxd (mxd 58075 (gv σ T 8)) (gv σ T 9)) (gv σ T 10)) (pts σ 11)) (pts σ 46)) (pts σ 81)) (pts σ 116)) (gv σ 3 1)) (gv σ (T + 1) 9)), wx, wi 2] [] σ _
  refine B_lloadn rfl my_100 rfl ?_
  refine B_aloadn rfl my_100 rfl ?_
  refine B_iload rfl my_100 rfl ?_
  refine B_cV hE.1 rfl (wc_0 hT) cw_100_57 (as := [wi 2]) (rest := [wl (mxd (mxd (mxd (mxd (mxd (mxd (mxd (mxd (mxd 58075 (gv σ T 8)) (gv σ T 9)) (gv σ T 10)) (pts σ 11)) (pts σ 46)) (pts σ 81)) (pts σ 116)) (gv σ 3 1)) (gv σ (T + 1) 9))]) rfl (Nat.le_of_ble_eq_true rfl) (g_howMany2 hE hT hS) (fun vo s9 hq => ?_)
  obtain ⟨rfl, rfl⟩ := hq
  show Bt E 100 99 [wr 2, wr T, wl (mxd (mxd (mxd (mxd (mxd (mxd (mxd (mxd (mxd 58075 (gv σ T 8)) (gv σ T 9)) (gv σ T 10)) (pts σ 11)) (pts σ 46)) (pts σ 81)) (pts σ 116)) (gv σ 3 1)) (gv σ (T + 1) 9)), wx, wi 2] [wi (min (gv σ (T + 1) 12) 20), wl (mxd (mxd (mxd (mxd (mxd (mxd (mxd (mxd (mxd 58075 (gv σ T 8)) (gv σ T 9)) (gv σ T 10)) (pts σ 11)) (pts σ 46)) (pts σ 81)) (pts σ 116)) (gv σ 3 1)) (gv σ (T + 1) 9))] σ _
  refine B_top (fun r21 => ?_)
  refine B_i2l rfl my_100 ?_
  refine B_cS rfl cw_100_104_0 (as := [wl (mxd (mxd (mxd (mxd (mxd (mxd (mxd (mxd (mxd 58075 (gv σ T 8)) (gv σ T 9)) (gv σ T 10)) (pts σ 11)) (pts σ 46)) (pts σ 81)) (pts σ 116)) (gv σ 3 1)) (gv σ (T + 1) 9)), wl (min (gv σ (T + 1) 12) 20)]) (rest := []) rfl (Nat.le_of_ble_eq_true rfl) g_mixed (fun vo s9 hq => ?_)
  obtain ⟨rfl, rfl⟩ := hq
  show Bt E 100 103 [wr 2, wr T, wl (mxd (mxd (mxd (mxd (mxd (mxd (mxd (mxd (mxd 58075 (gv σ T 8)) (gv σ T 9)) (gv σ T 10)) (pts σ 11)) (pts σ 46)) (pts σ 81)) (pts σ 116)) (gv σ 3 1)) (gv σ (T + 1) 9)), wx, wi 2] [wl (mxd (mxd (mxd (mxd (mxd (mxd (mxd (mxd (mxd (mxd 58075 (gv σ T 8)) (gv σ T 9)) (gv σ T 10)) (pts σ 11)) (pts σ 46)) (pts σ 81)) (pts σ 116)) (gv σ 3 1)) (gv σ (T + 1) 9)) (min (gv σ (T + 1) 12) 20))] σ _
  refine B_lstoren rfl my_100 (by decide) rfl (show _ = [wr 2, wr T, wl (mxd (mxd (mxd (mxd (mxd (mxd (mxd (mxd (mxd (mxd 58075 (gv σ T 8)) (gv σ T 9)) (gv σ T 10)) (pts σ 11)) (pts σ 46)) (pts σ 81)) (pts σ 116)) (gv σ 3 1)) (gv σ (T + 1) 9)) (min (gv σ (T + 1) 12) 20)), wx, wi 2] from rfl) ?_
  refine B_iinc rfl my_100 (by decide) rfl rfl rfl (by omega) (by omega) (show _ = [wr 2, wr T, wl (mxd (mxd (mxd (mxd (mxd (mxd (mxd (mxd (mxd (mxd 58075 (gv σ T 8)) (gv σ T 9)) (gv σ T 10)) (pts σ 11)) (pts σ 46)) (pts σ 81)) (pts σ 116)) (gv σ 3 1)) (gv σ (T + 1) 9)) (min (gv σ (T + 1) 12) 20)), wx, wi 3] from rfl) ?_
  refine B_goto rfl my_100 rfl (tgt := 85) rfl ?_
  refine B_iload rfl my_100 rfl ?_
  refine B_bipush rfl my_100 (n := 6) rfl ?_
  refine B_ic_gt rfl my_100 rfl (tgt := 110) (nx := 92) rfl rfl (fun c9 => absurd c9 (by decide)) (fun _ => ?_)
  show Bt E 100 92 [wr 2, wr T, wl (mxd (mxd (mxd (mxd (mxd (mxd (mxd (mxd (mxd (mxd 58075 (gv σ T 8)) (gv σ T 9)) (gv σ T 10)) (pts σ 11)) (pts σ 46)) (pts σ 81)) (pts σ 116)) (gv σ 3 1)) (gv σ (T + 1) 9)) (min (gv σ (T + 1) 12) 20)), wx, wi 3] [] σ _
  refine B_lloadn rfl my_100 rfl ?_
  refine B_aloadn rfl my_100 rfl ?_
  refine B_iload rfl my_100 rfl ?_
  refine B_cV hE.1 rfl (wc_0 hT) cw_100_57 (as := [wi 3]) (rest := [wl (mxd (mxd (mxd (mxd (mxd (mxd (mxd (mxd (mxd (mxd 58075 (gv σ T 8)) (gv σ T 9)) (gv σ T 10)) (pts σ 11)) (pts σ 46)) (pts σ 81)) (pts σ 116)) (gv σ 3 1)) (gv σ (T + 1) 9)) (min (gv σ (T + 1) 12) 20))]) rfl (Nat.le_of_ble_eq_true rfl) (g_howMany3 hE hT hS) (fun vo s9 hq => ?_)
  obtain ⟨rfl, rfl⟩ := hq
  show Bt E 100 99 [wr 2, wr T, wl (mxd (mxd (mxd (mxd (mxd (mxd (mxd (mxd (mxd (mxd 58075 (gv σ T 8)) (gv σ T 9)) (gv σ T 10)) (pts σ 11)) (pts σ 46)) (pts σ 81)) (pts σ 116)) (gv σ 3 1)) (gv σ (T + 1) 9)) (min (gv σ (T + 1) 12) 20)), wx, wi 3] [wi (max 0 (gv σ (T + 1) 9 - gv σ T 10)), wl (mxd (mxd (mxd (mxd (mxd (mxd (mxd (mxd (mxd (mxd 58075 (gv σ T 8)) (gv σ T 9)) (gv σ T 10)) (pts σ 11)) (pts σ 46)) (pts σ 81)) (pts σ 116)) (gv σ 3 1)) (gv σ (T + 1) 9)) (min (gv σ (T + 1) 12) 20))] σ _
  refine B_top (fun r23 => ?_)
  refine B_i2l rfl my_100 ?_
  refine B_cS rfl cw_100_104_0 (as := [wl (mxd (mxd (mxd (mxd (mxd (mxd (mxd (mxd (mxd (mxd 58075 (gv σ T 8)) (gv σ T 9)) (gv σ T 10)) (pts σ 11)) (pts σ 46)) (pts σ 81)) (pts σ 116)) (gv σ 3 1)) (gv σ (T + 1) 9)) (min (gv σ (T + 1) 12) 20)), wl (max 0 (gv σ (T + 1) 9 - gv σ T 10))]) (rest := []) rfl (Nat.le_of_ble_eq_true rfl) g_mixed (fun vo s9 hq => ?_)
  obtain ⟨rfl, rfl⟩ := hq
  show Bt E 100 103 [wr 2, wr T, wl (mxd (mxd (mxd (mxd (mxd (mxd (mxd (mxd (mxd (mxd 58075 (gv σ T 8)) (gv σ T 9)) (gv σ T 10)) (pts σ 11)) (pts σ 46)) (pts σ 81)) (pts σ 116)) (gv σ 3 1)) (gv σ (T + 1) 9)) (min (gv σ (T + 1) 12) 20)), wx, wi 3] [wl (mxd (mxd (mxd (mxd (mxd (mxd (mxd (mxd (mxd (mxd (mxd 58075 (gv σ T 8)) (gv σ T 9)) (gv σ T 10)) (pts σ 11)) (pts σ 46)) (pts σ 81)) (pts σ 116)) (gv σ 3 1)) (gv σ (T + 1) 9)) (min (gv σ (T + 1) 12) 20)) (max 0 (gv σ (T + 1) 9 - gv σ T 10)))] σ _
  refine B_lstoren rfl my_100 (by decide) rfl (show _ = [wr 2, wr T, wl (mxd (mxd (mxd (mxd (mxd (mxd (mxd (mxd (mxd (mxd (mxd 58075 (gv σ T 8)) (gv σ T 9)) (gv σ T 10)) (pts σ 11)) (pts σ 46)) (pts σ 81)) (pts σ 116)) (gv σ 3 1)) (gv σ (T + 1) 9)) (min (gv σ (T + 1) 12) 20)) (max 0 (gv σ (T + 1) 9 - gv σ T 10))), wx, wi 3] from rfl) ?_
  refine B_iinc rfl my_100 (by decide) rfl rfl rfl (by omega) (by omega) (show _ = [wr 2, wr T, wl (mxd (mxd (mxd (mxd (mxd (mxd (mxd (mxd (mxd (mxd (mxd 58075 (gv σ T 8)) (gv σ T 9)) (gv σ T 10)) (pts σ 11)) (pts σ 46)) (pts σ 81)) (pts σ 116)) (gv σ 3 1)) (gv σ (T + 1) 9)) (min (gv σ (T + 1) 12) 20)) (max 0 (gv σ (T + 1) 9 - gv σ T 10))), wx, wi 4] from rfl) ?_
  refine B_goto rfl my_100 rfl (tgt := 85) rfl ?_
  refine B_iload rfl my_100 rfl ?_
  refine B_bipush rfl my_100 (n := 6) rfl ?_
  refine B_ic_gt rfl my_100 rfl (tgt := 110) (nx := 92) rfl rfl (fun c9 => absurd c9 (by decide)) (fun _ => ?_)
  show Bt E 100 92 [wr 2, wr T, wl (mxd (mxd (mxd (mxd (mxd (mxd (mxd (mxd (mxd (mxd (mxd 58075 (gv σ T 8)) (gv σ T 9)) (gv σ T 10)) (pts σ 11)) (pts σ 46)) (pts σ 81)) (pts σ 116)) (gv σ 3 1)) (gv σ (T + 1) 9)) (min (gv σ (T + 1) 12) 20)) (max 0 (gv σ (T + 1) 9 - gv σ T 10))), wx, wi 4] [] σ _
  refine B_lloadn rfl my_100 rfl ?_
  refine B_aloadn rfl my_100 rfl ?_
  refine B_iload rfl my_100 rfl ?_
  refine B_cV hE.1 rfl (wc_0 hT) cw_100_57 (as := [wi 4]) (rest := [wl (mxd (mxd (mxd (mxd (mxd (mxd (mxd (mxd (mxd (mxd (mxd 58075 (gv σ T 8)) (gv σ T 9)) (gv σ T 10)) (pts σ 11)) (pts σ 46)) (pts σ 81)) (pts σ 116)) (gv σ 3 1)) (gv σ (T + 1) 9)) (min (gv σ (T + 1) 12) 20)) (max 0 (gv σ (T + 1) 9 - gv σ T 10)))]) rfl (Nat.le_of_ble_eq_true rfl) (g_howMany4 hE hT hS) (fun vo s9 hq => ?_)
  obtain ⟨rfl, rfl⟩ := hq
  show Bt E 100 99 [wr 2, wr T, wl (mxd (mxd (mxd (mxd (mxd (mxd (mxd (mxd (mxd (mxd (mxd 58075 (gv σ T 8)) (gv σ T 9)) (gv σ T 10)) (pts σ 11)) (pts σ 46)) (pts σ 81)) (pts σ 116)) (gv σ 3 1)) (gv σ (T + 1) 9)) (min (gv σ (T + 1) 12) 20)) (max 0 (gv σ (T + 1) 9 - gv σ T 10))), wx, wi 4] [wi (gv σ (T + 16) 3), wl (mxd (mxd (mxd (mxd (mxd (mxd (mxd (mxd (mxd (mxd (mxd 58075 (gv σ T 8)) (gv σ T 9)) (gv σ T 10)) (pts σ 11)) (pts σ 46)) (pts σ 81)) (pts σ 116)) (gv σ 3 1)) (gv σ (T + 1) 9)) (min (gv σ (T + 1) 12) 20)) (max 0 (gv σ (T + 1) 9 - gv σ T 10)))] σ _
  refine B_top (fun r25 => ?_)
  refine B_i2l rfl my_100 ?_
  refine B_cS rfl cw_100_104_0 (as := [wl (mxd (mxd (mxd (mxd (mxd (mxd (mxd (mxd (mxd (mxd (mxd 58075 (gv σ T 8)) (gv σ T 9)) (gv σ T 10)) (pts σ 11)) (pts σ 46)) (pts σ 81)) (pts σ 116)) (gv σ 3 1)) (gv σ (T + 1) 9)) (min (gv σ (T + 1) 12) 20)) (max 0 (gv σ (T + 1) 9 - gv σ T 10))), wl (gv σ (T + 16) 3)]) (rest := []) rfl (Nat.le_of_ble_eq_true rfl) g_mixed (fun vo s9 hq => ?_)
  obtain ⟨rfl, rfl⟩ := hq
  show Bt E 100 103 [wr 2, wr T, wl (mxd (mxd (mxd (mxd (mxd (mxd (mxd (mxd (mxd (mxd (mxd 58075 (gv σ T 8)) (gv σ T 9)) (gv σ T 10)) (pts σ 11)) (pts σ 46)) (pts σ 81)) (pts σ 116)) (gv σ 3 1)) (gv σ (T + 1) 9)) (min (gv σ (T + 1) 12) 20)) (max 0 (gv σ (T + 1) 9 - gv σ T 10))), wx, wi 4] [wl (mxd (mxd (mxd (mxd (mxd (mxd (mxd (mxd (mxd (mxd (mxd (mxd 58075 (gv σ T 8)) (gv σ T 9)) (gv σ T 10)) (pts σ 11)) (pts σ 46)) (pts σ 81)) (pts σ 116)) (gv σ 3 1)) (gv σ (T + 1) 9)) (min (gv σ (T + 1) 12) 20)) (max 0 (gv σ (T + 1) 9 - gv σ T 10))) (gv σ (T + 16) 3))] σ _
  refine B_lstoren rfl my_100 (by decide) rfl (show _ = [wr 2, wr T, wl (mxd (mxd (mxd (mxd (mxd (mxd (mxd (mxd (mxd (mxd (mxd (mxd 58075 (gv σ T 8)) (gv σ T 9)) (gv σ T 10)) (pts σ 11)) (pts σ 46)) (pts σ 81)) (pts σ 116)) (gv σ 3 1)) (gv σ (T + 1) 9)) (min (gv σ (T + 1) 12) 20)) (max 0 (gv σ (T + 1) 9 - gv σ T 10))) (gv σ (T + 16) 3)), wx, wi 4] from rfl) ?_
  refine B_iinc rfl my_100 (by decide) rfl rfl rfl (by omega) (by omega) (show _ = [wr 2, wr T, wl (mxd (mxd (mxd (mxd (mxd (mxd (mxd (mxd (mxd (mxd (mxd (mxd 58075 (gv σ T 8)) (gv σ T 9)) (gv σ T 10)) (pts σ 11)) (pts σ 46)) (pts σ 81)) (pts σ 116)) (gv σ 3 1)) (gv σ (T + 1) 9)) (min (gv σ (T + 1) 12) 20)) (max 0 (gv σ (T + 1) 9 - gv σ T 10))) (gv σ (T + 16) 3)), wx, wi 5] from rfl) ?_
  refine B_goto rfl my_100 rfl (tgt := 85) rfl ?_
  refine B_iload rfl my_100 rfl ?_
  refine B_bipush rfl my_100 (n := 6) rfl ?_
  refine B_ic_gt rfl my_100 rfl (tgt := 110) (nx := 92) rfl rfl (fun c9 => absurd c9 (by decide)) (fun _ => ?_)
  show Bt E 100 92 [wr 2, wr T, wl (mxd (mxd (mxd (mxd (mxd (mxd (mxd (mxd (mxd (mxd (mxd (mxd 58075 (gv σ T 8)) (gv σ T 9)) (gv σ T 10)) (pts σ 11)) (pts σ 46)) (pts σ 81)) (pts σ 116)) (gv σ 3 1)) (gv σ (T + 1) 9)) (min (gv σ (T + 1) 12) 20)) (max 0 (gv σ (T + 1) 9 - gv σ T 10))) (gv σ (T + 16) 3)), wx, wi 5] [] σ _
  refine B_lloadn rfl my_100 rfl ?_
  refine B_aloadn rfl my_100 rfl ?_
  refine B_iload rfl my_100 rfl ?_
  refine B_cV hE.1 rfl (wc_0 hT) cw_100_57 (as := [wi 5]) (rest := [wl (mxd (mxd (mxd (mxd (mxd (mxd (mxd (mxd (mxd (mxd (mxd (mxd 58075 (gv σ T 8)) (gv σ T 9)) (gv σ T 10)) (pts σ 11)) (pts σ 46)) (pts σ 81)) (pts σ 116)) (gv σ 3 1)) (gv σ (T + 1) 9)) (min (gv σ (T + 1) 12) 20)) (max 0 (gv σ (T + 1) 9 - gv σ T 10))) (gv σ (T + 16) 3))]) rfl (Nat.le_of_ble_eq_true rfl) (g_howMany5 hE hT hS) (fun vo s9 hq => ?_)
  obtain ⟨rfl, rfl⟩ := hq
  show Bt E 100 99 [wr 2, wr T, wl (mxd (mxd (mxd (mxd (mxd (mxd (mxd (mxd (mxd (mxd (mxd (mxd 58075 (gv σ T 8)) (gv σ T 9)) (gv σ T 10)) (pts σ 11)) (pts σ 46)) (pts σ 81)) (pts σ 116)) (gv σ 3 1)) (gv σ (T + 1) 9)) (min (gv σ (T + 1) 12) 20)) (max 0 (gv σ (T + 1) 9 - gv σ T 10))) (gv σ (T + 16) 3)), wx, wi 5] [wi (gv σ T 11), wl (mxd (mxd (mxd (mxd (mxd (mxd (mxd (mxd (mxd (mxd (mxd (mxd 58075 (gv σ T 8)) (gv σ T 9)) (gv σ T 10)) (pts σ 11)) (pts σ 46)) (pts σ 81)) (pts σ 116)) (gv σ 3 1)) (gv σ (T + 1) 9)) (min (gv σ (T + 1) 12) 20)) (max 0 (gv σ (T + 1) 9 - gv σ T 10))) (gv σ (T + 16) 3))] σ _
  refine B_top (fun r27 => ?_)
  refine B_i2l rfl my_100 ?_
  refine B_cS rfl cw_100_104_0 (as := [wl (mxd (mxd (mxd (mxd (mxd (mxd (mxd (mxd (mxd (mxd (mxd (mxd 58075 (gv σ T 8)) (gv σ T 9)) (gv σ T 10)) (pts σ 11)) (pts σ 46)) (pts σ 81)) (pts σ 116)) (gv σ 3 1)) (gv σ (T + 1) 9)) (min (gv σ (T + 1) 12) 20)) (max 0 (gv σ (T + 1) 9 - gv σ T 10))) (gv σ (T + 16) 3)), wl (gv σ T 11)]) (rest := []) rfl (Nat.le_of_ble_eq_true rfl) g_mixed (fun vo s9 hq => ?_)
  obtain ⟨rfl, rfl⟩ := hq
  show Bt E 100 103 [wr 2, wr T, wl (mxd (mxd (mxd (mxd (mxd (mxd (mxd (mxd (mxd (mxd (mxd (mxd 58075 (gv σ T 8)) (gv σ T 9)) (gv σ T 10)) (pts σ 11)) (pts σ 46)) (pts σ 81)) (pts σ 116)) (gv σ 3 1)) (gv σ (T + 1) 9)) (min (gv σ (T + 1) 12) 20)) (max 0 (gv σ (T + 1) 9 - gv σ T 10))) (gv σ (T + 16) 3)), wx, wi 5] [wl (mxd (mxd (mxd (mxd (mxd (mxd (mxd (mxd (mxd (mxd (mxd (mxd (mxd 58075 (gv σ T 8)) (gv σ T 9)) (gv σ T 10)) (pts σ 11)) (pts σ 46)) (pts σ 81)) (pts σ 116)) (gv σ 3 1)) (gv σ (T + 1) 9)) (min (gv σ (T + 1) 12) 20)) (max 0 (gv σ (T + 1) 9 - gv σ T 10))) (gv σ (T + 16) 3)) (gv σ T 11))] σ _
  refine B_lstoren rfl my_100 (by decide) rfl (show _ = [wr 2, wr T, wl (mxd (mxd (mxd (mxd (mxd (mxd (mxd (mxd (mxd (mxd (mxd (mxd (mxd 58075 (gv σ T 8)) (gv σ T 9)) (gv σ T 10)) (pts σ 11)) (pts σ 46)) (pts σ 81)) (pts σ 116)) (gv σ 3 1)) (gv σ (T + 1) 9)) (min (gv σ (T + 1) 12) 20)) (max 0 (gv σ (T + 1) 9 - gv σ T 10))) (gv σ (T + 16) 3)) (gv σ T 11)), wx, wi 5] from rfl) ?_
  refine B_iinc rfl my_100 (by decide) rfl rfl rfl (by omega) (by omega) (show _ = [wr 2, wr T, wl (mxd (mxd (mxd (mxd (mxd (mxd (mxd (mxd (mxd (mxd (mxd (mxd (mxd 58075 (gv σ T 8)) (gv σ T 9)) (gv σ T 10)) (pts σ 11)) (pts σ 46)) (pts σ 81)) (pts σ 116)) (gv σ 3 1)) (gv σ (T + 1) 9)) (min (gv σ (T + 1) 12) 20)) (max 0 (gv σ (T + 1) 9 - gv σ T 10))) (gv σ (T + 16) 3)) (gv σ T 11)), wx, wi 6] from rfl) ?_
  refine B_goto rfl my_100 rfl (tgt := 85) rfl ?_
  refine B_iload rfl my_100 rfl ?_
  refine B_bipush rfl my_100 (n := 6) rfl ?_
  refine B_ic_gt rfl my_100 rfl (tgt := 110) (nx := 92) rfl rfl (fun c9 => absurd c9 (by decide)) (fun _ => ?_)
  show Bt E 100 92 [wr 2, wr T, wl (mxd (mxd (mxd (mxd (mxd (mxd (mxd (mxd (mxd (mxd (mxd (mxd (mxd 58075 (gv σ T 8)) (gv σ T 9)) (gv σ T 10)) (pts σ 11)) (pts σ 46)) (pts σ 81)) (pts σ 116)) (gv σ 3 1)) (gv σ (T + 1) 9)) (min (gv σ (T + 1) 12) 20)) (max 0 (gv σ (T + 1) 9 - gv σ T 10))) (gv σ (T + 16) 3)) (gv σ T 11)), wx, wi 6] [] σ _
  refine B_lloadn rfl my_100 rfl ?_
  refine B_aloadn rfl my_100 rfl ?_
  refine B_iload rfl my_100 rfl ?_
  refine B_cV hE.1 rfl (wc_0 hT) cw_100_57 (as := [wi 6]) (rest := [wl (mxd (mxd (mxd (mxd (mxd (mxd (mxd (mxd (mxd (mxd (mxd (mxd (mxd 58075 (gv σ T 8)) (gv σ T 9)) (gv σ T 10)) (pts σ 11)) (pts σ 46)) (pts σ 81)) (pts σ 116)) (gv σ 3 1)) (gv σ (T + 1) 9)) (min (gv σ (T + 1) 12) 20)) (max 0 (gv σ (T + 1) 9 - gv σ T 10))) (gv σ (T + 16) 3)) (gv σ T 11))]) rfl (Nat.le_of_ble_eq_true rfl) (an_of wi_inj rsr_sub (g_howMany6 hE hT (rsr_sit hS)) (g_howMany6 hE hT hS)) (fun vo s9 hq => ?_)
  obtain ⟨q, rfl, an1, rfl⟩ := hq
  show Bt E 100 99 [wr 2, wr T, wl (mxd (mxd (mxd (mxd (mxd (mxd (mxd (mxd (mxd (mxd (mxd (mxd (mxd 58075 (gv σ T 8)) (gv σ T 9)) (gv σ T 10)) (pts σ 11)) (pts σ 46)) (pts σ 81)) (pts σ 116)) (gv σ 3 1)) (gv σ (T + 1) 9)) (min (gv σ (T + 1) 12) 20)) (max 0 (gv σ (T + 1) 9 - gv σ T 10))) (gv σ (T + 16) 3)) (gv σ T 11)), wx, wi 6] [wi q, wl (mxd (mxd (mxd (mxd (mxd (mxd (mxd (mxd (mxd (mxd (mxd (mxd (mxd 58075 (gv σ T 8)) (gv σ T 9)) (gv σ T 10)) (pts σ 11)) (pts σ 46)) (pts σ 81)) (pts σ 116)) (gv σ 3 1)) (gv σ (T + 1) 9)) (min (gv σ (T + 1) 12) 20)) (max 0 (gv σ (T + 1) 9 - gv σ T 10))) (gv σ (T + 16) 3)) (gv σ T 11))] σ _
  refine B_top (fun r29 => ?_)
  refine B_i2l rfl my_100 ?_
  refine B_cS rfl cw_100_104_0 (as := [wl (mxd (mxd (mxd (mxd (mxd (mxd (mxd (mxd (mxd (mxd (mxd (mxd (mxd 58075 (gv σ T 8)) (gv σ T 9)) (gv σ T 10)) (pts σ 11)) (pts σ 46)) (pts σ 81)) (pts σ 116)) (gv σ 3 1)) (gv σ (T + 1) 9)) (min (gv σ (T + 1) 12) 20)) (max 0 (gv σ (T + 1) 9 - gv σ T 10))) (gv σ (T + 16) 3)) (gv σ T 11)), wl q]) (rest := []) rfl (Nat.le_of_ble_eq_true rfl) g_mixed (fun vo s9 hq => ?_)
  obtain ⟨rfl, rfl⟩ := hq
  show Bt E 100 103 [wr 2, wr T, wl (mxd (mxd (mxd (mxd (mxd (mxd (mxd (mxd (mxd (mxd (mxd (mxd (mxd 58075 (gv σ T 8)) (gv σ T 9)) (gv σ T 10)) (pts σ 11)) (pts σ 46)) (pts σ 81)) (pts σ 116)) (gv σ 3 1)) (gv σ (T + 1) 9)) (min (gv σ (T + 1) 12) 20)) (max 0 (gv σ (T + 1) 9 - gv σ T 10))) (gv σ (T + 16) 3)) (gv σ T 11)), wx, wi 6] [wl (mxd (mxd (mxd (mxd (mxd (mxd (mxd (mxd (mxd (mxd (mxd (mxd (mxd (mxd 58075 (gv σ T 8)) (gv σ T 9)) (gv σ T 10)) (pts σ 11)) (pts σ 46)) (pts σ 81)) (pts σ 116)) (gv σ 3 1)) (gv σ (T + 1) 9)) (min (gv σ (T + 1) 12) 20)) (max 0 (gv σ (T + 1) 9 - gv σ T 10))) (gv σ (T + 16) 3)) (gv σ T 11)) q)] σ _
  refine B_lstoren rfl my_100 (by decide) rfl (show _ = [wr 2, wr T, wl (mxd (mxd (mxd (mxd (mxd (mxd (mxd (mxd (mxd (mxd (mxd (mxd (mxd (mxd 58075 (gv σ T 8)) (gv σ T 9)) (gv σ T 10)) (pts σ 11)) (pts σ 46)) (pts σ 81)) (pts σ 116)) (gv σ 3 1)) (gv σ (T + 1) 9)) (min (gv σ (T + 1) 12) 20)) (max 0 (gv σ (T + 1) 9 - gv σ T 10))) (gv σ (T + 16) 3)) (gv σ T 11)) q), wx, wi 6] from rfl) ?_
  refine B_iinc rfl my_100 (by decide) rfl rfl rfl (by omega) (by omega) (show _ = [wr 2, wr T, wl (mxd (mxd (mxd (mxd (mxd (mxd (mxd (mxd (mxd (mxd (mxd (mxd (mxd (mxd 58075 (gv σ T 8)) (gv σ T 9)) (gv σ T 10)) (pts σ 11)) (pts σ 46)) (pts σ 81)) (pts σ 116)) (gv σ 3 1)) (gv σ (T + 1) 9)) (min (gv σ (T + 1) 12) 20)) (max 0 (gv σ (T + 1) 9 - gv σ T 10))) (gv σ (T + 16) 3)) (gv σ T 11)) q), wx, wi 7] from rfl) ?_
  refine B_goto rfl my_100 rfl (tgt := 85) rfl ?_
  refine B_iload rfl my_100 rfl ?_
  refine B_bipush rfl my_100 (n := 6) rfl ?_
  refine B_ic_gt rfl my_100 rfl (tgt := 110) (nx := 92) rfl rfl (fun _ => ?_) (fun c9 => absurd c9 (by decide))
  show Bt E 100 110 [wr 2, wr T, wl (mxd (mxd (mxd (mxd (mxd (mxd (mxd (mxd (mxd (mxd (mxd (mxd (mxd (mxd 58075 (gv σ T 8)) (gv σ T 9)) (gv σ T 10)) (pts σ 11)) (pts σ 46)) (pts σ 81)) (pts σ 116)) (gv σ 3 1)) (gv σ (T + 1) 9)) (min (gv σ (T + 1) 12) 20)) (max 0 (gv σ (T + 1) 9 - gv σ T 10))) (gv σ (T + 16) 3)) (gv σ T 11)) q), wx, wi 7] [] σ _
  refine B_lloadn rfl my_100 rfl ?_
  refine B_aloadn rfl my_100 rfl ?_
  refine B_cS rfl cw_100_101_0 (as := [wl (mxd (mxd (mxd (mxd (mxd (mxd (mxd (mxd (mxd (mxd (mxd (mxd (mxd (mxd 58075 (gv σ T 8)) (gv σ T 9)) (gv σ T 10)) (pts σ 11)) (pts σ 46)) (pts σ 81)) (pts σ 116)) (gv σ 3 1)) (gv σ (T + 1) 9)) (min (gv σ (T + 1) 12) 20)) (max 0 (gv σ (T + 1) 9 - gv σ T 10))) (gv σ (T + 16) 3)) (gv σ T 11)) q), wr T]) (rest := []) rfl (Nat.le_of_ble_eq_true rfl) (an_of wl_inj rsr_sub (g_withRows hE hT (rsr_sit hS)) (g_withRows hE hT hS)) (fun vo s9 hq => ?_)
  obtain ⟨r1, rfl, an2, rfl⟩ := hq
  show Bt E 100 115 [wr 2, wr T, wl (mxd (mxd (mxd (mxd (mxd (mxd (mxd (mxd (mxd (mxd (mxd (mxd (mxd (mxd 58075 (gv σ T 8)) (gv σ T 9)) (gv σ T 10)) (pts σ 11)) (pts σ 46)) (pts σ 81)) (pts σ 116)) (gv σ 3 1)) (gv σ (T + 1) 9)) (min (gv σ (T + 1) 12) 20)) (max 0 (gv σ (T + 1) 9 - gv σ T 10))) (gv σ (T + 16) 3)) (gv σ T 11)) q), wx, wi 7] [wl r1] σ _
  refine B_lstoren rfl my_100 (by decide) rfl (show _ = [wr 2, wr T, wl r1, wx, wi 7] from rfl) ?_
  refine B_lloadn rfl my_100 rfl ?_
  refine B_aloadn rfl my_100 rfl ?_
  refine B_cS rfl cw_100_102_0 (as := [wl r1, wr T]) (rest := []) rfl (Nat.le_of_ble_eq_true rfl) (an_of wl_inj rsr_sub (g_withColumns hE hT (rsr_sit hS) rsr_nty) (g_withColumns hE hT hS hN)) (fun vo s9 hq => ?_)
  obtain ⟨r2, rfl, an3, rfl⟩ := hq
  show Bt E 100 121 [wr 2, wr T, wl r1, wx, wi 7] [wl r2] σ _
  refine B_lstoren rfl my_100 (by decide) rfl (show _ = [wr 2, wr T, wl r2, wx, wi 7] from rfl) ?_
  refine B_lloadn rfl my_100 rfl ?_
  refine B_aloadn rfl my_100 rfl ?_
  refine B_cS rfl cw_100_103_0 (as := [wl r2, wr T]) (rest := []) rfl (Nat.le_of_ble_eq_true rfl) (an_of wl_inj rsr_sub (g_withFaultsAndKept hE hT (rsr_sit hS)) (g_withFaultsAndKept hE hT hS)) (fun vo s9 hq => ?_)
  obtain ⟨r3, rfl, an4, rfl⟩ := hq
  show Bt E 100 127 [wr 2, wr T, wl r2, wx, wi 7] [wl r3] σ _
  refine B_lstoren rfl my_100 (by decide) rfl (show _ = [wr 2, wr T, wl r3, wx, wi 7] from rfl) ?_
  refine B_iconst rfl my_100 (by decide) ?_
  refine B_istore rfl my_100 (by decide) rfl (show _ = [wr 2, wr T, wl r3, wx, wi 0] from rfl) ?_
  exact kont _ ⟨q, r1, r2, an1, an2, an3, an4⟩
