/-! ===== Text, Told, what is written and told ===== -/
theorem cw_70_21 : wcV 70 0 21 1 2 2 = true := by decide +kernel
theorem cw_70_69 : wcV 70 0 69 4 1 1 = true := by decide +kernel
theorem cw_71_21 : wcV 71 0 21 1 2 2 = true := by decide +kernel
theorem cw_71_69 : wcV 71 0 69 4 1 1 = true := by decide +kernel
theorem cw_71_72_0 : wcS 71 0 72 1 1 = true := by decide +kernel
theorem cw_74_20 : wcV 74 0 20 1 1 1 = true := by decide +kernel
theorem cw_75_20 : wcV 75 0 20 1 1 1 = true := by decide +kernel
theorem cw_77_105_0 : wcS 77 0 105 1 1 = true := by decide +kernel
theorem cw_77_69 : wcV 77 0 69 4 1 1 = true := by decide +kernel
theorem cw_77_70 : wcV 77 0 70 4 1 1 = true := by decide +kernel
theorem cw_78_69 : wcV 78 0 69 4 1 1 = true := by decide +kernel
theorem cw_78_71 : wcV 78 0 71 4 1 1 = true := by decide +kernel
theorem cw_78_72_0 : wcS 78 0 72 1 1 = true := by decide +kernel
theorem cw_79_69 : wcV 79 0 69 4 1 1 = true := by decide +kernel
theorem cw_79_70 : wcV 79 0 70 4 1 1 = true := by decide +kernel
theorem cw_80_105_0 : wcS 80 0 105 1 1 = true := by decide +kernel
theorem cw_80_69 : wcV 80 0 69 4 1 1 = true := by decide +kernel
theorem cw_80_70 : wcV 80 0 70 4 1 1 = true := by decide +kernel
theorem cw_80_71 : wcV 80 0 71 4 1 1 = true := by decide +kernel
theorem cw_80_72_0 : wcS 80 0 72 1 1 = true := by decide +kernel
theorem cw_81_112 : wcV 81 0 112 6 0 0 = true := by decide +kernel
theorem cw_81_20 : wcV 81 0 20 1 1 1 = true := by decide +kernel
theorem cw_81_21 : wcV 81 0 21 1 2 2 = true := by decide +kernel
theorem cw_82_107_0 : wcS 82 0 107 1 1 = true := by decide +kernel
theorem cw_82_112 : wcV 82 0 112 6 0 0 = true := by decide +kernel
theorem cw_83_112 : wcV 83 0 112 6 0 0 = true := by decide +kernel
theorem cw_83_20 : wcV 83 0 20 1 1 1 = true := by decide +kernel
theorem cw_83_21 : wcV 83 0 21 1 2 2 = true := by decide +kernel
/-- all is known -/
def Al (σ : wSt) : Prop := ∀ a b, kn σ a b
theorem al_wup {σ : wSt} {a b : Nat} {x : Int} (h : Al σ) : Al (wup σ a b x) := fun p q => kn_up (h p q)
theorem al_pt {σ : wSt} {n len : Nat} {i x : Int} (h : Al σ) : Al (pt σ n len i x) := fun p q => kn_pt (h p q)
/-- the text: how many signs, none below 0 -/
def TX (σ : wSt) : Prop := 0 ≤ gv σ 3 1 ∧ gv σ 3 1 ≤ 500 ∧ ∀ i, 0 ≤ rd σ 4 500 i
def Rt (a : Nat) : Prop := a = 2 ∨ a = 3 ∨ a = 5
/-- d signs more -/
def Tq (σ s : wSt) (d : Int) : Prop := Al s ∧ TX s ∧ gv s 3 1 = gv σ 3 1 + d ∧ Off Rt σ s
theorem Tq.tr {σ s t : wSt} {d e : Int} (h1 : Tq σ s d) (h2 : Tq s t e) : Tq σ t (d + e) := ⟨h2.1, h2.2.1, by rw [h2.2.2.1, h1.2.2.1]; omega, h1.2.2.2.tr h2.2.2.2⟩
theorem tq_write {σ : wSt} {c x : Int} (hA : Al σ) (hT : TX σ) (hc : gv σ 3 1 < 500) (hx : 0 ≤ x) : Tq σ (wup (pt σ 4 500 c x) 3 1 (gv σ 3 1 + 1)) 1 := by
  refine ⟨al_wup (al_pt hA), ⟨?_, ?_, fun i => ?_⟩, ?_, ?_⟩
  · rw [gv_eq]; have := hT.1; omega
  · rw [gv_eq]; omega
  · rw [rd_wup (by decide), rd_pt]
    split
    · exact hx
    · exact hT.2.2 i
  · rw [gv_eq]
  · exact (off_pt (R := Rt) (Or.inr (Or.inr rfl))).tr (off_wup (R := Rt) (Or.inr (Or.inl rfl)))
/-- what unsettleAll leaves -/
def us (σ : wSt) : wSt := wup (wup (wup (wup σ 11 12 0) 46 12 0) 81 12 0) 116 12 0
theorem al_us {σ : wSt} (h : Al σ) : Al (us σ) := al_wup (al_wup (al_wup (al_wup h)))
theorem g_isSign {E : mE} {σ : wSt} (hE : wE E) {n : Int} : Ev E 105 [wi n] σ (fun x => (x = 0 ∨ x = 1) ∧ (x = 1 ↔ 0 ≤ n ∧ n ≤ 45)) := by
  refine Fn.of (nL := 1) ?_
  show Bt E 105 0 [wi n] [] σ _
  refine B_rng 0 rfl (fun ha0 => ?_)
  refine B_iloadn rfl my_105 rfl ?_
  refine B_if_lt rfl my_105 rfl (tgt := 14) (nx := 4) rfl rfl (fun c1 => ?_) (fun c1 => ?_)
  · refine B_iconst rfl my_105 (by decide) ?_
    refine B_bret rfl my_105 rfl (by omega) ?_
    exact ⟨_, rfl, ⟨by omega, by omega⟩, rfl⟩
  · refine B_iloadn rfl my_105 rfl ?_
    refine B_bipush rfl my_105 (n := 45) rfl ?_
    refine B_ic_gt rfl my_105 rfl (tgt := 14) (nx := 10) rfl rfl (fun c2 => ?_) (fun c2 => ?_)
    · refine B_iconst rfl my_105 (by decide) ?_
      refine B_bret rfl my_105 rfl (by omega) ?_
      exact ⟨_, rfl, ⟨by omega, by omega⟩, rfl⟩
    · refine B_iconst rfl my_105 (by decide) ?_
      refine B_goto rfl my_105 rfl (tgt := 15) rfl ?_
      refine B_bret rfl my_105 rfl (by omega) ?_
      exact ⟨_, rfl, ⟨by omega, by omega⟩, rfl⟩
theorem g_isParter {E : mE} {σ : wSt} (hE : wE E) {n : Int} : Ev E 106 [wi n] σ (fun x => (x = 0 ∨ x = 1) ∧ (x = 1 ↔ 0 ≤ n ∧ n ≤ 3)) := by
  refine Fn.of (nL := 1) ?_
  show Bt E 106 0 [wi n] [] σ _
  refine B_rng 0 rfl (fun ha0 => ?_)
  refine B_iloadn rfl my_106 rfl ?_
  refine B_if_lt rfl my_106 rfl (tgt := 13) (nx := 4) rfl rfl (fun c1 => ?_) (fun c1 => ?_)
  · refine B_iconst rfl my_106 (by decide) ?_
    refine B_bret rfl my_106 rfl (by omega) ?_
    exact ⟨_, rfl, ⟨by omega, by omega⟩, rfl⟩
  · refine B_iloadn rfl my_106 rfl ?_
    refine B_iconst rfl my_106 (by decide) ?_
    refine B_ic_gt rfl my_106 rfl (tgt := 13) (nx := 9) rfl rfl (fun c2 => ?_) (fun c2 => ?_)
    · refine B_iconst rfl my_106 (by decide) ?_
      refine B_bret rfl my_106 rfl (by omega) ?_
      exact ⟨_, rfl, ⟨by omega, by omega⟩, rfl⟩
    · refine B_iconst rfl my_106 (by decide) ?_
      refine B_goto rfl my_106 rfl (tgt := 14) rfl ?_
      refine B_bret rfl my_106 rfl (by omega) ?_
      exact ⟨_, rfl, ⟨by omega, by omega⟩, rfl⟩
theorem g_isShare {E : mE} {σ : wSt} (hE : wE E) {n : Int} : Ev E 107 [wi n] σ (fun x => (x = 0 ∨ x = 1) ∧ (x = 1 ↔ 1 ≤ n ∧ n ≤ 100)) := by
  refine Fn.of (nL := 1) ?_
  show Bt E 107 0 [wi n] [] σ _
  refine B_rng 0 rfl (fun ha0 => ?_)
  refine B_iloadn rfl my_107 rfl ?_
  refine B_iconst rfl my_107 (by decide) ?_
  refine B_ic_lt rfl my_107 rfl (tgt := 15) (nx := 5) rfl rfl (fun c1 => ?_) (fun c1 => ?_)
  · refine B_iconst rfl my_107 (by decide) ?_
    refine B_bret rfl my_107 rfl (by omega) ?_
    exact ⟨_, rfl, ⟨by omega, by omega⟩, rfl⟩
  · refine B_iloadn rfl my_107 rfl ?_
    refine B_bipush rfl my_107 (n := 100) rfl ?_
    refine B_ic_gt rfl my_107 rfl (tgt := 15) (nx := 11) rfl rfl (fun c2 => ?_) (fun c2 => ?_)
    · refine B_iconst rfl my_107 (by decide) ?_
      refine B_bret rfl my_107 rfl (by omega) ?_
      exact ⟨_, rfl, ⟨by omega, by omega⟩, rfl⟩
    · refine B_iconst rfl my_107 (by decide) ?_
      refine B_goto rfl my_107 rfl (tgt := 16) rfl ?_
      refine B_bret rfl my_107 rfl (by omega) ?_
      exact ⟨_, rfl, ⟨by omega, by omega⟩, rfl⟩
theorem g_hasRoomFor {E : mE} {σ : wSt} (hE : wE E) (hA : Al σ) (hT : TX σ) {n : Int} (h1 : 0 ≤ n) (h2 : n ≤ 1000) : Ev E 69 [wr 3, wi n] σ (fun x => (x = 0 ∨ x = 1) ∧ (x = 1 ↔ gv σ 3 1 + n ≤ 500)) := by
  obtain ⟨ht1, ht2, ht3⟩ := hT
  refine Fn.of (nL := 2) ?_
  show Bt E 69 0 [wr 3, wi n] [] σ _
  refine B_rng 1 rfl (fun ha1 => ?_)
  refine B_aloadn rfl my_69 rfl ?_
  refine B_int hE.1 rfl my_69 rfl rfl (hA _ _) (fun r1 => ?_)
  refine B_iloadn rfl my_69 rfl ?_
  refine B_iadd rfl my_69 (by omega) (by omega) ?_
  refine B_sipush rfl my_69 (n := 500) rfl ?_
  refine B_ic_gt rfl my_69 rfl (tgt := 16) (nx := 12) rfl rfl (fun c2 => ?_) (fun c2 => ?_)
  · refine B_iconst rfl my_69 (by decide) ?_
    refine B_bret rfl my_69 rfl (by omega) ?_
    exact ⟨_, rfl, ⟨by omega, by omega⟩, rfl⟩
  · refine B_iconst rfl my_69 (by decide) ?_
    refine B_goto rfl my_69 rfl (tgt := 17) rfl ?_
    refine B_bret rfl my_69 rfl (by omega) ?_
    exact ⟨_, rfl, ⟨by omega, by omega⟩, rfl⟩
theorem g_write {E : mE} {σ : wSt} (hE : wE E) (hA : Al σ) (hT : TX σ) {n : Int} (h1 : 0 ≤ n) (h2 : gv σ 3 1 < 500) : Fn E 70 [wr 3, wi n] σ (fun vo s => vo = none ∧ Tq σ s 1) := by
  refine Fn.of (nL := 2) ?_
  show Bt E 70 0 [wr 3, wi n] [] σ _
  refine B_rng 1 rfl (fun ha1 => ?_)
  refine B_aloadn rfl my_70 rfl ?_
  refine B_iconst rfl my_70 (by decide) ?_
  refine B_cV hE.1 rfl rfl cw_70_69 (as := [wi 1]) (rest := []) rfl (Nat.le_of_ble_eq_true rfl) (g_hasRoomFor hE hA hT (by omega) (by omega)) (fun vo s9 hq => ?_)
  obtain ⟨x1, rfl, ⟨hz2, q2⟩, rfl⟩ := hq
  show Bt E 70 5 [wr 3, wi n] [wi x1] σ _
  refine B_top (fun r3 => ?_)
  refine B_if_eq rfl my_70 rfl (tgt := 30) (nx := 8) rfl rfl (fun c4 => ?_) (fun c4 => ?_)
  · refine B_ret rfl my_70 rfl ?_
    exfalso
    omega
  · refine B_aloadn rfl my_70 rfl ?_
    refine B_ref hE.1 rfl my_70 rfl (r := 4) rfl ?_
    refine B_aloadn rfl my_70 rfl ?_
    refine B_int hE.1 rfl my_70 rfl rfl (hA _ _) (fun r5 => ?_)
    refine B_iloadn rfl my_70 rfl ?_
    refine B_cV hE.1 rfl nmc_4.1 cw_70_21 (as := [wi (gv σ 3 1), wi n]) (rest := []) rfl (Nat.le_of_ble_eq_true rfl) (g_put hE nmc_4 (by decide)) (fun vo s9 hq => ?_)
    obtain ⟨rfl, rfl⟩ := hq
    show Bt E 70 20 [wr 3, wi n] [] (pt σ 4 500 (gv σ 3 1) n) _
    have e1 : gv (pt σ 4 500 (gv σ 3 1) n) 3 1 = gv σ 3 1 := gv_pt (by decide)
    refine B_aloadn rfl my_70 rfl ?_
    refine B_dup rfl my_70 (by decide) ?_
    refine B_int hE.1 rfl my_70 rfl rfl ((al_pt hA) _ _) (fun r6 => ?_)
    refine B_iconst rfl my_70 (by decide) ?_
    refine B_iadd rfl my_70 (by omega) (by omega) ?_
    refine B_put hE.1 rfl my_70 rfl rfl (Or.inl rfl) ?_
    refine B_ret rfl my_70 rfl ?_
    refine ⟨rfl, ?_⟩
    rw [e1]
    exact tq_write hA hT h2 h1
theorem l_digitsOf {E : mE} {σ : wSt} (hE : wE E) {n : Int} : ∀ (k : Nat) (l r : Int), 0 ≤ r → 1 ≤ l → l ≤ 10 → ((n < 100 → l = 1 ∧ r < 10 ∨ l = 2 ∧ r < 1) ∧ (n < 10000 → l = 1 ∧ r < 1000 ∨ l = 2 ∧ r < 100 ∨ l = 3 ∧ r < 10 ∨ l = 4 ∧ r < 1)) → r.toNat ≤ k → Bt E 72 7 [wi n, wi l, wi r] [] σ (fun vo t => ∃ x, vo = some (wi x) ∧ (1 ≤ x ∧ x ≤ 10 ∧ (n < 100 → x ≤ 2) ∧ (n < 10000 → x ≤ 4)) ∧ σ = t) := by
  intro k
  induction k with
  | zero =>
    intro l r h1 h2 h3 h4 hm
    refine B_rng 0 rfl (fun ha0 => ?_)
    refine B_rng 1 rfl (fun ha1 => ?_)
    refine B_rng 2 rfl (fun ha2 => ?_)
    refine B_iloadn rfl my_72 rfl ?_
    refine B_if_le rfl my_72 rfl (tgt := 28) (nx := 11) rfl rfl (fun c1 => ?_) (fun c1 => ?_)
    · refine B_iloadn rfl my_72 rfl ?_
      refine B_iret rfl my_72 rfl ?_
      exact ⟨_, rfl, ⟨by omega, by omega, fun g => by have := h4.1 g; omega, fun g => by have := h4.2 g; omega⟩, rfl⟩
    · exact absurd hm (by omega)
  | succ k ih =>
    intro l r h1 h2 h3 h4 hm
    refine B_rng 0 rfl (fun ha0 => ?_)
    refine B_rng 1 rfl (fun ha1 => ?_)
    refine B_rng 2 rfl (fun ha2 => ?_)
    refine B_iloadn rfl my_72 rfl ?_
    refine B_if_le rfl my_72 rfl (tgt := 28) (nx := 11) rfl rfl (fun c1 => ?_) (fun c1 => ?_)
    · refine B_iloadn rfl my_72 rfl ?_
      refine B_iret rfl my_72 rfl ?_
      exact ⟨_, rfl, ⟨by omega, by omega, fun g => by have := h4.1 g; omega, fun g => by have := h4.2 g; omega⟩, rfl⟩
    · refine B_iloadn rfl my_72 rfl ?_
      refine B_bipush rfl my_72 (n := 10) rfl ?_
      refine B_ic_ge rfl my_72 rfl (tgt := 28) (nx := 17) rfl rfl (fun c2 => ?_) (fun c2 => ?_)
      · refine B_iloadn rfl my_72 rfl ?_
        refine B_iret rfl my_72 rfl ?_
        exact ⟨_, rfl, ⟨by omega, by omega, fun g => by have := h4.1 g; omega, fun g => by have := h4.2 g; omega⟩, rfl⟩
      · refine B_iinc rfl my_72 (by decide) rfl rfl rfl (by omega) (by omega) (show _ = [wi n, wi (l + 1), wi r] from rfl) ?_
        refine B_iloadn rfl my_72 rfl ?_
        refine B_bipush rfl my_72 (n := 10) rfl ?_
        refine B_idiv rfl my_72 (by omega) (by omega) ?_
        refine B_istoren rfl my_72 (by decide) rfl (show _ = [wi n, wi (l + 1), wi (r / 10)] from rfl) ?_
        refine B_goto rfl my_72 rfl (tgt := 7) rfl ?_
        refine ih _ _ ?_ ?_ ?_ ⟨fun g => ?_, fun g => ?_⟩ ?_
        · omega
        · omega
        · omega
        · have := h4.1 g
          omega
        · have := h4.2 g
          omega
        · omega
theorem g_digitsOf {E : mE} {σ : wSt} (hE : wE E) {n : Int} (h0 : 0 ≤ n) : Ev E 72 [wi n] σ (fun x => 1 ≤ x ∧ x ≤ 10 ∧ (n < 100 → x ≤ 2) ∧ (n < 10000 → x ≤ 4)) := by
  refine Fn.of (nL := 3) ?_
  show Bt E 72 0 [wi n, wx, wx] [] σ _
  refine B_rng 0 rfl (fun ha0 => ?_)
  refine B_iconst rfl my_72 (by decide) ?_
  refine B_istoren rfl my_72 (by decide) rfl (show _ = [wi n, wi 1, wx] from rfl) ?_
  refine B_iloadn rfl my_72 rfl ?_
  refine B_bipush rfl my_72 (n := 10) rfl ?_
  refine B_idiv rfl my_72 (by omega) (by omega) ?_
  refine B_istoren rfl my_72 (by decide) rfl (show _ = [wi n, wi 1, wi (n / 10)] from rfl) ?_
  exact l_digitsOf hE _ 1 (n / 10) (by omega) (by omega) (by omega) ⟨fun g => by omega, fun g => by omega⟩ (Nat.le_refl _)
theorem l_writeNumber {E : mE} {σ : wSt} (hE : wE E) (hT : TX σ) {n d : Int} (hd1 : 0 ≤ d) (hd2 : d ≤ 10) (h5 : gv σ 3 1 + d ≤ 500) : ∀ (k : Nat) (s : wSt) (r p : Int), Al s → (∀ i, 0 ≤ rd s 4 500 i) → Off (fun a => a = 5) σ s → 0 ≤ r → p ≤ 600 → (p + 1 - gv s 3 1).toNat ≤ k → Bt E 71 25 [wr 3, wi n, wi d, wi r, wi p] [] s (fun vo t => vo = none ∧ Tq σ t d) := by
  intro k
  induction k with
  | zero =>
    intro s r p h1 h2 h3 h4 h5 hm
    have e3 : gv s 3 1 = gv σ 3 1 := off_gv h3 (by decide)
    have ht1 := hT.1
    refine B_rng 1 rfl (fun ha1 => ?_)
    refine B_rng 2 rfl (fun ha2 => ?_)
    refine B_rng 3 rfl (fun ha3 => ?_)
    refine B_rng 4 rfl (fun ha4 => ?_)
    refine B_iload rfl my_71 rfl ?_
    refine B_aloadn rfl my_71 rfl ?_
    refine B_int hE.1 rfl my_71 rfl rfl (h1 _ _) (fun r1 => ?_)
    refine B_ic_lt rfl my_71 rfl (tgt := 61) (nx := 34) rfl rfl (fun c2 => ?_) (fun c2 => ?_)
    · refine B_aloadn rfl my_71 rfl ?_
      refine B_aloadn rfl my_71 rfl ?_
      refine B_int hE.1 rfl my_71 rfl rfl (h1 _ _) (fun r3 => ?_)
      refine B_iloadn rfl my_71 rfl ?_
      refine B_iadd rfl my_71 (by omega) (by omega) ?_
      refine B_put hE.1 rfl my_71 rfl rfl (Or.inl rfl) ?_
      refine B_ret rfl my_71 rfl ?_
      refine ⟨rfl, al_wup h1, ⟨?_, ?_, fun i => ?_⟩, ?_, ?_⟩
      · rw [gv_eq, e3]; omega
      · rw [gv_eq, e3]; omega
      · rw [rd_wup (by decide)]; exact h2 i
      · rw [gv_eq, e3]
      · exact (h3.mono (R' := Rt) (fun a h => Or.inr (Or.inr h))).tr (off_wup (R := Rt) (Or.inr (Or.inl rfl)))
    · exact absurd hm (by omega)
  | succ k ih =>
    intro s r p h1 h2 h3 h4 h5 hm
    have e3 : gv s 3 1 = gv σ 3 1 := off_gv h3 (by decide)
    have ht1 := hT.1
    refine B_rng 1 rfl (fun ha1 => ?_)
    refine B_rng 2 rfl (fun ha2 => ?_)
    refine B_rng 3 rfl (fun ha3 => ?_)
    refine B_rng 4 rfl (fun ha4 => ?_)
    refine B_iload rfl my_71 rfl ?_
    refine B_aloadn rfl my_71 rfl ?_
    refine B_int hE.1 rfl my_71 rfl rfl (h1 _ _) (fun r1 => ?_)
    refine B_ic_lt rfl my_71 rfl (tgt := 61) (nx := 34) rfl rfl (fun c2 => ?_) (fun c2 => ?_)
    · refine B_aloadn rfl my_71 rfl ?_
      refine B_aloadn rfl my_71 rfl ?_
      refine B_int hE.1 rfl my_71 rfl rfl (h1 _ _) (fun r3 => ?_)
      refine B_iloadn rfl my_71 rfl ?_
      refine B_iadd rfl my_71 (by omega) (by omega) ?_
      refine B_put hE.1 rfl my_71 rfl rfl (Or.inl rfl) ?_
      refine B_ret rfl my_71 rfl ?_
      refine ⟨rfl, al_wup h1, ⟨?_, ?_, fun i => ?_⟩, ?_, ?_⟩
      · rw [gv_eq, e3]; omega
      · rw [gv_eq, e3]; omega
      · rw [rd_wup (by decide)]; exact h2 i
      · rw [gv_eq, e3]
      · exact (h3.mono (R' := Rt) (fun a h => Or.inr (Or.inr h))).tr (off_wup (R := Rt) (Or.inr (Or.inl rfl)))
    · refine B_aloadn rfl my_71 rfl ?_
      refine B_ref hE.1 rfl my_71 rfl (r := 4) rfl ?_
      refine B_iload rfl my_71 rfl ?_
      refine B_bipush rfl my_71 (n := 10) rfl ?_
      refine B_iloadn rfl my_71 rfl ?_
      refine B_bipush rfl my_71 (n := 10) rfl ?_
      refine B_irem rfl my_71 (by omega) (by omega) ?_
      refine B_iadd rfl my_71 (by omega) (by omega) ?_
      refine B_cV hE.1 rfl nmc_4.1 cw_71_21 (as := [wi p, wi (10 + (r % 10))]) (rest := []) rfl (Nat.le_of_ble_eq_true rfl) (g_put hE nmc_4 (by decide)) (fun vo s9 hq => ?_)
      obtain ⟨rfl, rfl⟩ := hq
      show Bt E 71 50 [wr 3, wi n, wi d, wi r, wi p] [] (pt s 4 500 p (10 + (r % 10))) _
      refine B_iloadn rfl my_71 rfl ?_
      refine B_bipush rfl my_71 (n := 10) rfl ?_
      refine B_idiv rfl my_71 (by omega) (by omega) ?_
      refine B_istoren rfl my_71 (by decide) rfl (show _ = [wr 3, wi n, wi d, wi (r / 10), wi p] from rfl) ?_
      refine B_iinc rfl my_71 (by decide) rfl rfl rfl (by omega) (by omega) (show _ = [wr 3, wi n, wi d, wi (r / 10), wi (p + (-1))] from rfl) ?_
      refine B_goto rfl my_71 rfl (tgt := 25) rfl ?_
      refine ih _ _ _ (al_pt h1) (fun i => ?_) (h3.tr (off_pt (R := fun a => a = 5) rfl)) ?_ ?_ ?_
      · rw [rd_pt]
        split
        · omega
        · exact h2 i
      · omega
      · omega
      · rw [gv_pt (by decide)]; omega
theorem g_writeNumber {E : mE} {σ : wSt} (hE : wE E) (hA : Al σ) (hT : TX σ) {n : Int} (h1 : 0 ≤ n) (h2 : gv σ 3 1 ≤ 480) : Fn E 71 [wr 3, wi n] σ (fun vo s => vo = none ∧ ∃ x, (1 ≤ x ∧ x ≤ 10 ∧ (n < 100 → x ≤ 2) ∧ (n < 10000 → x ≤ 4)) ∧ Tq σ s x) := by
  have ht1 := hT.1
  refine Fn.of (nL := 5) ?_
  show Bt E 71 0 [wr 3, wi n, wx, wx, wx] [] σ _
  refine B_rng 1 rfl (fun ha1 => ?_)
  refine B_iloadn rfl my_71 rfl ?_
  refine B_cS rfl cw_71_72_0 (as := [wi n]) (rest := []) rfl (Nat.le_of_ble_eq_true rfl) (g_digitsOf hE (by omega)) (fun vo s9 hq => ?_)
  obtain ⟨x1, rfl, ⟨hz2, g1a, g1b, g1c⟩, rfl⟩ := hq
  show Bt E 71 4 [wr 3, wi n, wx, wx, wx] [wi x1] σ _
  refine B_top (fun r3 => ?_)
  refine B_istoren rfl my_71 (by decide) rfl (show _ = [wr 3, wi n, wi x1, wx, wx] from rfl) ?_
  refine B_aloadn rfl my_71 rfl ?_
  refine B_iloadn rfl my_71 rfl ?_
  refine B_cV hE.1 rfl rfl cw_71_69 (as := [wi x1]) (rest := []) rfl (Nat.le_of_ble_eq_true rfl) (g_hasRoomFor hE hA hT (by omega) (by omega)) (fun vo s9 hq => ?_)
  obtain ⟨x4, rfl, ⟨hz5, q7⟩, rfl⟩ := hq
  show Bt E 71 10 [wr 3, wi n, wi x1, wx, wx] [wi x4] σ _
  refine B_top (fun r6 => ?_)
  refine B_if_eq rfl my_71 rfl (tgt := 71) (nx := 13) rfl rfl (fun c7 => ?_) (fun c7 => ?_)
  · refine B_ret rfl my_71 rfl ?_
    exfalso
    omega
  · refine B_iloadn rfl my_71 rfl ?_
    refine B_istoren rfl my_71 (by decide) rfl (show _ = [wr 3, wi n, wi x1, wi n, wx] from rfl) ?_
    refine B_aloadn rfl my_71 rfl ?_
    refine B_int hE.1 rfl my_71 rfl rfl (hA _ _) (fun r8 => ?_)
    refine B_iloadn rfl my_71 rfl ?_
    refine B_iadd rfl my_71 (by omega) (by omega) ?_
    refine B_iconst rfl my_71 (by decide) ?_
    refine B_isub rfl my_71 (by omega) (by omega) ?_
    refine B_istore rfl my_71 (by decide) rfl (show _ = [wr 3, wi n, wi x1, wi n, wi (((gv σ 3 1) + x1) - 1)] from rfl) ?_
    refine (l_writeNumber hE hT (by omega) (by omega) (by omega) _ σ n _ hA hT.2.2 Off.rf h1 (by omega) (Nat.le_refl _)).mono (fun vo s hq => ?_)
    exact ⟨hq.1, _, ⟨by omega, by omega, by omega, by omega⟩, hq.2⟩
theorem tq_flag {σ s : wSt} {d : Int} (h : Tq σ s d) : Tq σ (wup s 2 6 0) d ∧ gv (wup s 2 6 0) 2 6 = 0 := by
  obtain ⟨h1, h2, h3, h4⟩ := h
  refine ⟨⟨al_wup h1, ⟨?_, ?_, fun i => ?_⟩, ?_, ?_⟩, gv_eq⟩
  · rw [gv_ne (by decide)]; exact h2.1
  · rw [gv_ne (by decide)]; exact h2.2.1
  · rw [rd_wup (by decide)]; exact h2.2.2 i
  · rw [gv_ne (by decide)]; exact h3
  · exact h4.tr (off_wup (R := Rt) (Or.inl rfl))
theorem g_sign {E : mE} {σ : wSt} (hE : wE E) (hA : Al σ) (hT : TX σ) {n : Int} (h1 : 0 ≤ n) (h2 : n ≤ 45) (h3 : gv σ 3 1 ≤ 440) : Fn E 77 [wr 2, wi n] σ (fun vo s => ∃ x d, vo = some (wi x) ∧ d = 1 ∧ Tq σ s d ∧ gv s 2 6 = 0) := by
  have ht1 := hT.1
  have ht2 := hT.2.1
  refine Fn.of (nL := 2) ?_
  show Bt E 77 0 [wr 2, wi n] [] σ _
  refine B_rng 1 rfl (fun ha1 => ?_)
  refine B_iloadn rfl my_77 rfl ?_
  refine B_cS rfl cw_77_105_0 (as := [wi n]) (rest := []) rfl (Nat.le_of_ble_eq_true rfl) (g_isSign hE) (fun vo s9 hq => ?_)
  obtain ⟨x1, rfl, hz2, rfl⟩ := hq
  show Bt E 77 4 [wr 2, wi n] [wi x1] σ _
  refine B_top (fun r3 => ?_)
  refine B_if_ne rfl my_77 rfl (tgt := 17) (nx := 7) rfl rfl (fun c4 => ?_) (fun c4 => ?_)
  · refine B_aloadn rfl my_77 rfl ?_
    refine B_ref hE.1 rfl my_77 rfl (r := 3) rfl ?_
    refine B_iconst rfl my_77 (by decide) ?_
    refine B_cV hE.1 rfl rfl cw_77_69 (as := [wi 1]) (rest := []) rfl (Nat.le_of_ble_eq_true rfl) (g_hasRoomFor hE hA hT (by omega) (by omega)) (fun vo s9 hq => ?_)
    obtain ⟨x5, rfl, ⟨hz6, q22⟩, rfl⟩ := hq
    show Bt E 77 25 [wr 2, wi n] [wi x5] σ _
    refine B_top (fun r7 => ?_)
    refine B_if_ne rfl my_77 rfl (tgt := 38) (nx := 28) rfl rfl (fun c8 => ?_) (fun c8 => ?_)
    · refine B_aloadn rfl my_77 rfl ?_
      refine B_ref hE.1 rfl my_77 rfl (r := 3) rfl ?_
      refine B_iloadn rfl my_77 rfl ?_
      refine B_cV hE.1 rfl rfl cw_77_70 (as := [wi n]) (rest := []) rfl (Nat.le_of_ble_eq_true rfl) (g_write hE hA hT (by omega) (by omega)) (fun vo s1 hq => ?_)
      obtain ⟨rfl, hq1⟩ := hq
      have e1 := hq1.2.2.1
      have hA1 := hq1.1
      have hT1 := hq1.2.1
      show Bt E 77 46 [wr 2, wi n] [] s1 _
      refine B_aloadn rfl my_77 rfl ?_
      refine B_iconst rfl my_77 (by decide) ?_
      refine B_put hE.1 rfl my_77 rfl rfl (Or.inr ⟨rfl, Or.inl rfl⟩) ?_
      refine B_aloadn rfl my_77 rfl ?_
      refine B_ref hE.1 rfl my_77 rfl (r := 3) rfl ?_
      refine B_int hE.1 rfl my_77 rfl rfl ((al_wup hA1) _ _) (fun r9 => ?_)
      refine B_iret rfl my_77 rfl ?_
      exact ⟨_, _, rfl, rfl, (tq_flag hq1).1, (tq_flag hq1).2⟩
    · exfalso
      omega
  · exfalso
    omega
theorem g_digits {E : mE} {σ : wSt} (hE : wE E) (hA : Al σ) (hT : TX σ) {n : Int} (h1 : 0 ≤ n) (h3 : gv σ 3 1 ≤ 440) : Fn E 78 [wr 2, wi n] σ (fun vo s => ∃ x d, vo = some (wi x) ∧ (0 ≤ d ∧ (n < 100 → d ≤ 2)) ∧ Tq σ s d ∧ gv s 2 6 = 0) := by
  have ht1 := hT.1
  have ht2 := hT.2.1
  refine Fn.of (nL := 2) ?_
  show Bt E 78 0 [wr 2, wi n] [] σ _
  refine B_rng 1 rfl (fun ha1 => ?_)
  refine B_iloadn rfl my_78 rfl ?_
  refine B_if_ge rfl my_78 rfl (tgt := 14) (nx := 4) rfl rfl (fun c1 => ?_) (fun c1 => ?_)
  · refine B_aloadn rfl my_78 rfl ?_
    refine B_ref hE.1 rfl my_78 rfl (r := 3) rfl ?_
    refine B_iloadn rfl my_78 rfl ?_
    refine B_cS rfl cw_78_72_0 (as := [wi n]) (rest := [wr 3]) rfl (Nat.le_of_ble_eq_true rfl) (g_digitsOf hE (by omega)) (fun vo s9 hq => ?_)
    obtain ⟨x2, rfl, ⟨hz3, g19a, g19b, g19c⟩, rfl⟩ := hq
    show Bt E 78 22 [wr 2, wi n] [wi x2, wr 3] σ _
    refine B_top (fun r4 => ?_)
    refine B_cV hE.1 rfl rfl cw_78_69 (as := [wi x2]) (rest := []) rfl (Nat.le_of_ble_eq_true rfl) (g_hasRoomFor hE hA hT (by omega) (by omega)) (fun vo s9 hq => ?_)
    obtain ⟨x5, rfl, ⟨hz6, q22⟩, rfl⟩ := hq
    show Bt E 78 25 [wr 2, wi n] [wi x5] σ _
    refine B_top (fun r7 => ?_)
    refine B_if_ne rfl my_78 rfl (tgt := 38) (nx := 28) rfl rfl (fun c8 => ?_) (fun c8 => ?_)
    · refine B_aloadn rfl my_78 rfl ?_
      refine B_ref hE.1 rfl my_78 rfl (r := 3) rfl ?_
      refine B_iloadn rfl my_78 rfl ?_
      refine B_cV hE.1 rfl rfl cw_78_71 (as := [wi n]) (rest := []) rfl (Nat.le_of_ble_eq_true rfl) (g_writeNumber hE hA hT (by omega) (by omega)) (fun vo s1 hq => ?_)
      obtain ⟨rfl, d1, ⟨_, _, j1a, j1b⟩, hq1⟩ := hq
      have e1 := hq1.2.2.1
      have hA1 := hq1.1
      have hT1 := hq1.2.1
      show Bt E 78 46 [wr 2, wi n] [] s1 _
      refine B_aloadn rfl my_78 rfl ?_
      refine B_iconst rfl my_78 (by decide) ?_
      refine B_put hE.1 rfl my_78 rfl rfl (Or.inr ⟨rfl, Or.inl rfl⟩) ?_
      refine B_aloadn rfl my_78 rfl ?_
      refine B_ref hE.1 rfl my_78 rfl (r := 3) rfl ?_
      refine B_int hE.1 rfl my_78 rfl rfl ((al_wup hA1) _ _) (fun r9 => ?_)
      refine B_iret rfl my_78 rfl ?_
      exact ⟨_, _, rfl, ⟨by omega, by omega⟩, (tq_flag hq1).1, (tq_flag hq1).2⟩
    · exfalso
      omega
  · exfalso
    omega
theorem g_three {E : mE} {σ : wSt} (hE : wE E) (hA : Al σ) (hT : TX σ) {a b c n : Int} (h1 : 0 ≤ a) (h2 : 0 ≤ b) (h4 : 0 ≤ c) (h5 : 0 ≤ n) (h6 : n ≤ 45) (h3 : gv σ 3 1 ≤ 440) : Fn E 80 [wr 2, wi a, wi b, wi c, wi n] σ (fun vo s => ∃ x d, vo = some (wi x) ∧ (0 ≤ d ∧ (a < 100 → b < 100 → c < 10000 → d ≤ 10)) ∧ Tq σ s d ∧ gv s 2 6 = 0) := by
  have ht1 := hT.1
  have ht2 := hT.2.1
  refine Fn.of (nL := 5) ?_
  show Bt E 80 0 [wr 2, wi a, wi b, wi c, wi n] [] σ _
  refine B_rng 1 rfl (fun ha1 => ?_)
  refine B_rng 2 rfl (fun ha2 => ?_)
  refine B_rng 3 rfl (fun ha3 => ?_)
  refine B_rng 4 rfl (fun ha4 => ?_)
  refine B_iloadn rfl my_80 rfl ?_
  refine B_if_lt rfl my_80 rfl (tgt := 20) (nx := 4) rfl rfl (fun c1 => ?_) (fun c1 => ?_)
  · exfalso
    omega
  · refine B_iloadn rfl my_80 rfl ?_
    refine B_if_lt rfl my_80 rfl (tgt := 20) (nx := 8) rfl rfl (fun c2 => ?_) (fun c2 => ?_)
    · exfalso
      omega
    · refine B_iloadn rfl my_80 rfl ?_
      refine B_if_lt rfl my_80 rfl (tgt := 20) (nx := 12) rfl rfl (fun c3 => ?_) (fun c3 => ?_)
      · exfalso
        omega
      · refine B_iload rfl my_80 rfl ?_
        refine B_cS rfl cw_80_105_0 (as := [wi n]) (rest := []) rfl (Nat.le_of_ble_eq_true rfl) (g_isSign hE) (fun vo s9 hq => ?_)
        obtain ⟨x4, rfl, hz5, rfl⟩ := hq
        show Bt E 80 17 [wr 2, wi a, wi b, wi c, wi n] [wi x4] σ _
        refine B_top (fun r6 => ?_)
        refine B_if_ne rfl my_80 rfl (tgt := 30) (nx := 20) rfl rfl (fun c7 => ?_) (fun c7 => ?_)
        · refine B_aloadn rfl my_80 rfl ?_
          refine B_ref hE.1 rfl my_80 rfl (r := 3) rfl ?_
          refine B_iloadn rfl my_80 rfl ?_
          refine B_cS rfl cw_80_72_0 (as := [wi a]) (rest := [wr 3]) rfl (Nat.le_of_ble_eq_true rfl) (g_digitsOf hE (by omega)) (fun vo s9 hq => ?_)
          obtain ⟨x8, rfl, ⟨hz9, g35a, g35b, g35c⟩, rfl⟩ := hq
          show Bt E 80 38 [wr 2, wi a, wi b, wi c, wi n] [wi x8, wr 3] σ _
          refine B_top (fun r10 => ?_)
          refine B_iloadn rfl my_80 rfl ?_
          refine B_cS rfl cw_80_72_0 (as := [wi b]) (rest := [wi x8, wr 3]) rfl (Nat.le_of_ble_eq_true rfl) (g_digitsOf hE (by omega)) (fun vo s9 hq => ?_)
          obtain ⟨x11, rfl, ⟨hz12, g39a, g39b, g39c⟩, rfl⟩ := hq
          show Bt E 80 42 [wr 2, wi a, wi b, wi c, wi n] [wi x11, wi x8, wr 3] σ _
          refine B_top (fun r13 => ?_)
          refine B_iadd rfl my_80 (by omega) (by omega) ?_
          refine B_iloadn rfl my_80 rfl ?_
          refine B_cS rfl cw_80_72_0 (as := [wi c]) (rest := [wi (x8 + x11), wr 3]) rfl (Nat.le_of_ble_eq_true rfl) (g_digitsOf hE (by omega)) (fun vo s9 hq => ?_)
          obtain ⟨x14, rfl, ⟨hz15, g44a, g44b, g44c⟩, rfl⟩ := hq
          show Bt E 80 47 [wr 2, wi a, wi b, wi c, wi n] [wi x14, wi (x8 + x11), wr 3] σ _
          refine B_top (fun r16 => ?_)
          refine B_iadd rfl my_80 (by omega) (by omega) ?_
          refine B_iconst rfl my_80 (by decide) ?_
          refine B_iadd rfl my_80 (by omega) (by omega) ?_
          refine B_cV hE.1 rfl rfl cw_80_69 (as := [wi (((x8 + x11) + x14) + 2)]) (rest := []) rfl (Nat.le_of_ble_eq_true rfl) (g_hasRoomFor hE hA hT (by omega) (by omega)) (fun vo s9 hq => ?_)
          obtain ⟨x17, rfl, ⟨hz18, q50⟩, rfl⟩ := hq
          show Bt E 80 53 [wr 2, wi a, wi b, wi c, wi n] [wi x17] σ _
          refine B_top (fun r19 => ?_)
          refine B_if_ne rfl my_80 rfl (tgt := 66) (nx := 56) rfl rfl (fun c20 => ?_) (fun c20 => ?_)
          · refine B_aloadn rfl my_80 rfl ?_
            refine B_ref hE.1 rfl my_80 rfl (r := 3) rfl ?_
            refine B_iloadn rfl my_80 rfl ?_
            refine B_cV hE.1 rfl rfl cw_80_71 (as := [wi a]) (rest := []) rfl (Nat.le_of_ble_eq_true rfl) (g_writeNumber hE hA hT (by omega) (by omega)) (fun vo s1 hq => ?_)
            obtain ⟨rfl, d1, ⟨_, _, j1a, j1b⟩, hq1⟩ := hq
            have e1 := hq1.2.2.1
            have hA1 := hq1.1
            have hT1 := hq1.2.1
            show Bt E 80 74 [wr 2, wi a, wi b, wi c, wi n] [] s1 _
            refine B_aloadn rfl my_80 rfl ?_
            refine B_ref hE.1 rfl my_80 rfl (r := 3) rfl ?_
            refine B_iload rfl my_80 rfl ?_
            refine B_cV hE.1 rfl rfl cw_80_70 (as := [wi n]) (rest := []) rfl (Nat.le_of_ble_eq_true rfl) (g_write hE hA1 hT1 (by omega) (by omega)) (fun vo s2 hq => ?_)
            obtain ⟨rfl, hq2⟩ := hq
            have e2 := hq2.2.2.1
            have hA2 := hq2.1
            have hT2 := hq2.2.1
            show Bt E 80 83 [wr 2, wi a, wi b, wi c, wi n] [] s2 _
            refine B_aloadn rfl my_80 rfl ?_
            refine B_ref hE.1 rfl my_80 rfl (r := 3) rfl ?_
            refine B_iloadn rfl my_80 rfl ?_
            refine B_cV hE.1 rfl rfl cw_80_71 (as := [wi b]) (rest := []) rfl (Nat.le_of_ble_eq_true rfl) (g_writeNumber hE hA2 hT2 (by omega) (by omega)) (fun vo s3 hq => ?_)
            obtain ⟨rfl, d3, ⟨_, _, j3a, j3b⟩, hq3⟩ := hq
            have e3 := hq3.2.2.1
            have hA3 := hq3.1
            have hT3 := hq3.2.1
            show Bt E 80 91 [wr 2, wi a, wi b, wi c, wi n] [] s3 _
            refine B_aloadn rfl my_80 rfl ?_
            refine B_ref hE.1 rfl my_80 rfl (r := 3) rfl ?_
            refine B_iload rfl my_80 rfl ?_
            refine B_cV hE.1 rfl rfl cw_80_70 (as := [wi n]) (rest := []) rfl (Nat.le_of_ble_eq_true rfl) (g_write hE hA3 hT3 (by omega) (by omega)) (fun vo s4 hq => ?_)
            obtain ⟨rfl, hq4⟩ := hq
            have e4 := hq4.2.2.1
            have hA4 := hq4.1
            have hT4 := hq4.2.1
            show Bt E 80 100 [wr 2, wi a, wi b, wi c, wi n] [] s4 _
            refine B_aloadn rfl my_80 rfl ?_
            refine B_ref hE.1 rfl my_80 rfl (r := 3) rfl ?_
            refine B_iloadn rfl my_80 rfl ?_
            refine B_cV hE.1 rfl rfl cw_80_71 (as := [wi c]) (rest := []) rfl (Nat.le_of_ble_eq_true rfl) (g_writeNumber hE hA4 hT4 (by omega) (by omega)) (fun vo s5 hq => ?_)
            obtain ⟨rfl, d5, ⟨_, _, j5a, j5b⟩, hq5⟩ := hq
            have e5 := hq5.2.2.1
            have hA5 := hq5.1
            have hT5 := hq5.2.1
            show Bt E 80 108 [wr 2, wi a, wi b, wi c, wi n] [] s5 _
            refine B_aloadn rfl my_80 rfl ?_
            refine B_iconst rfl my_80 (by decide) ?_
            refine B_put hE.1 rfl my_80 rfl rfl (Or.inr ⟨rfl, Or.inl rfl⟩) ?_
            refine B_aloadn rfl my_80 rfl ?_
            refine B_ref hE.1 rfl my_80 rfl (r := 3) rfl ?_
            refine B_int hE.1 rfl my_80 rfl rfl ((al_wup hA5) _ _) (fun r21 => ?_)
            refine B_iret rfl my_80 rfl ?_
            have hz := (((hq1.tr hq2).tr hq3).tr hq4).tr hq5
            exact ⟨_, _, rfl, ⟨by omega, fun x1 x2 x3 => by have := j1a x1; have := j3a x2; have := j5b x3; omega⟩, (tq_flag hz).1, (tq_flag hz).2⟩
          · exfalso
            omega
        · exfalso
          omega
theorem l_letters {E : mE} {σ : wSt} (hE : wE E) (hT : TX σ) {a c : Int} (ha : 0 ≤ a) (hb : a < 26) (hc1 : 1 ≤ c) (hc2 : c ≤ 12) (h5 : gv σ 3 1 ≤ 440) : ∀ (k : Nat) (s : wSt) (p : Int), Tq σ s p → 0 ≤ p → p ≤ c → (c - p).toNat ≤ k → Bt E 79 54 [wr 2, wi a, wi c, wi p] [] s (fun vo t => ∃ x d, vo = some (wi x) ∧ d = c ∧ Tq σ t d ∧ gv t 2 6 = 0) := by
  intro k
  induction k with
  | zero =>
    intro s p h1 h2 h3 hm
    have e3 := h1.2.2.1
    have ht1 := hT.1
    refine B_rng 1 rfl (fun ha1 => ?_)
    refine B_rng 2 rfl (fun ha2 => ?_)
    refine B_rng 3 rfl (fun ha3 => ?_)
    refine B_iloadn rfl my_79 rfl ?_
    refine B_iloadn rfl my_79 rfl ?_
    refine B_ic_ge rfl my_79 rfl (tgt := 81) (nx := 59) rfl rfl (fun c1 => ?_) (fun c1 => ?_)
    · refine B_aloadn rfl my_79 rfl ?_
      refine B_iconst rfl my_79 (by decide) ?_
      refine B_put hE.1 rfl my_79 rfl rfl (Or.inr ⟨rfl, Or.inl rfl⟩) ?_
      refine B_aloadn rfl my_79 rfl ?_
      refine B_ref hE.1 rfl my_79 rfl (r := 3) rfl ?_
      refine B_int hE.1 rfl my_79 rfl rfl ((al_wup h1.1) _ _) (fun r2 => ?_)
      refine B_iret rfl my_79 rfl ?_
      have hz : Tq σ s c := by
        rw [show c = p by omega]
        exact h1
      exact ⟨_, _, rfl, rfl, (tq_flag hz).1, (tq_flag hz).2⟩
    · exact absurd hm (by omega)
  | succ k ih =>
    intro s p h1 h2 h3 hm
    have e3 := h1.2.2.1
    have ht1 := hT.1
    refine B_rng 1 rfl (fun ha1 => ?_)
    refine B_rng 2 rfl (fun ha2 => ?_)
    refine B_rng 3 rfl (fun ha3 => ?_)
    refine B_iloadn rfl my_79 rfl ?_
    refine B_iloadn rfl my_79 rfl ?_
    refine B_ic_ge rfl my_79 rfl (tgt := 81) (nx := 59) rfl rfl (fun c1 => ?_) (fun c1 => ?_)
    · refine B_aloadn rfl my_79 rfl ?_
      refine B_iconst rfl my_79 (by decide) ?_
      refine B_put hE.1 rfl my_79 rfl rfl (Or.inr ⟨rfl, Or.inl rfl⟩) ?_
      refine B_aloadn rfl my_79 rfl ?_
      refine B_ref hE.1 rfl my_79 rfl (r := 3) rfl ?_
      refine B_int hE.1 rfl my_79 rfl rfl ((al_wup h1.1) _ _) (fun r2 => ?_)
      refine B_iret rfl my_79 rfl ?_
      have hz : Tq σ s c := by
        rw [show c = p by omega]
        exact h1
      exact ⟨_, _, rfl, rfl, (tq_flag hz).1, (tq_flag hz).2⟩
    · refine B_aloadn rfl my_79 rfl ?_
      refine B_ref hE.1 rfl my_79 rfl (r := 3) rfl ?_
      refine B_bipush rfl my_79 (n := 20) rfl ?_
      refine B_iloadn rfl my_79 rfl ?_
      refine B_iloadn rfl my_79 rfl ?_
      refine B_iadd rfl my_79 (by omega) (by omega) ?_
      refine B_bipush rfl my_79 (n := 26) rfl ?_
      refine B_irem rfl my_79 (by omega) (by omega) ?_
      refine B_iadd rfl my_79 (by omega) (by omega) ?_
      refine B_cV hE.1 rfl rfl cw_79_70 (as := [wi (20 + ((a + p) % 26))]) (rest := []) rfl (Nat.le_of_ble_eq_true rfl) (g_write hE h1.1 h1.2.1 (by omega) (by omega)) (fun vo s1 hq => ?_)
      obtain ⟨rfl, hq1⟩ := hq
      have hA1 := hq1.1
      show Bt E 79 75 [wr 2, wi a, wi c, wi p] [] s1 _
      refine B_iinc rfl my_79 (by decide) rfl rfl rfl (by omega) (by omega) (show _ = [wr 2, wi a, wi c, wi (p + 1)] from rfl) ?_
      refine B_goto rfl my_79 rfl (tgt := 54) rfl ?_
      exact ih _ _ (h1.tr hq1) (by omega) (by omega) (by omega)
theorem g_letters {E : mE} {σ : wSt} (hE : wE E) (hA : Al σ) (hT : TX σ) {a c : Int} (h1 : 0 ≤ a) (h2 : a < 26) (h4 : 1 ≤ c) (h5 : c ≤ 12) (h3 : gv σ 3 1 ≤ 440) : Fn E 79 [wr 2, wi a, wi c] σ (fun vo s => ∃ x d, vo = some (wi x) ∧ d = c ∧ Tq σ s d ∧ gv s 2 6 = 0) := by
  have ht1 := hT.1
  have ht2 := hT.2.1
  refine Fn.of (nL := 4) ?_
  show Bt E 79 0 [wr 2, wi a, wi c, wx] [] σ _
  refine B_rng 1 rfl (fun ha1 => ?_)
  refine B_rng 2 rfl (fun ha2 => ?_)
  refine B_iloadn rfl my_79 rfl ?_
  refine B_if_lt rfl my_79 rfl (tgt := 21) (nx := 4) rfl rfl (fun c1 => ?_) (fun c1 => ?_)
  · exfalso
    omega
  · refine B_iloadn rfl my_79 rfl ?_
    refine B_bipush rfl my_79 (n := 26) rfl ?_
    refine B_ic_ge rfl my_79 rfl (tgt := 21) (nx := 10) rfl rfl (fun c2 => ?_) (fun c2 => ?_)
    · exfalso
      omega
    · refine B_iloadn rfl my_79 rfl ?_
      refine B_iconst rfl my_79 (by decide) ?_
      refine B_ic_lt rfl my_79 rfl (tgt := 21) (nx := 15) rfl rfl (fun c3 => ?_) (fun c3 => ?_)
      · exfalso
        omega
      · refine B_iloadn rfl my_79 rfl ?_
        refine B_bipush rfl my_79 (n := 12) rfl ?_
        refine B_ic_le rfl my_79 rfl (tgt := 31) (nx := 21) rfl rfl (fun c4 => ?_) (fun c4 => ?_)
        · refine B_aloadn rfl my_79 rfl ?_
          refine B_ref hE.1 rfl my_79 rfl (r := 3) rfl ?_
          refine B_iloadn rfl my_79 rfl ?_
          refine B_cV hE.1 rfl rfl cw_79_69 (as := [wi c]) (rest := []) rfl (Nat.le_of_ble_eq_true rfl) (g_hasRoomFor hE hA hT (by omega) (by omega)) (fun vo s9 hq => ?_)
          obtain ⟨x5, rfl, ⟨hz6, q36⟩, rfl⟩ := hq
          show Bt E 79 39 [wr 2, wi a, wi c, wx] [wi x5] σ _
          refine B_top (fun r7 => ?_)
          refine B_if_ne rfl my_79 rfl (tgt := 52) (nx := 42) rfl rfl (fun c8 => ?_) (fun c8 => ?_)
          · refine B_iconst rfl my_79 (by decide) ?_
            refine B_istoren rfl my_79 (by decide) rfl (show _ = [wr 2, wi a, wi c, wi 0] from rfl) ?_
            exact l_letters hE hT h1 h2 h4 h5 h3 _ σ 0 ⟨hA, hT, by omega, Off.rf⟩ (by omega) (by omega) (Nat.le_refl _)
          · exfalso
            omega
        · exfalso
          omega
theorem g_unsettleAll {E : mE} {σ : wSt} (hE : wE E) : Mv E 112 [wr 2] σ (us σ) := by
  refine Fn.of (nL := 1) ?_
  show Bt E 112 0 [wr 2] [] σ _
  refine B_aloadn rfl my_112 rfl ?_
  refine B_ref hE.1 rfl my_112 rfl (r := 11) rfl ?_
  refine B_iconst rfl my_112 (by decide) ?_
  refine B_put hE.1 rfl my_112 rfl rfl (Or.inr ⟨rfl, Or.inl rfl⟩) ?_
  refine B_aloadn rfl my_112 rfl ?_
  refine B_ref hE.1 rfl my_112 rfl (r := 46) rfl ?_
  refine B_iconst rfl my_112 (by decide) ?_
  refine B_put hE.1 rfl my_112 rfl rfl (Or.inr ⟨rfl, Or.inl rfl⟩) ?_
  refine B_aloadn rfl my_112 rfl ?_
  refine B_ref hE.1 rfl my_112 rfl (r := 81) rfl ?_
  refine B_iconst rfl my_112 (by decide) ?_
  refine B_put hE.1 rfl my_112 rfl rfl (Or.inr ⟨rfl, Or.inl rfl⟩) ?_
  refine B_aloadn rfl my_112 rfl ?_
  refine B_ref hE.1 rfl my_112 rfl (r := 116) rfl ?_
  refine B_iconst rfl my_112 (by decide) ?_
  refine B_put hE.1 rfl my_112 rfl rfl (Or.inr ⟨rfl, Or.inl rfl⟩) ?_
  refine B_ret rfl my_112 rfl ?_
  exact ⟨rfl, rfl⟩
theorem g_tell {E : mE} {σ : wSt} (hE : wE E) {a n : Int} (hk : kr σ 7 3 a) (h1 : 0 ≤ a) (h2 : a ≤ 2) (h3 : -1 ≤ n) (h4 : n ≤ 1 ∨ a = 0 ∧ n ≤ 3) : Fvs E 81 [wr 2, wi a, wi n] σ (wi (rd σ 7 3 a)) (us (pt σ 7 3 a n)) := by
  refine Fn.of (nL := 4) ?_
  show Bt E 81 0 [wr 2, wi a, wi n, wx] [] σ _
  refine B_rng 1 rfl (fun ha1 => ?_)
  refine B_rng 2 rfl (fun ha2 => ?_)
  refine B_iloadn rfl my_81 rfl ?_
  refine B_if_lt rfl my_81 rfl (tgt := 9) (nx := 4) rfl rfl (fun c1 => ?_) (fun c1 => ?_)
  · exfalso
    omega
  · refine B_iloadn rfl my_81 rfl ?_
    refine B_iconst rfl my_81 (by decide) ?_
    refine B_ic_le rfl my_81 rfl (tgt := 19) (nx := 9) rfl rfl (fun c2 => ?_) (fun c2 => ?_)
    · refine B_iloadn rfl my_81 rfl ?_
      refine B_iconst rfl my_81 (by decide) ?_
      refine B_ic_lt rfl my_81 rfl (tgt := 37) (nx := 24) rfl rfl (fun c3 => ?_) (fun c3 => ?_)
      · exfalso
        omega
      · refine B_iloadn rfl my_81 rfl ?_
        refine B_iloadn rfl my_81 rfl ?_
        refine B_if_ne rfl my_81 rfl (tgt := 33) (nx := 29) rfl rfl (fun c4 => ?_) (fun c4 => ?_)
        · refine B_iconst rfl my_81 (by decide) ?_
          refine B_ic_le rfl my_81 rfl (tgt := 47) (nx := 37) rfl rfl (fun c5 => ?_) (fun c5 => ?_)
          · refine B_aloadn rfl my_81 rfl ?_
            refine B_ref hE.1 rfl my_81 rfl (r := 6) rfl ?_
            refine B_ref hE.1 rfl my_81 rfl (r := 7) rfl ?_
            refine B_iloadn rfl my_81 rfl ?_
            refine B_cV hE.1 rfl nmc_7.1 cw_81_20 (as := [wi a]) (rest := []) rfl (Nat.le_of_ble_eq_true rfl) (g_at hE nmc_7 (by decide) hk) (fun vo s9 hq => ?_)
            obtain ⟨rfl, rfl⟩ := hq
            show Bt E 81 58 [wr 2, wi a, wi n, wx] [wi (rd σ 7 3 a)] σ _
            refine B_top (fun r6 => ?_)
            refine B_istoren rfl my_81 (by decide) rfl (show _ = [wr 2, wi a, wi n, wi (rd σ 7 3 a)] from rfl) ?_
            refine B_aloadn rfl my_81 rfl ?_
            refine B_ref hE.1 rfl my_81 rfl (r := 6) rfl ?_
            refine B_ref hE.1 rfl my_81 rfl (r := 7) rfl ?_
            refine B_iloadn rfl my_81 rfl ?_
            refine B_iloadn rfl my_81 rfl ?_
            refine B_cV hE.1 rfl nmc_7.1 cw_81_21 (as := [wi a, wi n]) (rest := []) rfl (Nat.le_of_ble_eq_true rfl) (g_put hE nmc_7 (by decide)) (fun vo s9 hq => ?_)
            obtain ⟨rfl, rfl⟩ := hq
            show Bt E 81 71 [wr 2, wi a, wi n, wi (rd σ 7 3 a)] [] (pt σ 7 3 a n) _
            refine B_aloadn rfl my_81 rfl ?_
            refine B_cV hE.1 rfl rfl cw_81_112 (as := []) (rest := []) rfl (Nat.le_of_ble_eq_true rfl) (g_unsettleAll hE) (fun vo s9 hq => ?_)
            obtain ⟨rfl, rfl⟩ := hq
            show Bt E 81 75 [wr 2, wi a, wi n, wi (rd σ 7 3 a)] [] (us (pt σ 7 3 a n)) _
            refine B_iloadn rfl my_81 rfl ?_
            refine B_iret rfl my_81 rfl ?_
            exact ⟨rfl, rfl⟩
          · exfalso
            omega
        · refine B_iconst rfl my_81 (by decide) ?_
          refine B_goto rfl my_81 rfl (tgt := 34) rfl ?_
          refine B_ic_le rfl my_81 rfl (tgt := 47) (nx := 37) rfl rfl (fun c7 => ?_) (fun c7 => ?_)
          · refine B_aloadn rfl my_81 rfl ?_
            refine B_ref hE.1 rfl my_81 rfl (r := 6) rfl ?_
            refine B_ref hE.1 rfl my_81 rfl (r := 7) rfl ?_
            refine B_iloadn rfl my_81 rfl ?_
            refine B_cV hE.1 rfl nmc_7.1 cw_81_20 (as := [wi a]) (rest := []) rfl (Nat.le_of_ble_eq_true rfl) (g_at hE nmc_7 (by decide) hk) (fun vo s9 hq => ?_)
            obtain ⟨rfl, rfl⟩ := hq
            show Bt E 81 58 [wr 2, wi a, wi n, wx] [wi (rd σ 7 3 a)] σ _
            refine B_top (fun r8 => ?_)
            refine B_istoren rfl my_81 (by decide) rfl (show _ = [wr 2, wi a, wi n, wi (rd σ 7 3 a)] from rfl) ?_
            refine B_aloadn rfl my_81 rfl ?_
            refine B_ref hE.1 rfl my_81 rfl (r := 6) rfl ?_
            refine B_ref hE.1 rfl my_81 rfl (r := 7) rfl ?_
            refine B_iloadn rfl my_81 rfl ?_
            refine B_iloadn rfl my_81 rfl ?_
            refine B_cV hE.1 rfl nmc_7.1 cw_81_21 (as := [wi a, wi n]) (rest := []) rfl (Nat.le_of_ble_eq_true rfl) (g_put hE nmc_7 (by decide)) (fun vo s9 hq => ?_)
            obtain ⟨rfl, rfl⟩ := hq
            show Bt E 81 71 [wr 2, wi a, wi n, wi (rd σ 7 3 a)] [] (pt σ 7 3 a n) _
            refine B_aloadn rfl my_81 rfl ?_
            refine B_cV hE.1 rfl rfl cw_81_112 (as := []) (rest := []) rfl (Nat.le_of_ble_eq_true rfl) (g_unsettleAll hE) (fun vo s9 hq => ?_)
            obtain ⟨rfl, rfl⟩ := hq
            show Bt E 81 75 [wr 2, wi a, wi n, wi (rd σ 7 3 a)] [] (us (pt σ 7 3 a n)) _
            refine B_iloadn rfl my_81 rfl ?_
            refine B_iret rfl my_81 rfl ?_
            exact ⟨rfl, rfl⟩
          · exfalso
            omega
    · exfalso
      omega
theorem g_setShare {E : mE} {σ : wSt} (hE : wE E) {n : Int} (hk : kn σ 6 2) (h1 : 1 ≤ n) (h2 : n ≤ 100) : Fvs E 82 [wr 2, wi n] σ (wi (gv σ 6 2)) (us (wup σ 6 2 n)) := by
  refine Fn.of (nL := 3) ?_
  show Bt E 82 0 [wr 2, wi n, wx] [] σ _
  refine B_rng 1 rfl (fun ha1 => ?_)
  refine B_iloadn rfl my_82 rfl ?_
  refine B_cS rfl cw_82_107_0 (as := [wi n]) (rest := []) rfl (Nat.le_of_ble_eq_true rfl) (g_isShare hE) (fun vo s9 hq => ?_)
  obtain ⟨x1, rfl, hz2, rfl⟩ := hq
  show Bt E 82 4 [wr 2, wi n, wx] [wi x1] σ _
  refine B_top (fun r3 => ?_)
  refine B_if_ne rfl my_82 rfl (tgt := 17) (nx := 7) rfl rfl (fun c4 => ?_) (fun c4 => ?_)
  · refine B_aloadn rfl my_82 rfl ?_
    refine B_ref hE.1 rfl my_82 rfl (r := 6) rfl ?_
    refine B_int hE.1 rfl my_82 rfl rfl hk (fun r5 => ?_)
    refine B_istoren rfl my_82 (by decide) rfl (show _ = [wr 2, wi n, wi (gv σ 6 2)] from rfl) ?_
    refine B_aloadn rfl my_82 rfl ?_
    refine B_ref hE.1 rfl my_82 rfl (r := 6) rfl ?_
    refine B_iloadn rfl my_82 rfl ?_
    refine B_put hE.1 rfl my_82 rfl rfl (Or.inl rfl) ?_
    refine B_aloadn rfl my_82 rfl ?_
    refine B_cV hE.1 rfl rfl cw_82_112 (as := []) (rest := []) rfl (Nat.le_of_ble_eq_true rfl) (g_unsettleAll hE) (fun vo s9 hq => ?_)
    obtain ⟨rfl, rfl⟩ := hq
    show Bt E 82 37 [wr 2, wi n, wi (gv σ 6 2)] [] (us (wup σ 6 2 n)) _
    refine B_iloadn rfl my_82 rfl ?_
    refine B_iret rfl my_82 rfl ?_
    exact ⟨rfl, rfl⟩
  · exfalso
    omega
theorem g_setRule {E : mE} {σ : wSt} (hE : wE E) {a n : Int} (hk : kr σ 9 20 a) (h1 : 0 ≤ a) (h2 : a < 20) (h3 : 0 ≤ n) (h4 : n ≤ 3) : Fvs E 83 [wr 2, wi a, wi n] σ (wi (rd σ 9 20 a)) (us (pt σ 9 20 a n)) := by
  refine Fn.of (nL := 4) ?_
  show Bt E 83 0 [wr 2, wi a, wi n, wx] [] σ _
  refine B_rng 1 rfl (fun ha1 => ?_)
  refine B_rng 2 rfl (fun ha2 => ?_)
  refine B_iloadn rfl my_83 rfl ?_
  refine B_if_lt rfl my_83 rfl (tgt := 10) (nx := 4) rfl rfl (fun c1 => ?_) (fun c1 => ?_)
  · exfalso
    omega
  · refine B_iloadn rfl my_83 rfl ?_
    refine B_bipush rfl my_83 (n := 20) rfl ?_
    refine B_ic_lt rfl my_83 rfl (tgt := 20) (nx := 10) rfl rfl (fun c2 => ?_) (fun c2 => ?_)
    · refine B_iloadn rfl my_83 rfl ?_
      refine B_if_lt rfl my_83 rfl (tgt := 29) (nx := 24) rfl rfl (fun c3 => ?_) (fun c3 => ?_)
      · exfalso
        omega
      · refine B_iloadn rfl my_83 rfl ?_
        refine B_iconst rfl my_83 (by decide) ?_
        refine B_ic_le rfl my_83 rfl (tgt := 39) (nx := 29) rfl rfl (fun c4 => ?_) (fun c4 => ?_)
        · refine B_aloadn rfl my_83 rfl ?_
          refine B_ref hE.1 rfl my_83 rfl (r := 6) rfl ?_
          refine B_ref hE.1 rfl my_83 rfl (r := 9) rfl ?_
          refine B_iloadn rfl my_83 rfl ?_
          refine B_cV hE.1 rfl nmc_9.1 cw_83_20 (as := [wi a]) (rest := []) rfl (Nat.le_of_ble_eq_true rfl) (g_at hE nmc_9 (by decide) hk) (fun vo s9 hq => ?_)
          obtain ⟨rfl, rfl⟩ := hq
          show Bt E 83 50 [wr 2, wi a, wi n, wx] [wi (rd σ 9 20 a)] σ _
          refine B_top (fun r5 => ?_)
          refine B_istoren rfl my_83 (by decide) rfl (show _ = [wr 2, wi a, wi n, wi (rd σ 9 20 a)] from rfl) ?_
          refine B_aloadn rfl my_83 rfl ?_
          refine B_ref hE.1 rfl my_83 rfl (r := 6) rfl ?_
          refine B_ref hE.1 rfl my_83 rfl (r := 9) rfl ?_
          refine B_iloadn rfl my_83 rfl ?_
          refine B_iloadn rfl my_83 rfl ?_
          refine B_cV hE.1 rfl nmc_9.1 cw_83_21 (as := [wi a, wi n]) (rest := []) rfl (Nat.le_of_ble_eq_true rfl) (g_put hE nmc_9 (by decide)) (fun vo s9 hq => ?_)
          obtain ⟨rfl, rfl⟩ := hq
          show Bt E 83 63 [wr 2, wi a, wi n, wi (rd σ 9 20 a)] [] (pt σ 9 20 a n) _
          refine B_aloadn rfl my_83 rfl ?_
          refine B_cV hE.1 rfl rfl cw_83_112 (as := []) (rest := []) rfl (Nat.le_of_ble_eq_true rfl) (g_unsettleAll hE) (fun vo s9 hq => ?_)
          obtain ⟨rfl, rfl⟩ := hq
          show Bt E 83 67 [wr 2, wi a, wi n, wi (rd σ 9 20 a)] [] (us (pt σ 9 20 a n)) _
          refine B_iloadn rfl my_83 rfl ?_
          refine B_iret rfl my_83 rfl ?_
          exact ⟨rfl, rfl⟩
        · exfalso
          omega
    · exfalso
      omega
theorem g_mustBeFilled {E : mE} {σ : wSt} (hE : wE E) {a : Int} (hk : kr σ 9 20 a) : Ev E 74 [wr 6, wi a] σ (fun x => x = 0 ∨ x = 1) := by
  refine Fn.of (nL := 3) ?_
  show Bt E 74 0 [wr 6, wi a, wx] [] σ _
  refine B_rng 1 rfl (fun ha1 => ?_)
  refine B_aloadn rfl my_74 rfl ?_
  refine B_ref hE.1 rfl my_74 rfl (r := 9) rfl ?_
  refine B_iloadn rfl my_74 rfl ?_
  refine B_cV hE.1 rfl nmc_9.1 cw_74_20 (as := [wi a]) (rest := []) rfl (Nat.le_of_ble_eq_true rfl) (g_at hE nmc_9 (by decide) hk) (fun vo s9 hq => ?_)
  obtain ⟨rfl, rfl⟩ := hq
  show Bt E 74 8 [wr 6, wi a, wx] [wi (rd σ 9 20 a)] σ _
  refine B_top (fun r1 => ?_)
  refine B_istoren rfl my_74 (by decide) rfl (show _ = [wr 6, wi a, wi (rd σ 9 20 a)] from rfl) ?_
  refine B_iloadn rfl my_74 rfl ?_
  refine B_iconst rfl my_74 (by decide) ?_
  refine B_ic_eq rfl my_74 rfl (tgt := 19) (nx := 14) rfl rfl (fun c2 => ?_) (fun c2 => ?_)
  · refine B_iconst rfl my_74 (by decide) ?_
    refine B_goto rfl my_74 rfl (tgt := 24) rfl ?_
    refine B_bret rfl my_74 rfl (by omega) ?_
    exact ⟨_, rfl, by omega, rfl⟩
  · refine B_iloadn rfl my_74 rfl ?_
    refine B_iconst rfl my_74 (by decide) ?_
    refine B_ic_ne rfl my_74 rfl (tgt := 23) (nx := 19) rfl rfl (fun c3 => ?_) (fun c3 => ?_)
    · refine B_iconst rfl my_74 (by decide) ?_
      refine B_bret rfl my_74 rfl (by omega) ?_
      exact ⟨_, rfl, by omega, rfl⟩
    · refine B_iconst rfl my_74 (by decide) ?_
      refine B_goto rfl my_74 rfl (tgt := 24) rfl ?_
      refine B_bret rfl my_74 rfl (by omega) ?_
      exact ⟨_, rfl, by omega, rfl⟩
theorem g_mustDiffer {E : mE} {σ : wSt} (hE : wE E) {a : Int} (hk : kr σ 9 20 a) : Ev E 75 [wr 6, wi a] σ (fun x => x = 0 ∨ x = 1) := by
  refine Fn.of (nL := 3) ?_
  show Bt E 75 0 [wr 6, wi a, wx] [] σ _
  refine B_rng 1 rfl (fun ha1 => ?_)
  refine B_aloadn rfl my_75 rfl ?_
  refine B_ref hE.1 rfl my_75 rfl (r := 9) rfl ?_
  refine B_iloadn rfl my_75 rfl ?_
  refine B_cV hE.1 rfl nmc_9.1 cw_75_20 (as := [wi a]) (rest := []) rfl (Nat.le_of_ble_eq_true rfl) (g_at hE nmc_9 (by decide) hk) (fun vo s9 hq => ?_)
  obtain ⟨rfl, rfl⟩ := hq
  show Bt E 75 8 [wr 6, wi a, wx] [wi (rd σ 9 20 a)] σ _
  refine B_top (fun r1 => ?_)
  refine B_istoren rfl my_75 (by decide) rfl (show _ = [wr 6, wi a, wi (rd σ 9 20 a)] from rfl) ?_
  refine B_iloadn rfl my_75 rfl ?_
  refine B_iconst rfl my_75 (by decide) ?_
  refine B_ic_eq rfl my_75 rfl (tgt := 19) (nx := 14) rfl rfl (fun c2 => ?_) (fun c2 => ?_)
  · refine B_iconst rfl my_75 (by decide) ?_
    refine B_goto rfl my_75 rfl (tgt := 24) rfl ?_
    refine B_bret rfl my_75 rfl (by omega) ?_
    exact ⟨_, rfl, by omega, rfl⟩
  · refine B_iloadn rfl my_75 rfl ?_
    refine B_iconst rfl my_75 (by decide) ?_
    refine B_ic_ne rfl my_75 rfl (tgt := 23) (nx := 19) rfl rfl (fun c3 => ?_) (fun c3 => ?_)
    · refine B_iconst rfl my_75 (by decide) ?_
      refine B_bret rfl my_75 rfl (by omega) ?_
      exact ⟨_, rfl, by omega, rfl⟩
    · refine B_iconst rfl my_75 (by decide) ?_
      refine B_goto rfl my_75 rfl (tgt := 24) rfl ?_
      refine B_bret rfl my_75 rfl (by omega) ?_
      exact ⟨_, rfl, by omega, rfl⟩
/-- the table of a parter -/
def tof (p : Int) : Nat := if p = 0 then 11 else if p = 1 then 46 else if p = 2 then 81 else 116
theorem tof_tb (p : Int) : Tb (tof p) := by
  unfold tof
  by_cases h0 : p = 0
  · rw [if_pos h0]; exact Or.inl rfl
  · rw [if_neg h0]
    by_cases h1 : p = 1
    · rw [if_pos h1]; exact Or.inr (Or.inl rfl)
    · rw [if_neg h1]
      by_cases h2 : p = 2
      · rw [if_pos h2]; exact Or.inr (Or.inr (Or.inl rfl))
      · rw [if_neg h2]; exact Or.inr (Or.inr (Or.inr rfl))
theorem g_tableWith {E : mE} {σ : wSt} (hE : wE E) {n : Int} (h1 : 0 ≤ n) (h2 : n ≤ 3) : Gv E 110 [wr 2, wi n] σ (wr (tof n)) := by
  refine Fn.of (nL := 2) ?_
  show Bt E 110 0 [wr 2, wi n] [] σ _
  refine B_rng 1 rfl (fun ha1 => ?_)
  refine B_iloadn rfl my_110 rfl ?_
  refine B_switch rfl my_110 rfl (fun c1 => ?_) (fun c1a c1b => ?_)
  · show Bt E 110 43 _ _ _ _
    refine B_aloadn rfl my_110 rfl ?_
    refine B_ref hE.1 rfl my_110 rfl (r := 116) rfl ?_
    refine B_aret rfl my_110 rfl ?_
    refine ⟨?_, rfl⟩
    unfold tof
    rw [if_neg (by omega), if_neg (by omega), if_neg (by omega)]
  · have c1 : n = 0 ∨ n = 1 ∨ n = 2 := by omega
    rcases c1 with c1 | c1 | c1
    · refine ⟨27, by rw [c1]; rfl, rfl, ?_⟩
      show Bt E 110 28 _ _ _ _
      refine B_aloadn rfl my_110 rfl ?_
      refine B_ref hE.1 rfl my_110 rfl (r := 11) rfl ?_
      refine B_aret rfl my_110 rfl ?_
      refine ⟨?_, rfl⟩
      unfold tof
      rw [if_pos (by omega)]
    · refine ⟨32, by rw [c1]; rfl, rfl, ?_⟩
      show Bt E 110 33 _ _ _ _
      refine B_aloadn rfl my_110 rfl ?_
      refine B_ref hE.1 rfl my_110 rfl (r := 46) rfl ?_
      refine B_aret rfl my_110 rfl ?_
      refine ⟨?_, rfl⟩
      unfold tof
      rw [if_neg (by omega), if_pos (by omega)]
    · refine ⟨37, by rw [c1]; rfl, rfl, ?_⟩
      show Bt E 110 38 _ _ _ _
      refine B_aloadn rfl my_110 rfl ?_
      refine B_ref hE.1 rfl my_110 rfl (r := 81) rfl ?_
      refine B_aret rfl my_110 rfl ?_
      refine ⟨?_, rfl⟩
      unfold tof
      rw [if_neg (by omega), if_neg (by omega), if_pos (by omega)]
