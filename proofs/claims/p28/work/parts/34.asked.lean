/-! ===== a settled table is asked: cells, faults, repeats ===== -/
theorem cw_2_20 : wcV 2 0 20 1 1 1 = true := by decide +kernel
theorem cw_3_20 : wcV 3 0 20 1 1 1 = true := by decide +kernel
theorem cw_54_33 : wcV 54 0 33 2 0 0 = true := by decide +kernel
theorem cw_57_33 : wcV 57 0 33 2 0 0 = true := by decide +kernel
theorem cw_57_38 : wcV 57 0 38 2 0 0 = true := by decide +kernel
theorem cw_58_20 : wcV 58 0 20 1 1 1 = true := by decide +kernel
theorem cw_60_20 : wcV 60 0 20 1 1 1 = true := by decide +kernel
theorem cw_60_36 : wcV 60 0 36 2 2 2 = true := by decide +kernel
theorem Fn.post {E : mE} {k : Nat} {as : List wV} {σ : wSt} {Q Q' : Option wV → wSt → Prop} (h : Fn E k as σ Q) (hP : ∀ vo s, Q vo s → ∃ s', Sub s' s ∧ Q' vo s') : Fn E k as σ Q' := fun ho => by
  obtain ⟨vo, s, hq, f⟩ := h ho
  obtain ⟨s', h1, h2⟩ := hP vo s hq
  refine ⟨vo, s', h2, fun asc hh a1 a2 => ?_⟩
  obtain ⟨vo', v, h', σ', r1, r2, r3, rfl, rfl⟩ := f asc hh a1 a2
  exact ⟨vo', v, h', s', r1, r2, r3.sub h1, rfl, rfl⟩
/-- the tally is not known -/
def NTy (T : Nat) (σ : wSt) : Prop := ∀ b, ¬ kn σ (T + 34) b
theorem nty_sub {T : Nat} {σ s : wSt} (h : NTy T σ) (ho : Off (fun a => a = T + 34) σ s) : Sub σ s := fun a b hk => by
  have ha : a ≠ T + 34 := fun e => by
    subst e
    exact h b hk
  exact ⟨(off_kn ho ha).mpr hk, (off_gv ho ha).symm⟩
/-- cells of a column that are not empty, from row f on, n rows; cells at all; marks of repeats -/
def fln (σ : wSt) (T : Nat) (c f : Int) : Nat → Int
  | 0 => 0
  | n + 1 => fln σ T c f n + (if ca σ T (f + (n : Int)) c ≠ -1 ∧ rd σ (T + 25) 501 (ca σ T (f + (n : Int)) c) ≠ 0 then 1 else 0)
def nce (σ : wSt) (T : Nat) (c f : Int) : Nat → Int
  | 0 => 0
  | n + 1 => nce σ T c f n + (if ca σ T (f + (n : Int)) c ≠ -1 then 1 else 0)
def rpn (σ : wSt) (T : Nat) (c f : Int) : Nat → Int
  | 0 => 0
  | n + 1 => rpn σ T c f n + (if ca σ T (f + (n : Int)) c = -1 then 0 else rd σ (T + 29) 501 (ca σ T (f + (n : Int)) c))
theorem ctn_sum {σ : wSt} {T : Nat} {c f : Int} (hI : RI T σ) (hs : SK T σ) : ∀ n : Nat, ctn σ T c 1 f n + ctn σ T c 2 f n + ctn σ T c 3 f n + ctn σ T c 4 f n + ctn σ T c 5 f n = fln σ T c f n ∧ ctn σ T c 0 f n + fln σ T c f n = nce σ T c f n := by
  intro n
  induction n with
  | zero => exact ⟨rfl, rfl⟩
  | succ n ih =>
    unfold ctn fln nce
    by_cases e : ca σ T (f + (n : Int)) c = -1
    · simp only [e, ne_eq, not_true_eq_false, false_and, if_false]
      omega
    · have hv := (ca_c hI (r := f + (n : Int)) (c := c)).resolve_left (fun g => e g.1)
      have hk := hs _ hv.2.2.1 hv.2.2.2
      simp only [e, ne_eq, not_false_eq_true, true_and, if_true]
      generalize rd σ (T + 25) 501 (ca σ T (f + (n : Int)) c) = x at hk ⊢
      have hx : x = 0 ∨ x = 1 ∨ x = 2 ∨ x = 3 ∨ x = 4 ∨ x = 5 := by omega
      rcases hx with rfl | rfl | rfl | rfl | rfl | rfl <;> simp <;> omega
theorem fln_rng {σ : wSt} {T : Nat} {c f : Int} : ∀ n : Nat, 0 ≤ fln σ T c f n ∧ fln σ T c f n ≤ n := by
  intro n
  induction n with
  | zero => exact ⟨Int.le_refl _, Int.le_refl _⟩
  | succ n ih =>
    unfold fln
    split
    · omega
    · omega
theorem fln_one {σ : wSt} {T : Nat} {c f z : Int} (h1 : f ≤ z) (h3 : ca σ T z c ≠ -1) (h4 : rd σ (T + 25) 501 (ca σ T z c) ≠ 0) : ∀ n : Nat, z < f + (n : Int) → 1 ≤ fln σ T c f n := by
  intro n
  induction n with
  | zero => intro h; omega
  | succ n ih =>
    intro h
    unfold fln
    by_cases e : z = f + (n : Int)
    · rw [← e, if_pos ⟨h3, h4⟩]
      have := (fln_rng (σ := σ) (T := T) (c := c) (f := f) n).1
      omega
    · have := ih (by omega)
      split
      · omega
      · omega
theorem rpn_le {σ : wSt} {T : Nat} {c : Int} (hI : RI T σ) (hs : SK T σ) (hp : ∀ r, gv σ T 10 ≤ r → r < gv σ (T + 1) 9 → ca σ T r c ≠ -1 → RPf σ σ T c r) : ∀ n : Nat, gv σ T 10 + (n : Int) ≤ gv σ (T + 1) 9 ∨ n = 0 → 0 ≤ rpn σ T c (gv σ T 10) n ∧ rpn σ T c (gv σ T 10) n ≤ fln σ T c (gv σ T 10) n ∧ (0 < fln σ T c (gv σ T 10) n → rpn σ T c (gv σ T 10) n < fln σ T c (gv σ T 10) n) := by
  intro n
  induction n with
  | zero => intro _; exact ⟨Int.le_refl _, Int.le_refl _, fun h => absurd h (Int.lt_irrefl _)⟩
  | succ n ih =>
    intro h
    obtain ⟨g0, g1, g2⟩ := ih (by omega)
    unfold rpn fln
    by_cases e : ca σ T (gv σ T 10 + (n : Int)) c = -1
    · rw [if_pos e, if_neg (fun x => x.1 e)]
      exact ⟨by omega, by omega, fun _ => by omega⟩
    · rw [if_neg e]
      obtain ⟨-, f1, f2⟩ := hp (gv σ T 10 + (n : Int)) (by omega) (by omega) e
      have hv := (ca_c hI (r := gv σ T 10 + (n : Int)) (c := c)).resolve_left (fun g => e g.1)
      by_cases k : rd σ (T + 25) 501 (ca σ T (gv σ T 10 + (n : Int)) c) = 0
      · rw [if_neg (fun x => x.2 k)]
        have : rd σ (T + 29) 501 (ca σ T (gv σ T 10 + (n : Int)) c) = 0 := f1.resolve_right (fun x => (f2 x).1 k)
        rw [this]
        exact ⟨by omega, by omega, fun _ => by omega⟩
      · rw [if_pos ⟨e, k⟩]
        rcases f1 with f1 | f1
        · rw [f1]
          exact ⟨by omega, by omega, fun _ => by omega⟩
        · rw [f1]
          obtain ⟨-, z, z1, z2, z3, z4⟩ := f2 f1
          have hw := (ca_c hI (r := z) (c := c)).resolve_left (fun g => z3 g.1)
          have q1 := hs _ hv.2.2.1 hv.2.2.2
          have q2 := hs _ hw.2.2.1 hw.2.2.2
          have := fln_one (f := gv σ T 10) z1 z3 (fun x => k (q1.2.2.mpr (by rw [← z4]; exact q2.2.2.mp x))) n z2
          have := g2 (by omega)
          exact ⟨by omega, by omega, fun _ => by omega⟩
/-- faults of a column among the first n -/
def icn (σ : wSt) (T : Nat) (c : Int) : Nat → Int
  | 0 => 0
  | n + 1 => icn σ T c n + (if rd σ (T + 19) 561 (n : Int) = c then 1 else 0)
theorem icn_rng {σ : wSt} {T : Nat} {c : Int} : ∀ n : Nat, 0 ≤ icn σ T c n ∧ icn σ T c n ≤ n := by
  intro n
  induction n with
  | zero => exact ⟨Int.le_refl _, Int.le_refl _⟩
  | succ n ih =>
    unfold icn
    split
    · omega
    · omega
/-- the value in a kept row -/
def vi (σ : wSt) (T : Nat) (q c : Int) : Int := if rd σ (T + 31) 20 c = 5 then rd σ (T + 6) 501 (ca σ T (rd σ (T + 23) 60 q) c) else if rd σ (T + 31) 20 c = 2 ∧ rd σ (T + 25) 501 (ca σ T (rd σ (T + 23) 60 q) c) = 1 then w32 (1000 * rd σ (T + 27) 501 (ca σ T (rd σ (T + 23) 60 q) c)) else rd σ (T + 27) 501 (ca σ T (rd σ (T + 23) 60 q) c)
/-- sum of the values of the first n kept rows; how many of them are filled -/
def sv (σ : wSt) (T : Nat) (c : Int) : Nat → Int
  | 0 => 0
  | n + 1 => sv σ T c n + vi σ T (n : Int) c
def cfl (σ : wSt) (T : Nat) (c : Int) : Nat → Int
  | 0 => 0
  | n + 1 => cfl σ T c n + (if rd σ (T + 25) 501 (ca σ T (rd σ (T + 23) 60 (n : Int)) c) ≠ 0 then 1 else 0)
theorem SIt.hR {T : Nat} {σ : wSt} (h : SIt T σ) : KRd T σ := h.1.1
theorem SIt.hI {T : Nat} {σ : wSt} (h : SIt T σ) : RI T σ := h.1.2
theorem SIt.kk {T : Nat} {σ : wSt} (h : SIt T σ) : KK T σ := kv_kk2 h.2.2.1
theorem SIt.sk {T : Nat} {σ : wSt} (h : SIt T σ) : SK T σ := kv_sk h.2.2.1
theorem SIt.kv {T : Nat} {σ : wSt} {r c : Int} (h : SIt T σ) : kr σ (T + 27) 501 (ca σ T r c) := fun h1 h2 => by
  rcases ca_c h.hI (r := r) (c := c) with g | ⟨g, g1, g2, g3⟩
  · omega
  · exact (h.2.2.1 _ g2 g3).2.1 h1 h2
theorem SIt.kp {T : Nat} {σ : wSt} {q : Int} (h : SIt T σ) (h1 : 0 ≤ q) (h2 : q < gv σ T 11) : kr σ (T + 23) 60 q := (h.2.2.2.2.2.2.2.2.1 q h1 h2).1
theorem SIt.ck {T : Nat} {σ : wSt} {c : Int} (h : SIt T σ) (h1 : 0 ≤ c) (h2 : c < min (gv σ (T + 1) 12) 20) : kr σ (T + 31) 20 c := (h.2.2.2.1 c h1 h2).1
theorem g_hasColumn {E : mE} {σ : wSt} {T : Nat} (hE : wE E) (hT : Tb T) (hS : SIt T σ) {c : Int} : Ev E 54 [wr T, wi c] σ (fun x => (x = 0 ∨ x = 1) ∧ (x = 1 ↔ 0 ≤ c ∧ c < min (gv σ (T + 1) 12) 20)) := by
  refine Fn.of (nL := 2) ?_
  show Bt E 54 0 [wr T, wi c] [] σ _
  refine B_rng 1 rfl (fun ha1 => ?_)
  refine B_iloadn rfl my_54 rfl ?_
  refine B_if_lt rfl my_54 rfl (tgt := 19) (nx := 4) rfl rfl (fun c1 => ?_) (fun c1 => ?_)
  · refine B_iconst rfl my_54 (by decide) ?_
    refine B_bret rfl my_54 rfl (by omega) ?_
    exact ⟨_, rfl, ⟨by omega, by omega⟩, rfl⟩
  · refine B_iloadn rfl my_54 rfl ?_
    refine B_aloadn rfl my_54 rfl ?_
    refine B_ref hE.1 rfl my_54 rfl (r := (T + 1)) (wf_0_0 hT) ?_
    refine B_cV hE.1 rfl (wc_1 hT) cw_54_33 (as := []) (rest := [wi c]) rfl (Nat.le_of_ble_eq_true rfl) (g_columnCount hE hT hS.hR) (fun vo s9 hq => ?_)
    obtain ⟨rfl, rfl⟩ := hq
    show Bt E 54 12 [wr T, wi c] [wi (min (gv σ (T + 1) 12) 20), wi c] σ _
    refine B_top (fun r2 => ?_)
    refine B_ic_ge rfl my_54 rfl (tgt := 19) (nx := 15) rfl rfl (fun c3 => ?_) (fun c3 => ?_)
    · refine B_iconst rfl my_54 (by decide) ?_
      refine B_bret rfl my_54 rfl (by omega) ?_
      exact ⟨_, rfl, ⟨by omega, by omega⟩, rfl⟩
    · refine B_iconst rfl my_54 (by decide) ?_
      refine B_goto rfl my_54 rfl (tgt := 20) rfl ?_
      refine B_bret rfl my_54 rfl (by omega) ?_
      exact ⟨_, rfl, ⟨by omega, by omega⟩, rfl⟩
theorem g_hasKept {E : mE} {σ : wSt} {T : Nat} (hE : wE E) (hT : Tb T) (hS : SIt T σ) {q : Int} : Ev E 55 [wr T, wi q] σ (fun x => (x = 0 ∨ x = 1) ∧ (x = 1 ↔ 0 ≤ q ∧ q < gv σ T 11)) := by
  refine Fn.of (nL := 2) ?_
  show Bt E 55 0 [wr T, wi q] [] σ _
  refine B_rng 1 rfl (fun ha1 => ?_)
  refine B_iloadn rfl my_55 rfl ?_
  refine B_if_lt rfl my_55 rfl (tgt := 16) (nx := 4) rfl rfl (fun c1 => ?_) (fun c1 => ?_)
  · refine B_iconst rfl my_55 (by decide) ?_
    refine B_bret rfl my_55 rfl (by omega) ?_
    exact ⟨_, rfl, ⟨by omega, by omega⟩, rfl⟩
  · refine B_iloadn rfl my_55 rfl ?_
    refine B_aloadn rfl my_55 rfl ?_
    refine B_int hE.1 rfl my_55 rfl (wn_0_11 hT) hS.2.2.2.2.2.1 (fun r2 => ?_)
    refine B_ic_ge rfl my_55 rfl (tgt := 16) (nx := 12) rfl rfl (fun c3 => ?_) (fun c3 => ?_)
    · refine B_iconst rfl my_55 (by decide) ?_
      refine B_bret rfl my_55 rfl (by omega) ?_
      exact ⟨_, rfl, ⟨by omega, by omega⟩, rfl⟩
    · refine B_iconst rfl my_55 (by decide) ?_
      refine B_goto rfl my_55 rfl (tgt := 17) rfl ?_
      refine B_bret rfl my_55 rfl (by omega) ?_
      exact ⟨_, rfl, ⟨by omega, by omega⟩, rfl⟩
theorem g_choice0 {E : mE} {σ : wSt} {T : Nat} (hE : wE E) (hT : Tb T) (hS : SIt T σ) (h8 : kn σ T 8) : Gv E 56 [wr T, wi 0] σ (wi (gv σ T 8)) := by
  refine Fn.of (nL := 2) ?_
  show Bt E 56 0 [wr T, wi 0] [] σ _
  refine B_rng 1 rfl (fun ha1 => ?_)
  refine B_iloadn rfl my_56 rfl ?_
  refine B_lookup rfl my_56 (by decide) (off := 27) rfl rfl (tgt := 28) rfl ?_
  refine B_aloadn rfl my_56 rfl ?_
  refine B_int hE.1 rfl my_56 rfl (wn_0_8 hT) h8 (fun r1 => ?_)
  refine B_iret rfl my_56 rfl ?_
  exact ⟨rfl, rfl⟩
theorem g_choice1 {E : mE} {σ : wSt} {T : Nat} (hE : wE E) (hT : Tb T) (hS : SIt T σ) : Gv E 56 [wr T, wi 1] σ (wi (gv σ T 9)) := by
  refine Fn.of (nL := 2) ?_
  show Bt E 56 0 [wr T, wi 1] [] σ _
  refine B_rng 1 rfl (fun ha1 => ?_)
  refine B_iloadn rfl my_56 rfl ?_
  refine B_lookup rfl my_56 (by decide) (off := 32) rfl rfl (tgt := 33) rfl ?_
  refine B_aloadn rfl my_56 rfl ?_
  refine B_int hE.1 rfl my_56 rfl (wn_0_9 hT) hS.2.1.1.1 (fun r1 => ?_)
  refine B_iret rfl my_56 rfl ?_
  exact ⟨rfl, rfl⟩
theorem g_choice2 {E : mE} {σ : wSt} {T : Nat} (hE : wE E) (hT : Tb T) (hS : SIt T σ) : Gv E 56 [wr T, wi 2] σ (wi (gv σ T 10)) := by
  refine Fn.of (nL := 2) ?_
  show Bt E 56 0 [wr T, wi 2] [] σ _
  refine B_rng 1 rfl (fun ha1 => ?_)
  refine B_iloadn rfl my_56 rfl ?_
  refine B_lookup rfl my_56 (by decide) (off := 37) rfl rfl (tgt := 38) rfl ?_
  refine B_aloadn rfl my_56 rfl ?_
  refine B_int hE.1 rfl my_56 rfl (wn_0_10 hT) hS.2.1.1.2.1 (fun r1 => ?_)
  refine B_iret rfl my_56 rfl ?_
  exact ⟨rfl, rfl⟩
theorem g_howMany1 {E : mE} {σ : wSt} {T : Nat} (hE : wE E) (hT : Tb T) (hS : SIt T σ) : Gv E 57 [wr T, wi 1] σ (wi (gv σ (T + 1) 9)) := by
  refine Fn.of (nL := 2) ?_
  show Bt E 57 0 [wr T, wi 1] [] σ _
  refine B_rng 1 rfl (fun ha1 => ?_)
  refine B_iloadn rfl my_57 rfl ?_
  refine B_switch rfl my_57 rfl (fun c9 => absurd c9 (by decide)) (fun _ _ => ⟨35, rfl, rfl, ?_⟩)
  show Bt E 57 36 [wr T, wi 1] [] σ _
  refine B_aloadn rfl my_57 rfl ?_
  refine B_ref hE.1 rfl my_57 rfl (r := (T + 1)) (wf_0_0 hT) ?_
  refine B_int hE.1 rfl my_57 rfl (wn_1_9 hT) (hS.hR _ (by omega) (by omega) _) (fun r1 => ?_)
  refine B_iret rfl my_57 rfl ?_
  exact ⟨rfl, rfl⟩
theorem g_howMany2 {E : mE} {σ : wSt} {T : Nat} (hE : wE E) (hT : Tb T) (hS : SIt T σ) : Gv E 57 [wr T, wi 2] σ (wi (min (gv σ (T + 1) 12) 20)) := by
  refine Fn.of (nL := 2) ?_
  show Bt E 57 0 [wr T, wi 2] [] σ _
  refine B_rng 1 rfl (fun ha1 => ?_)
  refine B_iloadn rfl my_57 rfl ?_
  refine B_switch rfl my_57 rfl (fun c9 => absurd c9 (by decide)) (fun _ _ => ⟨43, rfl, rfl, ?_⟩)
  show Bt E 57 44 [wr T, wi 2] [] σ _
  refine B_aloadn rfl my_57 rfl ?_
  refine B_ref hE.1 rfl my_57 rfl (r := (T + 1)) (wf_0_0 hT) ?_
  refine B_cV hE.1 rfl (wc_1 hT) cw_57_33 (as := []) (rest := []) rfl (Nat.le_of_ble_eq_true rfl) (g_columnCount hE hT hS.hR) (fun vo s9 hq => ?_)
  obtain ⟨rfl, rfl⟩ := hq
  show Bt E 57 51 [wr T, wi 2] [wi (min (gv σ (T + 1) 12) 20)] σ _
  refine B_top (fun r1 => ?_)
  refine B_iret rfl my_57 rfl ?_
  exact ⟨rfl, rfl⟩
theorem g_howMany3 {E : mE} {σ : wSt} {T : Nat} (hE : wE E) (hT : Tb T) (hS : SIt T σ) : Gv E 57 [wr T, wi 3] σ (wi (max 0 (gv σ (T + 1) 9 - gv σ T 10))) := by
  have h0 := hS.hI.1
  have hd := hS.2.1.2.2
  refine Fn.of (nL := 2) ?_
  show Bt E 57 0 [wr T, wi 3] [] σ _
  refine B_rng 1 rfl (fun ha1 => ?_)
  refine B_iloadn rfl my_57 rfl ?_
  refine B_switch rfl my_57 rfl (fun c9 => absurd c9 (by decide)) (fun _ _ => ⟨51, rfl, rfl, ?_⟩)
  show Bt E 57 52 [wr T, wi 3] [] σ _
  refine B_iconst rfl my_57 (by decide) ?_
  refine B_aloadn rfl my_57 rfl ?_
  refine B_ref hE.1 rfl my_57 rfl (r := (T + 1)) (wf_0_0 hT) ?_
  refine B_int hE.1 rfl my_57 rfl (wn_1_9 hT) (hS.hR _ (by omega) (by omega) _) (fun r1 => ?_)
  refine B_aloadn rfl my_57 rfl ?_
  refine B_int hE.1 rfl my_57 rfl (wn_0_10 hT) hS.2.1.1.2.1 (fun r2 => ?_)
  refine B_isub rfl my_57 (by omega) (by omega) ?_
  refine B_max rfl (show wsp 57 0 = true from by decide +kernel) ?_
  refine B_iret rfl my_57 rfl ?_
  exact ⟨rfl, rfl⟩
theorem g_howMany4 {E : mE} {σ : wSt} {T : Nat} (hE : wE E) (hT : Tb T) (hS : SIt T σ) : Gv E 57 [wr T, wi 4] σ (wi (gv σ (T + 16) 3)) := by
  refine Fn.of (nL := 2) ?_
  show Bt E 57 0 [wr T, wi 4] [] σ _
  refine B_rng 1 rfl (fun ha1 => ?_)
  refine B_iloadn rfl my_57 rfl ?_
  refine B_switch rfl my_57 rfl (fun c9 => absurd c9 (by decide)) (fun _ _ => ⟨68, rfl, rfl, ?_⟩)
  show Bt E 57 69 [wr T, wi 4] [] σ _
  refine B_aloadn rfl my_57 rfl ?_
  refine B_ref hE.1 rfl my_57 rfl (r := (T + 16)) (wf_0_1 hT) ?_
  refine B_int hE.1 rfl my_57 rfl (wn_16_3 hT) hS.2.2.2.2.1.1 (fun r1 => ?_)
  refine B_iret rfl my_57 rfl ?_
  exact ⟨rfl, rfl⟩
theorem g_howMany5 {E : mE} {σ : wSt} {T : Nat} (hE : wE E) (hT : Tb T) (hS : SIt T σ) : Gv E 57 [wr T, wi 5] σ (wi (gv σ T 11)) := by
  refine Fn.of (nL := 2) ?_
  show Bt E 57 0 [wr T, wi 5] [] σ _
  refine B_rng 1 rfl (fun ha1 => ?_)
  refine B_iloadn rfl my_57 rfl ?_
  refine B_switch rfl my_57 rfl (fun c9 => absurd c9 (by decide)) (fun _ _ => ⟨76, rfl, rfl, ?_⟩)
  show Bt E 57 77 [wr T, wi 5] [] σ _
  refine B_aloadn rfl my_57 rfl ?_
  refine B_int hE.1 rfl my_57 rfl (wn_0_11 hT) hS.2.2.2.2.2.1 (fun r1 => ?_)
  refine B_iret rfl my_57 rfl ?_
  exact ⟨rfl, rfl⟩
theorem g_howMany6 {E : mE} {σ : wSt} {T : Nat} (hE : wE E) (hT : Tb T) (hS : SIt T σ) : Ev E 57 [wr T, wi 6] σ (fun x => True) := by
  refine Fn.of (nL := 2) ?_
  show Bt E 57 0 [wr T, wi 6] [] σ _
  refine B_rng 1 rfl (fun ha1 => ?_)
  refine B_iloadn rfl my_57 rfl ?_
  refine B_switch rfl my_57 rfl (fun _ => ?_) (fun c8 c9 => absurd (And.intro c8 c9) (by decide))
  show Bt E 57 82 [wr T, wi 6] [] σ _
  refine B_aloadn rfl my_57 rfl ?_
  refine B_ref hE.1 rfl my_57 rfl (r := (T + 1)) (wf_0_0 hT) ?_
  refine B_cV hE.1 rfl (wc_1 hT) cw_57_38 (as := []) (rest := []) rfl (Nat.le_of_ble_eq_true rfl) (g_quotedCells hE hT hS.hR) (fun vo s9 hq => ?_)
  obtain ⟨x1, rfl, hz2, rfl⟩ := hq
  show Bt E 57 89 [wr T, wi 6] [wi x1] σ _
  refine B_top (fun r3 => ?_)
  refine B_iret rfl my_57 rfl ?_
  exact ⟨_, rfl, trivial, rfl⟩
theorem g_factOfCell0 {E : mE} {σ : wSt} {T : Nat} (hE : wE E) (hT : Tb T) (hS : SIt T σ) {n : Int} (hn1 : 0 ≤ n) (hn2 : n < gv σ (T + 1) 8) : Gv E 58 [wr T, wi n, wi 0] σ (wi (rd σ (T + 25) 501 n)) := by
  refine Fn.of (nL := 3) ?_
  show Bt E 58 0 [wr T, wi n, wi 0] [] σ _
  refine B_rng 1 rfl (fun ha1 => ?_)
  refine B_rng 2 rfl (fun ha2 => ?_)
  refine B_iloadn rfl my_58 rfl ?_
  refine B_switch rfl my_58 rfl (fun c9 => absurd c9 (by decide)) (fun _ _ => ⟨31, rfl, rfl, ?_⟩)
  show Bt E 58 32 [wr T, wi n, wi 0] [] σ _
  refine B_aloadn rfl my_58 rfl ?_
  refine B_ref hE.1 rfl my_58 rfl (r := (T + 25)) (wf_0_3 hT) ?_
  refine B_iloadn rfl my_58 rfl ?_
  refine B_cV hE.1 rfl (nm_25 hT).1 cw_58_20 (as := [wi n]) (rest := []) rfl (Nat.le_of_ble_eq_true rfl) (g_at hE (nm_25 hT) (by decide) (hS.kk _ hn1 hn2)) (fun vo s9 hq => ?_)
  obtain ⟨rfl, rfl⟩ := hq
  show Bt E 58 40 [wr T, wi n, wi 0] [wi (rd σ (T + 25) 501 n)] σ _
  refine B_top (fun r1 => ?_)
  refine B_iret rfl my_58 rfl ?_
  exact ⟨rfl, rfl⟩
theorem g_factOfCell1 {E : mE} {σ : wSt} {T : Nat} (hE : wE E) (hT : Tb T) (hS : SIt T σ) {n : Int} (hn1 : 0 ≤ n) (hn2 : n < gv σ (T + 1) 8) : Gv E 58 [wr T, wi n, wi 1] σ (wi (rd σ (T + 27) 501 n)) := by
  refine Fn.of (nL := 3) ?_
  show Bt E 58 0 [wr T, wi n, wi 1] [] σ _
  refine B_rng 1 rfl (fun ha1 => ?_)
  refine B_rng 2 rfl (fun ha2 => ?_)
  refine B_iloadn rfl my_58 rfl ?_
  refine B_switch rfl my_58 rfl (fun c9 => absurd c9 (by decide)) (fun _ _ => ⟨40, rfl, rfl, ?_⟩)
  show Bt E 58 41 [wr T, wi n, wi 1] [] σ _
  refine B_aloadn rfl my_58 rfl ?_
  refine B_ref hE.1 rfl my_58 rfl (r := (T + 27)) (wf_0_4 hT) ?_
  refine B_iloadn rfl my_58 rfl ?_
  refine B_cV hE.1 rfl (nm_27 hT).1 cw_58_20 (as := [wi n]) (rest := []) rfl (Nat.le_of_ble_eq_true rfl) (g_at hE (nm_27 hT) (by decide) (hS.2.2.1 _ hn1 hn2).2.1) (fun vo s9 hq => ?_)
  obtain ⟨rfl, rfl⟩ := hq
  show Bt E 58 49 [wr T, wi n, wi 1] [wi (rd σ (T + 27) 501 n)] σ _
  refine B_top (fun r1 => ?_)
  refine B_iret rfl my_58 rfl ?_
  exact ⟨rfl, rfl⟩
theorem g_factOfCell2 {E : mE} {σ : wSt} {T : Nat} (hE : wE E) (hT : Tb T) (hS : SIt T σ) {n : Int} (hn1 : 0 ≤ n) (hn2 : n < gv σ (T + 1) 8) : Gv E 58 [wr T, wi n, wi 2] σ (wi (rd σ (T + 6) 501 n)) := by
  refine Fn.of (nL := 3) ?_
  show Bt E 58 0 [wr T, wi n, wi 2] [] σ _
  refine B_rng 1 rfl (fun ha1 => ?_)
  refine B_rng 2 rfl (fun ha2 => ?_)
  refine B_iloadn rfl my_58 rfl ?_
  refine B_switch rfl my_58 rfl (fun c9 => absurd c9 (by decide)) (fun _ _ => ⟨49, rfl, rfl, ?_⟩)
  show Bt E 58 50 [wr T, wi n, wi 2] [] σ _
  refine B_aloadn rfl my_58 rfl ?_
  refine B_ref hE.1 rfl my_58 rfl (r := (T + 1)) (wf_0_0 hT) ?_
  refine B_ref hE.1 rfl my_58 rfl (r := (T + 6)) (wf_1_2 hT) ?_
  refine B_iloadn rfl my_58 rfl ?_
  refine B_cV hE.1 rfl (nm_6 hT).1 cw_58_20 (as := [wi n]) (rest := []) rfl (Nat.le_of_ble_eq_true rfl) (g_at hE (nm_6 hT) (by decide) (kr_of fun _ => hS.hR _ (by omega) (by omega) _)) (fun vo s9 hq => ?_)
  obtain ⟨rfl, rfl⟩ := hq
  show Bt E 58 61 [wr T, wi n, wi 2] [wi (rd σ (T + 6) 501 n)] σ _
  refine B_top (fun r1 => ?_)
  refine B_iret rfl my_58 rfl ?_
  exact ⟨rfl, rfl⟩
theorem g_factOfCell3 {E : mE} {σ : wSt} {T : Nat} (hE : wE E) (hT : Tb T) (hS : SIt T σ) {n : Int} (hn1 : 0 ≤ n) (hn2 : n < gv σ (T + 1) 8) : Gv E 58 [wr T, wi n, wi 3] σ (wi (rd σ (T + 10) 501 n)) := by
  refine Fn.of (nL := 3) ?_
  show Bt E 58 0 [wr T, wi n, wi 3] [] σ _
  refine B_rng 1 rfl (fun ha1 => ?_)
  refine B_rng 2 rfl (fun ha2 => ?_)
  refine B_iloadn rfl my_58 rfl ?_
  refine B_switch rfl my_58 rfl (fun c9 => absurd c9 (by decide)) (fun _ _ => ⟨61, rfl, rfl, ?_⟩)
  show Bt E 58 62 [wr T, wi n, wi 3] [] σ _
  refine B_aloadn rfl my_58 rfl ?_
  refine B_ref hE.1 rfl my_58 rfl (r := (T + 1)) (wf_0_0 hT) ?_
  refine B_ref hE.1 rfl my_58 rfl (r := (T + 10)) (wf_1_4 hT) ?_
  refine B_iloadn rfl my_58 rfl ?_
  refine B_cV hE.1 rfl (nm_10 hT).1 cw_58_20 (as := [wi n]) (rest := []) rfl (Nat.le_of_ble_eq_true rfl) (g_at hE (nm_10 hT) (by decide) (kr_of fun _ => hS.hR _ (by omega) (by omega) _)) (fun vo s9 hq => ?_)
  obtain ⟨rfl, rfl⟩ := hq
  show Bt E 58 73 [wr T, wi n, wi 3] [wi (rd σ (T + 10) 501 n)] σ _
  refine B_top (fun r1 => ?_)
  refine B_iret rfl my_58 rfl ?_
  exact ⟨rfl, rfl⟩
theorem g_factOfCell4 {E : mE} {σ : wSt} {T : Nat} (hE : wE E) (hT : Tb T) (hS : SIt T σ) {n : Int} (hn1 : 0 ≤ n) (hn2 : n < gv σ (T + 1) 8) : Gv E 58 [wr T, wi n, wi 4] σ (wi (rd σ (T + 8) 501 n)) := by
  refine Fn.of (nL := 3) ?_
  show Bt E 58 0 [wr T, wi n, wi 4] [] σ _
  refine B_rng 1 rfl (fun ha1 => ?_)
  refine B_rng 2 rfl (fun ha2 => ?_)
  refine B_iloadn rfl my_58 rfl ?_
  refine B_switch rfl my_58 rfl (fun _ => ?_) (fun c8 c9 => absurd (And.intro c8 c9) (by decide))
  show Bt E 58 74 [wr T, wi n, wi 4] [] σ _
  refine B_aloadn rfl my_58 rfl ?_
  refine B_ref hE.1 rfl my_58 rfl (r := (T + 1)) (wf_0_0 hT) ?_
  refine B_ref hE.1 rfl my_58 rfl (r := (T + 8)) (wf_1_3 hT) ?_
  refine B_iloadn rfl my_58 rfl ?_
  refine B_cV hE.1 rfl (nm_8 hT).1 cw_58_20 (as := [wi n]) (rest := []) rfl (Nat.le_of_ble_eq_true rfl) (g_at hE (nm_8 hT) (by decide) (kr_of fun _ => hS.hR _ (by omega) (by omega) _)) (fun vo s9 hq => ?_)
  obtain ⟨rfl, rfl⟩ := hq
  show Bt E 58 85 [wr T, wi n, wi 4] [wi (rd σ (T + 8) 501 n)] σ _
  refine B_top (fun r1 => ?_)
  refine B_iret rfl my_58 rfl ?_
  exact ⟨rfl, rfl⟩
theorem g_fact0 {E : mE} {σ : wSt} {T : Nat} (hE : wE E) (hT : Tb T) (hS : SIt T σ) {n : Int} (hn1 : 0 ≤ n) (hn2 : n < gv σ (T + 16) 3) : Gv E 2 [wr (T + 16), wi n, wi 0] σ (wi (rd σ (T + 17) 561 n)) := by
  refine Fn.of (nL := 3) ?_
  show Bt E 2 0 [wr (T + 16), wi n, wi 0] [] σ _
  refine B_rng 1 rfl (fun ha1 => ?_)
  refine B_rng 2 rfl (fun ha2 => ?_)
  refine B_iloadn rfl my_2 rfl ?_
  refine B_lookup rfl my_2 (by decide) (off := 27) rfl rfl (tgt := 28) rfl ?_
  refine B_aloadn rfl my_2 rfl ?_
  refine B_ref hE.1 rfl my_2 rfl (r := (T + 17)) (wf_16_0 hT) ?_
  refine B_iloadn rfl my_2 rfl ?_
  refine B_cV hE.1 rfl (nm_17 hT).1 cw_2_20 (as := [wi n]) (rest := []) rfl (Nat.le_of_ble_eq_true rfl) (g_at hE (nm_17 hT) (by decide) (hS.2.2.2.2.1.2.2.1 _ hn1 hn2).1.1) (fun vo s9 hq => ?_)
  obtain ⟨rfl, rfl⟩ := hq
  show Bt E 2 36 [wr (T + 16), wi n, wi 0] [wi (rd σ (T + 17) 561 n)] σ _
  refine B_top (fun r1 => ?_)
  refine B_iret rfl my_2 rfl ?_
  exact ⟨rfl, rfl⟩
theorem g_fact1 {E : mE} {σ : wSt} {T : Nat} (hE : wE E) (hT : Tb T) (hS : SIt T σ) {n : Int} (hn1 : 0 ≤ n) (hn2 : n < gv σ (T + 16) 3) : Gv E 2 [wr (T + 16), wi n, wi 1] σ (wi (rd σ (T + 19) 561 n)) := by
  refine Fn.of (nL := 3) ?_
  show Bt E 2 0 [wr (T + 16), wi n, wi 1] [] σ _
  refine B_rng 1 rfl (fun ha1 => ?_)
  refine B_rng 2 rfl (fun ha2 => ?_)
  refine B_iloadn rfl my_2 rfl ?_
  refine B_lookup rfl my_2 (by decide) (off := 36) rfl rfl (tgt := 37) rfl ?_
  refine B_aloadn rfl my_2 rfl ?_
  refine B_ref hE.1 rfl my_2 rfl (r := (T + 19)) (wf_16_1 hT) ?_
  refine B_iloadn rfl my_2 rfl ?_
  refine B_cV hE.1 rfl (nm_19 hT).1 cw_2_20 (as := [wi n]) (rest := []) rfl (Nat.le_of_ble_eq_true rfl) (g_at hE (nm_19 hT) (by decide) (hS.2.2.2.2.1.2.2.1 _ hn1 hn2).1.2.1) (fun vo s9 hq => ?_)
  obtain ⟨rfl, rfl⟩ := hq
  show Bt E 2 45 [wr (T + 16), wi n, wi 1] [wi (rd σ (T + 19) 561 n)] σ _
  refine B_top (fun r1 => ?_)
  refine B_iret rfl my_2 rfl ?_
  exact ⟨rfl, rfl⟩
theorem g_fact2 {E : mE} {σ : wSt} {T : Nat} (hE : wE E) (hT : Tb T) (hS : SIt T σ) {n : Int} (hn1 : 0 ≤ n) (hn2 : n < gv σ (T + 16) 3) : Gv E 2 [wr (T + 16), wi n, wi 2] σ (wi (rd σ (T + 21) 561 n)) := by
  refine Fn.of (nL := 3) ?_
  show Bt E 2 0 [wr (T + 16), wi n, wi 2] [] σ _
  refine B_rng 1 rfl (fun ha1 => ?_)
  refine B_rng 2 rfl (fun ha2 => ?_)
  refine B_iloadn rfl my_2 rfl ?_
  refine B_lookup rfl my_2 (by decide) (off := 45) rfl rfl (tgt := 46) rfl ?_
  refine B_aloadn rfl my_2 rfl ?_
  refine B_ref hE.1 rfl my_2 rfl (r := (T + 21)) (wf_16_2 hT) ?_
  refine B_iloadn rfl my_2 rfl ?_
  refine B_cV hE.1 rfl (nm_21 hT).1 cw_2_20 (as := [wi n]) (rest := []) rfl (Nat.le_of_ble_eq_true rfl) (g_at hE (nm_21 hT) (by decide) (hS.2.2.2.2.1.2.2.1 _ hn1 hn2).1.2.2) (fun vo s9 hq => ?_)
  obtain ⟨rfl, rfl⟩ := hq
  show Bt E 2 54 [wr (T + 16), wi n, wi 2] [wi (rd σ (T + 21) 561 n)] σ _
  refine B_top (fun r1 => ?_)
  refine B_iret rfl my_2 rfl ?_
  exact ⟨rfl, rfl⟩
theorem l_inColumn {E : mE} {σ : wSt} {T : Nat} (hE : wE E) (hT : Tb T) (hS : SIt T σ) {c : Int} : ∀ (k : Nat) (a i : Int), a = icn σ T c i.toNat → 0 ≤ i → i ≤ gv σ (T + 16) 3 → (gv σ (T + 16) 3 - i).toNat ≤ k → Bt E 3 4 [wr (T + 16), wi c, wi a, wi i] [] σ (fun vo t => vo = some (wi (icn σ T c (gv σ (T + 16) 3).toNat)) ∧ σ = t) := by
  intro k
  induction k with
  | zero =>
    intro a i h1 h2 h3 hm
    have hfn := hS.2.2.2.2.1.2.1
    have hb := icn_rng (σ := σ) (T := T) (c := c) i.toNat
    refine B_rng 1 rfl (fun ha1 => ?_)
    refine B_rng 2 rfl (fun ha2 => ?_)
    refine B_rng 3 rfl (fun ha3 => ?_)
    refine B_iloadn rfl my_3 rfl ?_
    refine B_aloadn rfl my_3 rfl ?_
    refine B_int hE.1 rfl my_3 rfl (wn_16_3 hT) hS.2.2.2.2.1.1 (fun r1 => ?_)
    refine B_ic_ge rfl my_3 rfl (tgt := 33) (nx := 12) rfl rfl (fun c2 => ?_) (fun c2 => ?_)
    · refine B_iloadn rfl my_3 rfl ?_
      refine B_iret rfl my_3 rfl ?_
      refine ⟨?_, rfl⟩
      rw [h1, show i.toNat = (gv σ (T + 16) 3).toNat by omega]
    · exact absurd hm (by omega)
  | succ k ih =>
    intro a i h1 h2 h3 hm
    have hfn := hS.2.2.2.2.1.2.1
    have hb := icn_rng (σ := σ) (T := T) (c := c) i.toNat
    refine B_rng 1 rfl (fun ha1 => ?_)
    refine B_rng 2 rfl (fun ha2 => ?_)
    refine B_rng 3 rfl (fun ha3 => ?_)
    refine B_iloadn rfl my_3 rfl ?_
    refine B_aloadn rfl my_3 rfl ?_
    refine B_int hE.1 rfl my_3 rfl (wn_16_3 hT) hS.2.2.2.2.1.1 (fun r1 => ?_)
    refine B_ic_ge rfl my_3 rfl (tgt := 33) (nx := 12) rfl rfl (fun c2 => ?_) (fun c2 => ?_)
    · refine B_iloadn rfl my_3 rfl ?_
      refine B_iret rfl my_3 rfl ?_
      refine ⟨?_, rfl⟩
      rw [h1, show i.toNat = (gv σ (T + 16) 3).toNat by omega]
    · refine B_aloadn rfl my_3 rfl ?_
      refine B_ref hE.1 rfl my_3 rfl (r := (T + 19)) (wf_16_1 hT) ?_
      refine B_iloadn rfl my_3 rfl ?_
      refine B_cV hE.1 rfl (nm_19 hT).1 cw_3_20 (as := [wi i]) (rest := []) rfl (Nat.le_of_ble_eq_true rfl) (g_at hE (nm_19 hT) (by decide) (hS.2.2.2.2.1.2.2.1 _ (by omega) (by omega)).1.2.1) (fun vo s9 hq => ?_)
      obtain ⟨rfl, rfl⟩ := hq
      show Bt E 3 20 [wr (T + 16), wi c, wi a, wi i] [wi (rd σ (T + 19) 561 i)] σ _
      refine B_top (fun r3 => ?_)
      refine B_iloadn rfl my_3 rfl ?_
      refine B_ic_ne rfl my_3 rfl (tgt := 27) (nx := 24) rfl rfl (fun c4 => ?_) (fun c4 => ?_)
      · refine B_iinc rfl my_3 (by decide) rfl rfl rfl (by omega) (by omega) (show _ = [wr (T + 16), wi c, wi a, wi (i + 1)] from rfl) ?_
        refine B_goto rfl my_3 rfl (tgt := 4) rfl ?_
        refine ih _ _ ?_ (by omega) (by omega) (by omega)
        rw [show (i + 1).toNat = i.toNat + 1 by omega]
        unfold icn
        rw [show ((i.toNat : Nat) : Int) = i by omega]
        rw [if_neg (by omega)]
        omega
      · refine B_iinc rfl my_3 (by decide) rfl rfl rfl (by omega) (by omega) (show _ = [wr (T + 16), wi c, wi (a + 1), wi i] from rfl) ?_
        refine B_iinc rfl my_3 (by decide) rfl rfl rfl (by omega) (by omega) (show _ = [wr (T + 16), wi c, wi (a + 1), wi (i + 1)] from rfl) ?_
        refine B_goto rfl my_3 rfl (tgt := 4) rfl ?_
        refine ih _ _ ?_ (by omega) (by omega) (by omega)
        rw [show (i + 1).toNat = i.toNat + 1 by omega]
        unfold icn
        rw [show ((i.toNat : Nat) : Int) = i by omega]
        rw [if_pos (by omega)]
        omega
theorem g_inColumn {E : mE} {σ : wSt} {T : Nat} (hE : wE E) (hT : Tb T) (hS : SIt T σ) {c : Int} : Gv E 3 [wr (T + 16), wi c] σ (wi (icn σ T c (gv σ (T + 16) 3).toNat)) := by
  refine Fn.of (nL := 4) ?_
  show Bt E 3 0 [wr (T + 16), wi c, wx, wx] [] σ _
  refine B_rng 1 rfl (fun ha1 => ?_)
  refine B_iconst rfl my_3 (by decide) ?_
  refine B_istoren rfl my_3 (by decide) rfl (show _ = [wr (T + 16), wi c, wi 0, wx] from rfl) ?_
  refine B_iconst rfl my_3 (by decide) ?_
  refine B_istoren rfl my_3 (by decide) rfl (show _ = [wr (T + 16), wi c, wi 0, wi 0] from rfl) ?_
  exact l_inColumn hE hT hS _ 0 0 rfl (by omega) hS.2.2.2.2.1.2.1 (Nat.le_refl _)
theorem l_repeatsIn {E : mE} {σ : wSt} {T : Nat} (hE : wE E) (hT : Tb T) (hS : SIt T σ) {c : Int} (hc1 : 0 ≤ c) (hc2 : c < min (gv σ (T + 1) 12) 20) : ∀ (k : Nat) (a i : Int), a = rpn σ T c (gv σ T 10) (i - gv σ T 10).toNat → gv σ T 10 ≤ i → (i ≤ gv σ (T + 1) 9 ∨ i = gv σ T 10) → (gv σ (T + 1) 9 - i).toNat ≤ k → Bt E 60 7 [wr T, wi c, wi a, wi i, wx] [] σ (fun vo t => vo = some (wi (rpn σ T c (gv σ T 10) (gv σ (T + 1) 9 - gv σ T 10).toNat)) ∧ σ = t) := by
  intro k
  induction k with
  | zero =>
    intro a i h1 h2 h3 hm
    have h0 := hS.hI.1
    have hd := hS.2.1.2.2
    have hb := rpn_le hS.hI hS.sk (fun r r1 r2 r3 => (hS.2.2.2.1 c hc1 hc2).2 r r1 r2 r3) (i - gv σ T 10).toNat (by omega)
    have hb2 := fln_rng (σ := σ) (T := T) (c := c) (f := gv σ T 10) (i - gv σ T 10).toNat
    refine B_rng 1 rfl (fun ha1 => ?_)
    refine B_rng 2 rfl (fun ha2 => ?_)
    refine B_rng 3 rfl (fun ha3 => ?_)
    refine B_iloadn rfl my_60 rfl ?_
    refine B_aloadn rfl my_60 rfl ?_
    refine B_ref hE.1 rfl my_60 rfl (r := (T + 1)) (wf_0_0 hT) ?_
    refine B_int hE.1 rfl my_60 rfl (wn_1_9 hT) (hS.hR _ (by omega) (by omega) _) (fun r1 => ?_)
    refine B_ic_ge rfl my_60 rfl (tgt := 57) (nx := 18) rfl rfl (fun c2 => ?_) (fun c2 => ?_)
    · refine B_iloadn rfl my_60 rfl ?_
      refine B_iret rfl my_60 rfl ?_
      refine ⟨?_, rfl⟩
      rw [h1, show (i - gv σ T 10).toNat = (gv σ (T + 1) 9 - gv σ T 10).toNat by omega]
    · exact absurd hm (by omega)
  | succ k ih =>
    intro a i h1 h2 h3 hm
    have h0 := hS.hI.1
    have hd := hS.2.1.2.2
    have hb := rpn_le hS.hI hS.sk (fun r r1 r2 r3 => (hS.2.2.2.1 c hc1 hc2).2 r r1 r2 r3) (i - gv σ T 10).toNat (by omega)
    have hb2 := fln_rng (σ := σ) (T := T) (c := c) (f := gv σ T 10) (i - gv σ T 10).toNat
    refine B_rng 1 rfl (fun ha1 => ?_)
    refine B_rng 2 rfl (fun ha2 => ?_)
    refine B_rng 3 rfl (fun ha3 => ?_)
    refine B_iloadn rfl my_60 rfl ?_
    refine B_aloadn rfl my_60 rfl ?_
    refine B_ref hE.1 rfl my_60 rfl (r := (T + 1)) (wf_0_0 hT) ?_
    refine B_int hE.1 rfl my_60 rfl (wn_1_9 hT) (hS.hR _ (by omega) (by omega) _) (fun r1 => ?_)
    refine B_ic_ge rfl my_60 rfl (tgt := 57) (nx := 18) rfl rfl (fun c2 => ?_) (fun c2 => ?_)
    · refine B_iloadn rfl my_60 rfl ?_
      refine B_iret rfl my_60 rfl ?_
      refine ⟨?_, rfl⟩
      rw [h1, show (i - gv σ T 10).toNat = (gv σ (T + 1) 9 - gv σ T 10).toNat by omega]
    · have hp9 := (hS.2.2.2.1 c hc1 hc2).2 i h2 (by omega)
      refine B_aloadn rfl my_60 rfl ?_
      refine B_ref hE.1 rfl my_60 rfl (r := (T + 1)) (wf_0_0 hT) ?_
      refine B_iloadn rfl my_60 rfl ?_
      refine B_iloadn rfl my_60 rfl ?_
      refine B_cV hE.1 rfl (wc_1 hT) cw_60_36 (as := [wi i, wi c]) (rest := []) rfl (Nat.le_of_ble_eq_true rfl) (g_cellAt hE hT hS.hR hS.hI) (fun vo s9 hq => ?_)
      obtain ⟨rfl, rfl⟩ := hq
      show Bt E 60 27 [wr T, wi c, wi a, wi i, wx] [wi (ca σ T i c)] σ _
      refine B_top (fun r3 => ?_)
      refine B_istore rfl my_60 (by decide) rfl (show _ = [wr T, wi c, wi a, wi i, wi (ca σ T i c)] from rfl) ?_
      refine B_iloadn rfl my_60 rfl ?_
      refine B_iload rfl my_60 rfl ?_
      refine B_iconst rfl my_60 (by decide) ?_
      refine B_ic_ne rfl my_60 rfl (tgt := 40) (nx := 36) rfl rfl (fun c4 => ?_) (fun c4 => ?_)
      · have hp8 := (hp9 (by omega)).2.1
        refine B_aloadn rfl my_60 rfl ?_
        refine B_ref hE.1 rfl my_60 rfl (r := (T + 29)) (wf_0_5 hT) ?_
        refine B_iload rfl my_60 rfl ?_
        refine B_cV hE.1 rfl (nm_29 hT).1 cw_60_20 (as := [wi (ca σ T i c)]) (rest := [wi a]) rfl (Nat.le_of_ble_eq_true rfl) (g_at hE (nm_29 hT) (by decide) (hp9 (by omega)).1) (fun vo s9 hq => ?_)
        obtain ⟨rfl, rfl⟩ := hq
        show Bt E 60 49 [wr T, wi c, wi a, wi i, wi (ca σ T i c)] [wi (rd σ (T + 29) 501 (ca σ T i c)), wi a] σ _
        refine B_top (fun r5 => ?_)
        refine B_iadd rfl my_60 (by omega) (by omega) ?_
        refine B_istoren rfl my_60 (by decide) rfl (show _ = [wr T, wi c, wi (a + (rd σ (T + 29) 501 (ca σ T i c))), wi i, wi (ca σ T i c)] from rfl) ?_
        refine B_iinc rfl my_60 (by decide) rfl rfl rfl (by omega) (by omega) (show _ = [wr T, wi c, wi (a + (rd σ (T + 29) 501 (ca σ T i c))), wi (i + 1), wi (ca σ T i c)] from rfl) ?_
        refine B_goto rfl my_60 rfl (tgt := 7) rfl ?_
        refine B_loc (l' := [wr T, wi c, wi (a + (rd σ (T + 29) 501 (ca σ T i c))), wi (i + 1), wx]) ⟨Or.inl rfl, Or.inl rfl, Or.inl rfl, Or.inl rfl, Or.inr rfl, trivial⟩ ?_
        refine ih _ _ ?_ (by omega) (by omega) (by omega)
        rw [show (i + 1 - gv σ T 10).toNat = (i - gv σ T 10).toNat + 1 by omega]
        unfold rpn
        rw [show gv σ T 10 + (((i - gv σ T 10).toNat : Nat) : Int) = i by omega]
        rw [if_neg (by omega)]
        omega
      · refine B_iconst rfl my_60 (by decide) ?_
        refine B_goto rfl my_60 rfl (tgt := 49) rfl ?_
        refine B_iadd rfl my_60 (by omega) (by omega) ?_
        refine B_istoren rfl my_60 (by decide) rfl (show _ = [wr T, wi c, wi (a + 0), wi i, wi (ca σ T i c)] from rfl) ?_
        refine B_iinc rfl my_60 (by decide) rfl rfl rfl (by omega) (by omega) (show _ = [wr T, wi c, wi (a + 0), wi (i + 1), wi (ca σ T i c)] from rfl) ?_
        refine B_goto rfl my_60 rfl (tgt := 7) rfl ?_
        refine B_loc (l' := [wr T, wi c, wi (a + 0), wi (i + 1), wx]) ⟨Or.inl rfl, Or.inl rfl, Or.inl rfl, Or.inl rfl, Or.inr rfl, trivial⟩ ?_
        refine ih _ _ ?_ (by omega) (by omega) (by omega)
        rw [show (i + 1 - gv σ T 10).toNat = (i - gv σ T 10).toNat + 1 by omega]
        unfold rpn
        rw [show gv σ T 10 + (((i - gv σ T 10).toNat : Nat) : Int) = i by omega]
        rw [if_pos (by omega)]
        omega
theorem g_repeatsIn {E : mE} {σ : wSt} {T : Nat} (hE : wE E) (hT : Tb T) (hS : SIt T σ) {c : Int} (hc1 : 0 ≤ c) (hc2 : c < min (gv σ (T + 1) 12) 20) : Gv E 60 [wr T, wi c] σ (wi (rpn σ T c (gv σ T 10) (gv σ (T + 1) 9 - gv σ T 10).toNat)) := by
  refine Fn.of (nL := 5) ?_
  show Bt E 60 0 [wr T, wi c, wx, wx, wx] [] σ _
  refine B_rng 1 rfl (fun ha1 => ?_)
  refine B_iconst rfl my_60 (by decide) ?_
  refine B_istoren rfl my_60 (by decide) rfl (show _ = [wr T, wi c, wi 0, wx, wx] from rfl) ?_
  refine B_aloadn rfl my_60 rfl ?_
  refine B_int hE.1 rfl my_60 rfl (wn_0_10 hT) hS.2.1.1.2.1 (fun r1 => ?_)
  refine B_istoren rfl my_60 (by decide) rfl (show _ = [wr T, wi c, wi 0, wi (gv σ T 10), wx] from rfl) ?_
  refine l_repeatsIn hE hT hS hc1 hc2 _ 0 (gv σ T 10) ?_ (Int.le_refl _) (Or.inr rfl) (Nat.le_refl _)
  rw [show (gv σ T 10 - gv σ T 10).toNat = 0 by omega]
  rfl
