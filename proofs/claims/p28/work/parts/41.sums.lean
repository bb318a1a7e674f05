/-! ===== sums ===== -/
/-! sums -/
def smn (f : Nat → Int) : Nat → Int
  | 0 => 0
  | n + 1 => smn f n + f n
theorem smn_add {f g : Nat → Int} : ∀ n : Nat, smn (fun c => f c + g c) n = smn f n + smn g n := by
  intro n
  induction n with
  | zero => rfl
  | succ n ih => simp only [smn]; rw [ih]; omega
theorem smn_zero : ∀ n : Nat, smn (fun _ => 0) n = 0 := by
  intro n
  induction n with
  | zero => rfl
  | succ n ih => simp only [smn]; rw [ih]; omega
theorem smn_ext {f g : Nat → Int} : ∀ n : Nat, (∀ c, c < n → f c = g c) → smn f n = smn g n := by
  intro n
  induction n with
  | zero => intro _; rfl
  | succ n ih => intro h; simp only [smn]; rw [ih (fun c h1 => h c (by omega)), h n (by omega)]
theorem smn_rng {f : Nat → Int} {m : Int} (h : ∀ c, 0 ≤ f c ∧ f c ≤ m) : ∀ n : Nat, 0 ≤ smn f n ∧ smn f n ≤ m * n := by
  intro n
  induction n with
  | zero => exact ⟨Int.le_refl _, by simp [smn]⟩
  | succ n ih =>
    have e : m * ((n + 1 : Nat) : Int) = m * (n : Int) + m := by rw [show ((n + 1 : Nat) : Int) = (n : Int) + 1 by omega, Int.mul_add, Int.mul_one]
    have := h n
    simp only [smn]
    omega
theorem smn_mono {f : Nat → Int} (h : ∀ c, 0 ≤ f c) : ∀ (k n : Nat), smn f n ≤ smn f (n + k) := by
  intro k
  induction k with
  | zero => intro n; exact Int.le_refl _
  | succ k ih =>
    intro n
    have := ih n
    have := h (n + k)
    rw [← Nat.add_assoc]
    simp only [smn]
    omega
theorem smn_one {x : Int} : ∀ n : Nat, smn (fun c => if x = (c : Int) then 1 else 0) n = if 0 ≤ x ∧ x < (n : Int) then 1 else 0 := by
  intro n
  induction n with
  | zero => rw [if_neg (by omega)]; rfl
  | succ n ih =>
    simp only [smn]
    rw [ih]
    by_cases h1 : 0 ≤ x ∧ x < (n : Int)
    · rw [if_pos h1, if_neg (by omega), if_pos (by omega)]; rfl
    · rw [if_neg h1]
      by_cases h2 : x = (n : Int)
      · rw [if_pos h2, if_pos (by omega)]; rfl
      · rw [if_neg h2, if_neg (by omega)]; rfl
theorem smn_lt {m : Int} (h : 0 ≤ m) : ∀ n : Nat, smn (fun c => if (c : Int) < m then 1 else 0) n = min (n : Int) m := by
  intro n
  induction n with
  | zero => simp only [smn]; omega
  | succ n ih =>
    simp only [smn]
    rw [ih]
    by_cases h2 : (n : Int) < m
    · rw [if_pos h2]; omega
    · rw [if_neg h2]; omega
/-- cells of the table's columns in the rows of data, up to a row -/
def alr (σ : wSt) (T : Nat) : Nat → Int
  | 0 => 0
  | n + 1 => alr σ T n + (if gv σ T 10 ≤ (n : Int) then min (min (gv σ (T + 1) 12) 20) (min (rd σ (T + 14) 60 (n : Int)) 20) else 0)
/-- .. counted by columns -/
def tol (σ : wSt) (T : Nat) (n : Nat) : Int := smn (fun c => nce σ T (c : Int) (gv σ T 10) (gv σ (T + 1) 9 - gv σ T 10).toNat) n
theorem nce_rng {σ : wSt} {T : Nat} {c f : Int} : ∀ n : Nat, 0 ≤ nce σ T c f n ∧ nce σ T c f n ≤ n := by
  intro n
  induction n with
  | zero => exact ⟨Int.le_refl _, Int.le_refl _⟩
  | succ n ih =>
    simp only [nce]
    split <;> omega
theorem nce_swap {σ : wSt} {T : Nat} {f : Int} {w : Nat} : ∀ n : Nat, smn (fun c => nce σ T (c : Int) f n) w = smn (fun k => smn (fun c => if ca σ T (f + (k : Int)) (c : Int) ≠ -1 then 1 else 0) w) n := by
  intro n
  induction n with
  | zero => exact smn_zero w
  | succ n ih =>
    have e : smn (fun c => nce σ T (c : Int) f (n + 1)) w = smn (fun c => nce σ T (c : Int) f n + (if ca σ T (f + (n : Int)) (c : Int) ≠ -1 then 1 else 0)) w := rfl
    rw [e, smn_add, ih]
    rfl
theorem row_cells {σ : wSt} {T : Nat} (hI : RI T σ) {r : Int} (h1 : 0 ≤ r) (h2 : r < gv σ (T + 1) 9) {w : Nat} : smn (fun c => if ca σ T r (c : Int) ≠ -1 then 1 else 0) w = min (w : Int) (min (rd σ (T + 14) 60 r) 20) := by
  have hw := hI.2.1 r h1 h2
  rw [← smn_lt (by omega) w]
  refine smn_ext w (fun c hc => ?_)
  have g := ca_c hI (r := r) (c := (c : Int))
  by_cases h : (c : Int) < min (rd σ (T + 14) 60 r) 20
  · rw [if_pos h, if_pos (by omega)]
  · rw [if_neg h, if_neg (by omega)]
theorem alr_tol {σ : wSt} {T : Nat} (hS : SIt T σ) {w : Nat} (hw : (w : Int) = min (gv σ (T + 1) 12) 20) : alr σ T (gv σ (T + 1) 9).toNat = tol σ T w := by
  have hI := hS.hI
  have h0 := hI.1
  have hd := hS.2.1.2.2
  unfold tol
  rw [nce_swap]
  obtain ⟨g, hg⟩ : ∃ g : Nat, (g : Int) = gv σ T 10 := ⟨(gv σ T 10).toNat, by omega⟩
  have base : alr σ T g = 0 := by
    rcases hd with h | h
    · have : g = 0 := by omega
      subst this
      rfl
    · have : g = 1 := by omega
      subst this
      simp only [alr]
      rw [if_neg (by omega)]
      rfl
  have k : ∀ n : Nat, (g : Int) + n ≤ gv σ (T + 1) 9 ∨ n = 0 → alr σ T (g + n) = smn (fun k => smn (fun c => if ca σ T (gv σ T 10 + (k : Int)) (c : Int) ≠ -1 then 1 else 0) w) n := by
    intro n
    induction n with
    | zero => intro _; exact base
    | succ n ih =>
      intro h
      rw [← Nat.add_assoc]
      simp only [alr, smn]
      rw [ih (by omega), row_cells hI (by omega) (by omega), if_pos (by omega), hw, show ((g + n : Nat) : Int) = gv σ T 10 + (n : Int) by omega]
  by_cases hr : gv σ T 10 ≤ gv σ (T + 1) 9
  · have e : (gv σ (T + 1) 9).toNat = g + (gv σ (T + 1) 9 - gv σ T 10).toNat := by omega
    rw [e]
    exact k _ (by omega)
  · have e : (gv σ (T + 1) 9).toNat = 0 := by omega
    have e2 : (gv σ (T + 1) 9 - gv σ T 10).toNat = 0 := by omega
    rw [e, e2]
    rfl
theorem alr_rng {σ : wSt} {T : Nat} (hI : RI T σ) : ∀ n : Nat, (n : Int) ≤ gv σ (T + 1) 9 → 0 ≤ alr σ T n ∧ alr σ T n ≤ 20 * n := by
  have hu := hI.uw
  intro n
  induction n with
  | zero => intro _; exact ⟨Int.le_refl _, Int.le_refl _⟩
  | succ n ih =>
    intro h
    have h2 := ih (by omega)
    have h3 := hI.2.1 (n : Int) (by omega) (by omega)
    simp only [alr]
    split <;> omega
theorem tol_rng {σ : wSt} {T : Nat} (hI : RI T σ) (hd : gv σ T 10 = 0 ∨ gv σ T 10 = 1) (n : Nat) : 0 ≤ tol σ T n ∧ tol σ T n ≤ 60 * n := by
  have h0 := hI.1
  refine smn_rng (fun c => ?_) n
  have := nce_rng (σ := σ) (T := T) (c := (c : Int)) (f := gv σ T 10) (gv σ (T + 1) 9 - gv σ T 10).toNat
  omega
/-- faults without a column -/
def nwr (σ : wSt) (T : Nat) : Nat → Int
  | 0 => 0
  | n + 1 => nwr σ T n + (if rd σ (T + 19) 561 (n : Int) < 0 then 1 else 0)
theorem nwr_rng {σ : wSt} {T : Nat} : ∀ n : Nat, 0 ≤ nwr σ T n ∧ nwr σ T n ≤ n := by
  intro n
  induction n with
  | zero => exact ⟨Int.le_refl _, Int.le_refl _⟩
  | succ n ih =>
    simp only [nwr]
    split <;> omega
def icm (σ : wSt) (T : Nat) (n w : Nat) : Int := smn (fun c => icn σ T (c : Int) n) w
theorem icm_le {σ : wSt} {T : Nat} {w : Nat} : ∀ n : Nat, 0 ≤ icm σ T n w ∧ icm σ T n w ≤ n := by
  intro n
  induction n with
  | zero => unfold icm; rw [show (fun c : Nat => icn σ T (c : Int) 0) = fun _ => 0 from rfl, smn_zero]; exact ⟨Int.le_refl _, Int.le_refl _⟩
  | succ n ih =>
    unfold icm at ih ⊢
    have e : smn (fun c => icn σ T (c : Int) (n + 1)) w = smn (fun c => icn σ T (c : Int) n + (if rd σ (T + 19) 561 (n : Int) = (c : Int) then 1 else 0)) w := rfl
    rw [e, smn_add, smn_one]
    split <;> omega
theorem icm_nwr {σ : wSt} {T : Nat} {w : Nat} (hS : SIt T σ) (hw : (w : Int) = min (gv σ (T + 1) 12) 20) : ∀ n : Nat, (n : Int) ≤ gv σ (T + 16) 3 → nwr σ T n + icm σ T n w = n := by
  intro n
  induction n with
  | zero => intro _; unfold icm; rw [show (fun c : Nat => icn σ T (c : Int) 0) = fun _ => 0 from rfl, smn_zero]; rfl
  | succ n ih =>
    intro h
    have h2 := ih (by omega)
    have h3 := (hS.2.2.2.2.1.2.2.1 (n : Int) (by omega) (by omega)).2.2
    unfold FGd at h3
    unfold icm at h2 ⊢
    have e : smn (fun c => icn σ T (c : Int) (n + 1)) w = smn (fun c => icn σ T (c : Int) n + (if rd σ (T + 19) 561 (n : Int) = (c : Int) then 1 else 0)) w := rfl
    rw [e, smn_add, smn_one]
    simp only [nwr]
    by_cases g : rd σ (T + 19) 561 (n : Int) < 0
    · rw [if_pos g, if_neg (by omega)]; omega
    · rw [if_neg g, if_pos (by omega)]; omega
/-- kept rows are no more than rows of data -/
theorem kp_cnt {σ : wSt} {T : Nat} (hS : SIt T σ) : gv σ T 11 ≤ max 0 (gv σ (T + 1) 9 - gv σ T 10) := by
  have h0 := hS.hI.1
  have hd := hS.2.1.2.2
  obtain ⟨k1, k2, k3, k4, k5⟩ := hS.2.2.2.2.2
  have g : ∀ n : Nat, (n : Int) < gv σ T 11 → gv σ T 10 + (n : Int) ≤ rd σ (T + 23) 60 (n : Int) := by
    intro n
    induction n with
    | zero => intro h; have := (k4 0 (by omega) (by omega)).2.1.1; simpa using this
    | succ n ih =>
      intro h
      have h1 := ih (by omega)
      have h2 := k5 ((n + 1 : Nat) : Int) (by omega) (by omega)
      rw [show ((n + 1 : Nat) : Int) - 1 = (n : Int) by omega] at h2
      omega
  by_cases h : gv σ T 11 ≤ 0
  · omega
  · have h1 := g ((gv σ T 11).toNat - 1) (by omega)
    have h2 := (k4 ((((gv σ T 11).toNat - 1 : Nat)) : Int) (by omega) (by omega)).2.1.2.1
    omega
