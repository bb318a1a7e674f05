/-! ===== what an abstract thing stands for ===== -/
theorem qif_beq {α : Type} (a b : Nat) (x y : α) : qif (Nat.beq a b) x y = if a = b then x else y := by
  cases hb : Nat.beq a b
  · rw [if_neg (Nat.ne_of_beq_eq_false hb)]; rfl
  · rw [if_pos (Nat.eq_of_beq_eq_true hb)]; rfl
theorem qif_ble {α : Type} (a b : Nat) (x y : α) : qif (Nat.ble a b) x y = if a ≤ b then x else y := by
  cases hb : Nat.ble a b
  · rw [if_neg (fun h => by rw [Nat.ble_eq_true_of_le h] at hb; cases hb)]; rfl
  · rw [if_pos (Nat.le_of_ble_eq_true hb)]; rfl
theorem qg_beq {α : Type} {a b : Nat} {x : Option α} {r : α} (h : qg (Nat.beq a b) x = some r) : a = b ∧ x = some r := ⟨Nat.eq_of_beq_eq_true (qg_some h).1, (qg_some h).2⟩
theorem qg_ble {α : Type} {a b : Nat} {x : Option α} {r : α} (h : qg (Nat.ble a b) x = some r) : a ≤ b ∧ x = some r := ⟨Nat.le_of_ble_eq_true (qg_some h).1, (qg_some h).2⟩
def qR (E : mE) (a : qV) (v : Value) : Prop := match a.1 with
  | 0 => ∃ x : Int32, v = .int x ∧ (a.2.1 : Int) ≤ x.toInt + 2147483648 ∧ x.toInt + 2147483648 ≤ (a.2.2 : Int)
  | 1 => v = .ref a.2.1
  | 2 => v = .null
  | 3 => ∃ (q : Nat) (f : List Value), v = .ref q ∧ q < E.length ∧ E[q]? = some (.inr (0, f))
  | 4 => ∃ x : Int32, v = .int x ∧ x &&& 31 = Int32.ofNat a.2.1
  | 5 => v = .long (Int64.ofNat a.2.1)
  | 6 => ∃ x : UInt64, v = .double x
  | _ => False
theorem qR_int {E : mE} {a : qV} {v : Value} (h : qR E a v) (ht : a.1 = 0) : ∃ x : Int32, v = .int x ∧ (a.2.1 : Int) ≤ x.toInt + 2147483648 ∧ x.toInt + 2147483648 ≤ (a.2.2 : Int) := by
  unfold qR at h; rw [ht] at h; exact h
theorem qR_ref {E : mE} {a : qV} {v : Value} (h : qR E a v) (ht : a.1 = 1) : v = .ref a.2.1 := by
  unfold qR at h; rw [ht] at h; exact h
theorem qR_null {E : mE} {a : qV} {v : Value} (h : qR E a v) (ht : a.1 = 2) : v = .null := by
  unfold qR at h; rw [ht] at h; exact h
theorem qR_box {E : mE} {a : qV} {v : Value} (h : qR E a v) (ht : a.1 = 3) : ∃ (q : Nat) (f : List Value), v = .ref q ∧ q < E.length ∧ E[q]? = some (.inr (0, f)) := by
  unfold qR at h; rw [ht] at h; exact h
theorem qR_head {E : mE} {a : qV} {v : Value} (h : qR E a v) (ht : a.1 = 4) : ∃ x : Int32, v = .int x ∧ x &&& 31 = Int32.ofNat a.2.1 := by
  unfold qR at h; rw [ht] at h; exact h
theorem qR_long {E : mE} {a : qV} {v : Value} (h : qR E a v) (ht : a.1 = 5) : v = .long (Int64.ofNat a.2.1) := by
  unfold qR at h; rw [ht] at h; exact h
theorem qR_dbl {E : mE} {a : qV} {v : Value} (h : qR E a v) (ht : a.1 = 6) : ∃ x : UInt64, v = .double x := by
  unfold qR at h; rw [ht] at h; exact h
theorem qR_mkI {E : mE} {lo hi : Nat} {x : Int32} (h1 : (lo : Int) ≤ x.toInt + 2147483648) (h2 : x.toInt + 2147483648 ≤ (hi : Int)) : qR E (0, lo, hi) (.int x) := ⟨x, rfl, h1, h2⟩
theorem qR_mkL {E : mE} {n m : Nat} : qR E (5, n, m) (.long (Int64.ofNat n)) := rfl
theorem qR_mkR {E : mE} {n m : Nat} : qR E (1, n, m) (.ref n) := rfl
theorem qR_cat {E : mE} {a : qV} {v : Value} (h : qR E a v) : a.1 ≤ 6 ∧ (a.1 ≤ 4 → v.category = 1) ∧ (5 ≤ a.1 → v.category = 2) := by
  obtain ⟨t, lo, hi⟩ := a
  match t, h with
  | 0, h => obtain ⟨x, rfl, -, -⟩ := h; exact ⟨by simp, fun _ => rfl, fun h9 => by simp at h9⟩
  | 1, h => cases (show v = .ref lo from h); exact ⟨by simp, fun _ => rfl, fun h9 => by simp at h9⟩
  | 2, h => cases (show v = .null from h); exact ⟨by simp, fun _ => rfl, fun h9 => by simp at h9⟩
  | 3, h => obtain ⟨q, f, rfl, -⟩ := h; exact ⟨by simp, fun _ => rfl, fun h9 => by simp at h9⟩
  | 4, h => obtain ⟨x, rfl, -⟩ := h; exact ⟨by simp, fun _ => rfl, fun h9 => by simp at h9⟩
  | 5, h => cases (show v = .long _ from h); exact ⟨by simp, fun h9 => by simp at h9, fun _ => rfl⟩
  | 6, h => obtain ⟨x, rfl⟩ := h; exact ⟨by simp, fun h9 => by simp at h9, fun _ => rfl⟩
  | n + 7, h => exact (show False from h).elim
def qS (E : mE) : List qV → List Value → Prop
  | [], [] => True
  | a :: r, v :: s => qR E a v ∧ qS E r s
  | _, _ => False
theorem qS_c {E : mE} {a : qV} {r : List qV} {sc : List Value} (h : qS E (a :: r) sc) : ∃ (v : Value) (rc : List Value), sc = v :: rc ∧ qR E a v ∧ qS E r rc := by
  cases sc with
  | nil => exact (show False from h).elim
  | cons v rc => exact ⟨v, rc, rfl, h.1, h.2⟩
theorem qS_n {E : mE} {sc : List Value} (h : qS E [] sc) : sc = [] := by
  cases sc with
  | nil => rfl
  | cons v rc => exact (show False from h).elim
theorem qS_len {E : mE} : ∀ {st : List qV} {sc : List Value}, qS E st sc → sc.length = st.length := by
  intro st
  induction st with
  | nil => intro sc h; rw [qS_n h]; rfl
  | cons a r ih =>
    intro sc h
    obtain ⟨v, rc, rfl, -, h2⟩ := qS_c h
    rw [List.length_cons, List.length_cons, ih h2]
theorem mwords_le : ∀ (sc : List Value), (∀ v ∈ sc, v.category ≤ 2) → mwords sc ≤ 2 * sc.length := by
  intro sc
  induction sc with
  | nil => intro _; exact Nat.le_refl _
  | cons v r ih =>
    intro h
    have h1 := ih (fun x hx => h x (List.mem_cons_of_mem _ hx))
    have h2 := h v List.mem_cons_self
    unfold mwords at h1 ⊢
    rw [List.map_cons, List.sum_cons, List.length_cons]
    omega
theorem cat_le (v : Value) : v.category ≤ 2 := by cases v <;> simp [Value.category]
/-! locals -/
def qLr (E : mE) (l : qL) (lv : mLv) : Prop := ∀ i : Nat, (l i).1 ≤ 6 → ∃ v, mlv lv i = some v ∧ qR E (l i) v
theorem mlv_filter {p : Nat × Value → Bool} : ∀ {l : mLv} {j : Nat} {u : Value}, mlv l j = some u → p (j, u) = true → mlv (l.filter p) j = some u := by
  intro l
  induction l with
  | nil => intro j u h; cases h
  | cons q r ih =>
    intro j u h hp
    simp only [mlv] at h
    by_cases hq : q.1 = j
    · rw [if_pos hq] at h
      cases h
      have e : q = (j, q.2) := by rw [← hq]
      rw [List.filter_cons, if_pos (by rw [e]; exact hp)]
      simp only [mlv]
      rw [if_pos hq]
    · rw [if_neg hq] at h
      rw [List.filter_cons]
      split
      · simp only [mlv]
        rw [if_neg hq]
        exact ih h hp
      · exact ih h hp
theorem mlv_set1 {l : mLv} {i j : Nat} {v u : Value} (h : mlv l j = some u) (hj : j ≠ i) (hc : ¬ (j + 1 = i ∧ u.category = 2)) : mlv (mset1 l i v) j = some u := by
  unfold mset1
  simp only [mlv]
  rw [if_neg (fun e => hj e.symm)]
  refine mlv_filter h ?_
  by_cases h2 : j + 1 = i
  · have h3 : ¬ u.category = 2 := fun e => hc ⟨h2, e⟩
    simp [hj, h3]
  · simp [hj, h2]
theorem mlv_set2 {l : mLv} {i j : Nat} {v u : Value} (h : mlv l j = some u) (hj : j ≠ i) (hj1 : j ≠ i + 1) (hc : ¬ (j + 1 = i ∧ u.category = 2)) : mlv (mset2 l i v) j = some u := by
  unfold mset2
  simp only [mlv]
  rw [if_neg (fun e => hj e.symm)]
  refine mlv_filter h ?_
  by_cases h2 : j + 1 = i
  · have h3 : ¬ u.category = 2 := fun e => hc ⟨h2, e⟩
    simp [hj, hj1, h3]
  · simp [hj, hj1, h2]
theorem qc1_le {a : qV} (h : (qc1 a).1 ≤ 6) : qc1 a = a ∧ a.1 ≤ 4 := by
  unfold qc1 at h ⊢
  rw [qif_ble] at h ⊢
  by_cases h5 : 5 ≤ a.1
  · rw [if_pos h5] at h; exact absurd h (by decide)
  · rw [if_neg h5]; exact ⟨rfl, by omega⟩
theorem qLr_set1 {E : mE} {l : qL} {lv : mLv} {i : Nat} {a : qV} {v : Value} (h : qLr E l lv) (ha : qR E a v) : qLr E (qset1 l i a) (mset1 lv i v) := by
  intro j hj
  unfold qset1 at hj ⊢
  simp only [qif_beq] at hj ⊢
  by_cases e : j = i
  · subst e
    simp only [if_true]
    exact ⟨v, by simp [mset1, mlv], ha⟩
  · rw [if_neg e] at hj ⊢
    by_cases e1 : Nat.succ j = i
    · rw [if_pos e1] at hj ⊢
      obtain ⟨h1, h2⟩ := qc1_le hj
      rw [h1] at hj ⊢
      obtain ⟨u, hu, hr⟩ := h j hj
      have h9 := (qR_cat hr).2.1 h2
      exact ⟨u, mlv_set1 hu e (fun z => by rw [h9] at z; exact absurd z.2 (by decide)), hr⟩
    · rw [if_neg e1] at hj ⊢
      obtain ⟨u, hu, hr⟩ := h j hj
      exact ⟨u, mlv_set1 hu e (fun z => e1 z.1), hr⟩
theorem qLr_set2 {E : mE} {l : qL} {lv : mLv} {i : Nat} {a : qV} {v : Value} (h : qLr E l lv) (ha : qR E a v) : qLr E (qset2 l i a) (mset2 lv i v) := by
  intro j hj
  unfold qset2 at hj ⊢
  simp only [qif_beq] at hj ⊢
  by_cases e : j = i
  · subst e
    simp only [if_true]
    exact ⟨v, by simp [mset2, mlv], ha⟩
  · rw [if_neg e] at hj ⊢
    by_cases e2 : j = Nat.succ i
    · rw [if_pos e2] at hj; exact absurd hj (by decide)
    · rw [if_neg e2] at hj ⊢
      by_cases e1 : Nat.succ j = i
      · rw [if_pos e1] at hj ⊢
        obtain ⟨h1, h2⟩ := qc1_le hj
        rw [h1] at hj ⊢
        obtain ⟨u, hu, hr⟩ := h j hj
        have h9 := (qR_cat hr).2.1 h2
        exact ⟨u, mlv_set2 hu e e2 (fun z => by rw [h9] at z; exact absurd z.2 (by decide)), hr⟩
      · rw [if_neg e1] at hj ⊢
        obtain ⟨u, hu, hr⟩ := h j hj
        exact ⟨u, mlv_set2 hu e e2 (fun z => e1 z.1), hr⟩
theorem qLr_drop {E : mE} {l : qL} {lv : mLv} {i : Nat} (h : qLr E l lv) : qLr E (qset1 l i (7, 0, 0)) (mdrop1 lv i) := by
  intro j hj
  unfold qset1 at hj ⊢
  simp only [qif_beq] at hj ⊢
  by_cases e : j = i
  · rw [if_pos e] at hj; exact absurd hj (by decide)
  · rw [if_neg e] at hj ⊢
    by_cases e1 : Nat.succ j = i
    · rw [if_pos e1] at hj ⊢
      obtain ⟨h1, h2⟩ := qc1_le hj
      rw [h1] at hj ⊢
      obtain ⟨u, hu, hr⟩ := h j hj
      have h9 := (qR_cat hr).2.1 h2
      have h8 : j + 1 = i := e1
      refine ⟨u, mlv_filter hu ?_, hr⟩
      simp [e, h8, h9]
    · rw [if_neg e1] at hj ⊢
      obtain ⟨u, hu, hr⟩ := h j hj
      have h8 : ¬ j + 1 = i := e1
      refine ⟨u, mlv_filter hu ?_, hr⟩
      simp [e, h8]
/-! the heap -/
def mval (t : Nat) (u : List (Nat × Value)) (j : Nat) : Value := match t with
  | 0 => .int (mupI u j)
  | 1 => .long (mupL u j)
  | 2 => .double (mupD u j)
  | _ => va_rf (mupR u j)
def qOr (E : mE) (o : qO) (c : mO) : Prop := match c with
  | .inl x => o.1 = 0 ∧ o.2.1 = x.1 ∧ o.2.2.1 = x.2.1 ∧ ∀ j, j < x.2.1 → qR E (o.2.2.2 j) (mval x.1 x.2.2 j)
  | .inr x => o.1 = 1 ∧ o.2.1 = x.1 ∧ o.2.2.1 = x.2.length ∧ ∀ j v, x.2[j]? = some v → qR E (o.2.2.2 j) v
def qWr (E : mE) (w : qW) (h : mH) : Prop := w.2.1 = E.length + h.1.length ∧ w.2.2.1 = h.2.1 ∧ w.2.2.2 = h.2.2 ∧ ∀ i o, h.1[i]? = some o → qOr E (w.1 (E.length + i)) o
theorem qW_get {E : mE} {w : qW} {h : mH} {a : Nat} (hw : qWr E w h) (h1 : E.length ≤ a) (h2 : Nat.succ a ≤ w.2.1) : ∃ o, h.1[a - E.length]? = some o ∧ qOr E (w.1 a) o := by
  have h3 : a - E.length < h.1.length := by
    have := hw.1
    omega
  refine ⟨h.1[a - E.length], List.getElem?_eq_getElem h3, ?_⟩
  have h4 := hw.2.2.2 _ _ (List.getElem?_eq_getElem h3)
  rwa [show E.length + (a - E.length) = a by omega] at h4
theorem qW_obj {E : mE} {w : qW} {h : mH} {a k c n : Nat} {f : Nat → qV} (hw : qWr E w h) (h1 : E.length ≤ a) (h2 : Nat.succ a ≤ w.2.1) (he : w.1 a = (k, c, n, f)) (hk : k = 1) : ∃ x : Nat × List Value, h.1[a - E.length]? = some (.inr x) ∧ c = x.1 ∧ n = x.2.length ∧ ∀ j v, x.2[j]? = some v → qR E (f j) v := by
  obtain ⟨o, ho, hr⟩ := qW_get hw h1 h2
  rw [he] at hr
  cases o with
  | inl x => exact absurd (hk.symm.trans hr.1) (by decide)
  | inr x => exact ⟨x, ho, hr.2.1, hr.2.2.1, hr.2.2.2⟩
theorem qW_row {E : mE} {w : qW} {h : mH} {a k c n : Nat} {f : Nat → qV} (hw : qWr E w h) (h1 : E.length ≤ a) (h2 : Nat.succ a ≤ w.2.1) (he : w.1 a = (k, c, n, f)) (hk : k = 0) : ∃ x : Nat × Nat × List (Nat × Value), h.1[a - E.length]? = some (.inl x) ∧ c = x.1 ∧ n = x.2.1 ∧ ∀ j, j < x.2.1 → qR E (f j) (mval x.1 x.2.2 j) := by
  obtain ⟨o, ho, hr⟩ := qW_get hw h1 h2
  rw [he] at hr
  cases o with
  | inl x => exact ⟨x, ho, hr.2.1, hr.2.2.1, hr.2.2.2⟩
  | inr x => exact absurd (hk.symm.trans hr.1) (by decide)
theorem qW_put {E : mE} {w : qW} {h : mH} {a : Nat} {o : qO} {c : mO} (hw : qWr E w h) (h1 : E.length ≤ a) (ho : qOr E o c) : qWr E (qput w.1 a o, w.2) (h.1.set (a - E.length) c, h.2) := by
  refine ⟨by rw [List.length_set]; exact hw.1, hw.2.1, hw.2.2.1, ?_⟩
  intro i o' hi
  rw [List.getElem?_set] at hi
  show qOr E (qif (Nat.beq (E.length + i) a) o (qsel (w.1 (E.length + i)))) o'
  rw [qif_beq, qsel_eq]
  by_cases e : a - E.length = i
  · rw [if_pos e] at hi
    rw [if_pos (by omega)]
    split at hi
    · cases hi; exact ho
    · cases hi
  · rw [if_neg e] at hi
    rw [if_neg (by omega)]
    exact hw.2.2.2 i o' hi
theorem qW_push {E : mE} {w : qW} {h : mH} {N : Nat} {o : qO} {c : mO} (hw : qWr E w h) (ho : qOr E o c) : qWr E (qput w.1 w.2.1 o, Nat.succ w.2.1, Nat.succ w.2.2.1, Nat.add w.2.2.2 N) (h.1 ++ [c], h.2.1 + 1, h.2.2 + N) := by
  have h0 := hw.1
  refine ⟨by rw [List.length_append, List.length_singleton]; show w.2.1 + 1 = _; omega, by show w.2.2.1 + 1 = _; rw [hw.2.1], by show w.2.2.2 + N = _; rw [hw.2.2.1], ?_⟩
  intro i o' hi
  show qOr E (qif (Nat.beq (E.length + i) w.2.1) o (qsel (w.1 (E.length + i)))) o'
  rw [qif_beq, qsel_eq]
  rw [List.getElem?_append] at hi
  by_cases e : i < h.1.length
  · rw [if_pos e] at hi
    rw [if_neg (by omega)]
    exact hw.2.2.2 i o' hi
  · rw [if_neg e] at hi
    have h3 : i = h.1.length := by
      have h4 := (List.getElem?_eq_some_iff.mp hi).1
      rw [List.length_singleton] at h4
      omega
    rw [if_pos (by omega)]
    rw [h3, Nat.sub_self] at hi
    cases hi
    exact ho
/-- the outer things: the script, the empty row, the Integers -/
def qEok (E : mE) (X : Nat) (bx : qX) : Prop := X = E.length ∧ (∃ f : Nat → Int32, E[0]? = some (.inl (0, bx.1, .inl f)) ∧ ∀ i, i < bx.1 → qR E (bx.2 i) (.int (f i))) ∧ (∃ f : Nat → Option Nat, E[2]? = some (.inl (3, 0, .inr (.inr (.inr (.inr f)))))) ∧ (∃ f : Nat → Option Nat, E[3]? = some (.inl (4, 256, .inr (.inr (.inr (.inr f))))) ∧ ∀ i, i < 256 → ∃ (q : Nat) (fs : List Value), f i = some q ∧ q < E.length ∧ E[q]? = some (.inr (0, fs)))
theorem qlt0 {x : Int32} : x < 0 ↔ x.toInt < 0 := fa_lt x 0
theorem qnat {x : Int32} {n : Nat} (h1 : (n : Int) = x.toInt + 2147483648) (h2 : 2147483648 ≤ n) : x.toNatClampNeg = n - 2147483648 ∧ ¬ x < 0 := by
  refine ⟨?_, fun h => ?_⟩
  · show x.toInt.toNat = _
    omega
  · have := qlt0.mp h
    omega
