/-! ===== the small machine seen through what things hold: ints as whole numbers, a heap that is a function of address and place ===== -/
/-- tag (0 an int, 1 a reference, 5 a long, 6 a double, 9 nothing), what it is -/
abbrev wV : Type := Nat × Int
/-- a store: what an int of the heap holds, where it is known -/
abbrev wSt : Type := Nat → Nat → Option Int
def gv (σ : wSt) (a b : Nat) : Int := (σ a b).getD 0
def kn (σ : wSt) (a b : Nat) : Prop := (σ a b).isSome = true
def wi (x : Int) : wV := (0, x)
def wr (a : Nat) : wV := (1, (a : Int))
def wl (x : Int) : wV := (5, x)
def wd (x : UInt64) : wV := (6, (x.toNat : Int))
def wx : wV := (9, 0)
/-- an int's range -/
abbrev wI (x : Int) : Prop := -2147483648 ≤ x ∧ x < 2147483648
def wR (a : wV) (v : Value) : Prop := match a.1 with
  | 0 => ∃ x : Int32, v = .int x ∧ x.toInt = a.2
  | 1 => ∃ r : Nat, v = .ref r ∧ (r : Int) = a.2
  | 5 => ∃ x : Int64, v = .long x ∧ x.toInt = a.2
  | 6 => ∃ x : UInt64, v = .double x ∧ (x.toNat : Int) = a.2
  | _ => False
theorem wR_i {n : Int} {v : Value} (h : wR (wi n) v) : ∃ x : Int32, v = .int x ∧ x.toInt = n := h
theorem wR_r {a : Nat} {v : Value} (h : wR (wr a) v) : v = .ref a := by
  obtain ⟨r, rfl, h2⟩ : ∃ r : Nat, v = .ref r ∧ (r : Int) = (a : Int) := h
  rw [Int.ofNat_inj.mp h2]
theorem wR_l {n : Int} {v : Value} (h : wR (wl n) v) : ∃ x : Int64, v = .long x ∧ x.toInt = n := h
theorem wR_d {n : UInt64} {v : Value} (h : wR (wd n) v) : v = .double n := by
  obtain ⟨r, rfl, h2⟩ : ∃ r : UInt64, v = .double r ∧ (r.toNat : Int) = (n.toNat : Int) := h
  rw [UInt64.toNat_inj.mp (Int.ofNat_inj.mp h2)]
theorem wR_mi (x : Int32) : wR (wi x.toInt) (.int x) := ⟨x, rfl, rfl⟩
theorem wR_mi2 {n : Int} {x : Int32} (h : x.toInt = n) : wR (wi n) (.int x) := ⟨x, rfl, h⟩
theorem wR_mr (a : Nat) : wR (wr a) (.ref a) := ⟨a, rfl, rfl⟩
theorem wR_ml {n : Int} {x : Int64} (h : x.toInt = n) : wR (wl n) (.long x) := ⟨x, rfl, h⟩
theorem wR_md (x : UInt64) : wR (wd x) (.double x) := ⟨x, rfl, rfl⟩
theorem wR_rng {n : Int} {v : Value} (h : wR (wi n) v) : wI n := by
  obtain ⟨x, -, rfl⟩ := wR_i h
  have h1 := fb_rng x
  exact ⟨by omega, by omega⟩
theorem wR_cat {a : wV} {v : Value} (h : wR a v) : a.1 ≤ 6 ∧ (a.1 ≤ 4 → v.category = 1) ∧ (5 ≤ a.1 → v.category = 2) := by
  obtain ⟨t, x⟩ := a
  match t, h with
  | 0, h => obtain ⟨y, rfl, -⟩ := h; exact ⟨by simp, fun _ => rfl, fun h9 => by simp at h9⟩
  | 1, h => obtain ⟨y, rfl, -⟩ := h; exact ⟨by simp, fun _ => rfl, fun h9 => by simp at h9⟩
  | 2, h => exact (show False from h).elim
  | 3, h => exact (show False from h).elim
  | 4, h => exact (show False from h).elim
  | 5, h => obtain ⟨y, rfl, -⟩ := h; exact ⟨by simp, fun h9 => by simp at h9, fun _ => rfl⟩
  | 6, h => obtain ⟨y, rfl, -⟩ := h; exact ⟨by simp, fun h9 => by simp at h9, fun _ => rfl⟩
  | n + 7, h => exact (show False from h).elim
/-! the stack -/
def wS : List wV → List Value → Prop
  | [], [] => True
  | a :: r, v :: s => wR a v ∧ wS r s
  | _, _ => False
theorem wS_c {a : wV} {r : List wV} {sc : List Value} (h : wS (a :: r) sc) : ∃ (v : Value) (rc : List Value), sc = v :: rc ∧ wR a v ∧ wS r rc := by
  cases sc with
  | nil => exact (show False from h).elim
  | cons v rc => exact ⟨v, rc, rfl, h.1, h.2⟩
theorem wS_n {sc : List Value} (h : wS [] sc) : sc = [] := by
  cases sc with
  | nil => rfl
  | cons v rc => exact (show False from h).elim
theorem wS_len : ∀ {st : List wV} {sc : List Value}, wS st sc → sc.length = st.length := by
  intro st
  induction st with
  | nil => intro sc h; rw [wS_n h]; rfl
  | cons a r ih =>
    intro sc h
    obtain ⟨v, rc, rfl, -, h2⟩ := wS_c h
    rw [List.length_cons, List.length_cons, ih h2]
theorem wS_app : ∀ {a b : List wV} {sc : List Value}, wS (a ++ b) sc → ∃ x y : List Value, sc = x ++ y ∧ wS a x ∧ wS b y := by
  intro a
  induction a with
  | nil => intro b sc h; exact ⟨[], sc, rfl, trivial, h⟩
  | cons p a ih =>
    intro b sc h
    obtain ⟨v, rc, rfl, h1, h2⟩ := wS_c h
    obtain ⟨x, y, rfl, h3, h4⟩ := ih h2
    exact ⟨v :: x, y, rfl, ⟨h1, h3⟩, h4⟩
theorem wS_join : ∀ {a b : List wV} {x y : List Value}, wS a x → wS b y → wS (a ++ b) (x ++ y) := by
  intro a
  induction a with
  | nil => intro b x y h1 h2; rw [wS_n h1]; exact h2
  | cons p a ih =>
    intro b x y h1 h2
    obtain ⟨v, rc, rfl, h3, h4⟩ := wS_c h1
    exact ⟨h3, ih h4 h2⟩
theorem wS_rev : ∀ {a : List wV} {x : List Value}, wS a x → wS a.reverse x.reverse := by
  intro a
  induction a with
  | nil => intro x h; rw [wS_n h]; trivial
  | cons p a ih =>
    intro x h
    obtain ⟨v, rc, rfl, h3, h4⟩ := wS_c h
    rw [List.reverse_cons, List.reverse_cons]
    exact wS_join (ih h4) ⟨h3, trivial⟩
theorem wS_one {a : wV} {v : Value} (h : wR a v) : wS [a] [v] := ⟨h, trivial⟩
/-- a result, if there is one -/
def wO (a : Option wV) (v : Option Value) : Prop := match a, v with
  | none, none => True
  | some x, some y => wR x y
  | _, _ => False
theorem wO_list {a : Option wV} {v : Option Value} (h : wO a v) : wS a.toList v.toList := by
  cases a with
  | none => cases v with
    | none => trivial
    | some y => exact (show False from h).elim
  | some x => cases v with
    | none => exact (show False from h).elim
    | some y => exact ⟨h, trivial⟩
theorem cat_le2 (v : Value) : v.category ≤ 2 := by cases v <;> simp [Value.category]
theorem mwords_le2 : ∀ (sc : List Value), mwords sc ≤ 2 * sc.length := by
  intro sc
  induction sc with
  | nil => exact Nat.le_refl _
  | cons v r ih =>
    have h2 := cat_le2 v
    unfold mwords at ih ⊢
    rw [List.map_cons, List.sum_cons, List.length_cons]
    omega
/-! locals -/
def wLr (l : List wV) (lv : mLv) : Prop := ∀ (i : Nat) (a : wV), l[i]? = some a → a.1 ≤ 6 → ∃ v, mlv lv i = some v ∧ wR a v
/-- the local ahead of i has not two places -/
def wnc (l : List wV) (i : Nat) : Bool := match i with
  | 0 => true
  | k + 1 => match l[k]? with
    | some a => decide (a.1 ≤ 4) || decide (7 ≤ a.1)
    | none => true
theorem wmlv_filter {p : Nat × Value → Bool} : ∀ {l : mLv} {j : Nat} {u : Value}, mlv l j = some u → p (j, u) = true → mlv (l.filter p) j = some u := by
  intro l
  induction l with
  | nil => intro j u h; cases h
  | cons q r ih =>
    intro j u h hp
    simp only [mlv] at h
    by_cases hq : q.1 = j
    · rw [if_pos hq] at h
      cases h
      have e : q = (j, q.2) := by rw [← hq]
      rw [List.filter_cons, if_pos (by rw [e]; exact hp)]
      simp only [mlv]
      rw [if_pos hq]
    · rw [if_neg hq] at h
      rw [List.filter_cons]
      split
      · simp only [mlv]
        rw [if_neg hq]
        exact ih h hp
      · exact ih h hp
theorem wmlv_set1 {l : mLv} {i j : Nat} {v u : Value} (h : mlv l j = some u) (hj : j ≠ i) (hc : ¬ (j + 1 = i ∧ u.category = 2)) : mlv (mset1 l i v) j = some u := by
  unfold mset1
  simp only [mlv]
  rw [if_neg (fun e => hj e.symm)]
  refine wmlv_filter h ?_
  by_cases h2 : j + 1 = i
  · have h3 : ¬ u.category = 2 := fun e => hc ⟨h2, e⟩
    simp [hj, h3]
  · simp [hj, h2]
theorem wmlv_set2 {l : mLv} {i j : Nat} {v u : Value} (h : mlv l j = some u) (hj : j ≠ i) (hj1 : j ≠ i + 1) (hc : ¬ (j + 1 = i ∧ u.category = 2)) : mlv (mset2 l i v) j = some u := by
  unfold mset2
  simp only [mlv]
  rw [if_neg (fun e => hj e.symm)]
  refine wmlv_filter h ?_
  by_cases h2 : j + 1 = i
  · have h3 : ¬ u.category = 2 := fun e => hc ⟨h2, e⟩
    simp [hj, hj1, h3]
  · simp [hj, hj1, h2]
theorem wnc_ok {l : List wV} {i j : Nat} {a : wV} {u : Value} (hp : wnc l i = true) (hj : j + 1 = i) (ha : l[j]? = some a) (h6 : a.1 ≤ 6) (hr : wR a u) : ¬ u.category = 2 := by
  subst hj
  unfold wnc at hp
  dsimp only at hp
  rw [ha] at hp
  dsimp only at hp
  simp only [Bool.or_eq_true, decide_eq_true_eq] at hp
  rw [(wR_cat hr).2.1 (by omega)]
  decide
theorem wLr_set1 {l : List wV} {lv : mLv} {i : Nat} {a : wV} {v : Value} (h : wLr l lv) (ha : wR a v) (hp : wnc l i = true) : wLr (l.set i a) (mset1 lv i v) := by
  intro j b hb h6
  by_cases e : j = i
  · subst e
    rw [List.getElem?_set] at hb
    rw [if_pos rfl] at hb
    split at hb
    · cases hb
      exact ⟨v, by simp [mset1, mlv], ha⟩
    · cases hb
  · rw [List.getElem?_set_ne (fun e9 => e e9.symm)] at hb
    obtain ⟨u, hu, hr⟩ := h j b hb h6
    exact ⟨u, wmlv_set1 hu e (fun z => wnc_ok hp z.1 hb h6 hr z.2), hr⟩
theorem wLr_set2 {l : List wV} {lv : mLv} {i : Nat} {a : wV} {v : Value} (h : wLr l lv) (ha : wR a v) (hp : wnc l i = true) : wLr ((l.set i a).set (i + 1) wx) (mset2 lv i v) := by
  intro j b hb h6
  by_cases e2 : j = i + 1
  · subst e2
    rw [List.getElem?_set] at hb
    rw [if_pos rfl] at hb
    split at hb
    · cases hb
      exact absurd h6 (by decide)
    · cases hb
  · rw [List.getElem?_set_ne (fun e9 => e2 e9.symm)] at hb
    by_cases e : j = i
    · subst e
      rw [List.getElem?_set] at hb
      rw [if_pos rfl] at hb
      split at hb
      · cases hb
        exact ⟨v, by simp [mset2, mlv], ha⟩
      · cases hb
    · rw [List.getElem?_set_ne (fun e9 => e e9.symm)] at hb
      obtain ⟨u, hu, hr⟩ := h j b hb h6
      exact ⟨u, wmlv_set2 hu e e2 (fun z => wnc_ok hp z.1 hb h6 hr z.2), hr⟩
/-- locals at a method's entry -/
def went : Nat → List wV → List wV
  | n, [] => List.replicate n wx
  | n, a :: r => if 5 ≤ a.1 then a :: wx :: went (n - 2) r else a :: went (n - 1) r
theorem went_ok : ∀ (as : List wV) (asc : List Value) (n i : Nat), wS as asc → ∀ (j : Nat) (a : wV), (went n as)[j]? = some a → a.1 ≤ 6 → ∃ v, mlv (lv_args i asc) (i + j) = some v ∧ wR a v := by
  intro as
  induction as with
  | nil =>
    intro asc n i h j a ha h6
    unfold went at ha
    rw [List.getElem?_replicate] at ha
    split at ha
    · cases ha; exact absurd h6 (by decide)
    · cases ha
  | cons p r ih =>
    intro asc n i h j a ha h6
    obtain ⟨v, rc, rfl, hv, hr⟩ := wS_c h
    have hc := wR_cat hv
    have e2 : lv_args i (v :: rc) = (i, v) :: lv_args (if v.category = 2 then i + 2 else i + 1) rc := rfl
    rw [e2]
    simp only [mlv]
    unfold went at ha
    by_cases h5 : 5 ≤ p.1
    · rw [if_pos h5] at ha
      rw [if_pos (hc.2.2 h5)]
      match j, ha with
      | 0, ha => cases ha; rw [if_pos (by omega)]; exact ⟨v, rfl, hv⟩
      | 1, ha => cases ha; exact absurd h6 (by decide)
      | j + 2, ha =>
        rw [if_neg (by omega)]
        have h9 := ih rc (n - 2) (i + 2) hr j a (by simpa using ha) h6
        rwa [show i + 2 + j = i + (j + 2) by omega] at h9
    · rw [if_neg h5] at ha
      rw [if_neg (show ¬ v.category = 2 by rw [hc.2.1 (by omega)]; decide)]
      match j, ha with
      | 0, ha => cases ha; rw [if_pos (by omega)]; exact ⟨v, rfl, hv⟩
      | j + 1, ha =>
        rw [if_neg (by omega)]
        have h9 := ih rc (n - 1) (i + 1) hr j a (by simpa using ha) h6
        rwa [show i + 1 + j = i + (j + 1) by omega] at h9
theorem went_lr {as : List wV} {asc : List Value} (n : Nat) (h : wS as asc) : wLr (went n as) (lv_args 0 asc) := fun j a ha h6 => by
  have h9 := went_ok as asc n 0 h j a ha h6
  rwa [Nat.zero_add] at h9
def wcats : List wV → Nat
  | [] => 0
  | a :: r => (if 5 ≤ a.1 then 2 else 1) + wcats r
theorem wcats_ok : ∀ (as : List wV) (asc : List Value), wS as asc → (lg_sl asc).length = wcats as := by
  intro as
  induction as with
  | nil => intro asc h; rw [wS_n h]; rfl
  | cons v r ih =>
    intro asc h
    obtain ⟨vv, rc, rfl, hv, hr⟩ := wS_c h
    have hc := wR_cat hv
    have e2 : lg_sl (vv :: rc) = (if vv.category = 2 then [.val vv, .second] else [.val vv]) ++ lg_sl rc := by simp [lg_sl]
    rw [e2, List.length_append, ih rc hr]
    show _ = (if 5 ≤ v.1 then 2 else 1) + wcats r
    by_cases h5 : 5 ≤ v.1
    · rw [if_pos h5, if_pos (hc.2.2 h5)]; rfl
    · rw [if_neg h5, if_neg (by rw [hc.2.1 (by omega)]; decide)]; rfl
/-! the heap: shape as at the boot, ints whatever they are -/
def wFr (σ : wSt) (a b : Nat) (v0 : Value) (v : Option Value) : Prop := match v0 with
  | .ref r => v = some (.ref r)
  | .int _ => ∃ x : Int32, v = some (.int x) ∧ (kn σ a b → x.toInt = gv σ a b)
  | _ => True
def wOr (σ : wSt) (a : Nat) (o0 : mO) (o : Option mO) : Prop := match o0 with
  | .inr (c, f0) => ∃ fs : List Value, o = some (.inr (c, fs)) ∧ fs.length = f0.length ∧ ∀ (b : Nat) (v0 : Value), f0[b]? = some v0 → wFr σ a b v0 fs[b]?
  | .inl (t, n, _) => ∃ u, o = some (.inl (t, n, u)) ∧ ∀ j, j < n → kn σ a j → (mupI u j).toInt = gv σ a j
def Wr (σ : wSt) (h : List mO) : Prop := h.length = wH0.length ∧ ∀ (i : Nat) (o0 : mO), wH0[i]? = some o0 → wOr σ (2 + i) o0 h[i]?
/-- the class of the object at an address -/
def wCls (a : Nat) : Option Nat := if a < 2 then none else (match wH0[a - 2]? with
  | some (.inr o) => some o.1
  | _ => none)
def wRef (c a b : Nat) : Option Nat := if a < 2 then none else (match wH0[a - 2]? with
  | some (.inr o) => if o.1 = c then (match o.2[b]? with
    | some (.ref r) => some r
    | _ => none) else none
  | _ => none)
def wInt (c a b : Nat) : Bool := if a < 2 then false else (match wH0[a - 2]? with
  | some (.inr o) => if o.1 = c then (match o.2[b]? with
    | some (.int _) => true
    | _ => false) else false
  | _ => false)
/-- the length of the row of ints at an address -/
def wRow (a : Nat) : Option Nat := if a < 2 then none else (match wH0[a - 2]? with
  | some (.inl (0, n, _)) => some n
  | _ => none)
def wup (σ : wSt) (a b : Nat) (x : Int) : wSt := fun p q => if p = a ∧ q = b then some x else σ p q
theorem wup_eq {σ : wSt} {a b : Nat} {x : Int} : wup σ a b x a b = some x := if_pos ⟨rfl, rfl⟩
theorem wup_ne {σ : wSt} {a b p q : Nat} {x : Int} (h : ¬ (p = a ∧ q = b)) : wup σ a b x p q = σ p q := if_neg h
theorem gv_eq {σ : wSt} {a b : Nat} {x : Int} : gv (wup σ a b x) a b = x := by
  unfold gv
  rw [wup_eq]
  rfl
theorem gv_ne {σ : wSt} {a b p q : Nat} {x : Int} (h : ¬ (p = a ∧ q = b)) : gv (wup σ a b x) p q = gv σ p q := by
  unfold gv
  rw [wup_ne h]
theorem kn_eq {σ : wSt} {a b : Nat} {x : Int} : kn (wup σ a b x) a b := by
  unfold kn
  rw [wup_eq]
  rfl
theorem kn_ne {σ : wSt} {a b p q : Nat} {x : Int} (h : ¬ (p = a ∧ q = b)) : kn (wup σ a b x) p q ↔ kn σ p q := by
  unfold kn
  rw [wup_ne h]
theorem kn_up {σ : wSt} {a b p q : Nat} {x : Int} (h : kn σ p q) : kn (wup σ a b x) p q := by
  by_cases e : p = a ∧ q = b
  · rw [e.1, e.2]; exact kn_eq
  · exact (kn_ne e).mpr h
section WH
variable {E : mE} {σ : wSt} {h : List mO} {a b c r n : Nat}
theorem wCls_get (hE : E.length = 2) (hw : Wr σ h) (hc : wCls a = some c) : ∃ fs, mobjE E h a = some (c, fs) := by
  unfold wCls at hc
  split at hc
  · cases hc
  · rename_i h2
    split at hc
    · rename_i o ho
      obtain ⟨c0, f0⟩ := o
      cases hc
      obtain ⟨fs, h3, -⟩ := hw.2 _ _ ho
      refine ⟨fs, ?_⟩
      unfold mobjE
      rw [hE, if_neg h2, h3]
    · cases hc
theorem wRef_get (hE : E.length = 2) (hw : Wr σ h) (hc : wRef c a b = some r) : ∃ fs, mobjE E h a = some (c, fs) ∧ fs[b]? = some (.ref r) := by
  unfold wRef at hc
  split at hc
  · cases hc
  · rename_i h2
    split at hc
    · rename_i o ho
      obtain ⟨c0, f0⟩ := o
      split at hc
      · rename_i e
        dsimp only at e
        subst e
        split at hc
        · rename_i r2 hf
          cases hc
          obtain ⟨fs, h3, -, h5⟩ := hw.2 _ _ ho
          refine ⟨fs, ?_, h5 b _ hf⟩
          unfold mobjE
          rw [hE, if_neg h2, h3]
        · cases hc
      · cases hc
    · cases hc
theorem wInt_at (hw : Wr σ h) (hc : wInt c a b = true) : ¬ a < 2 ∧ ∃ (fs : List Value) (x : Int32), h[a - 2]? = some (.inr (c, fs)) ∧ fs[b]? = some (.int x) ∧ (kn σ a b → x.toInt = gv σ a b) := by
  unfold wInt at hc
  split at hc
  · cases hc
  · rename_i h2
    split at hc
    · rename_i o ho
      obtain ⟨c0, f0⟩ := o
      split at hc
      · rename_i e
        dsimp only at e
        subst e
        split at hc
        · rename_i r2 hf
          obtain ⟨fs, h3, -, h5⟩ := hw.2 _ _ ho
          obtain ⟨x, h6, h7⟩ := h5 b _ hf
          rw [show 2 + (a - 2) = a by omega] at h7
          exact ⟨h2, fs, x, h3, h6, h7⟩
        · cases hc
      · cases hc
    · cases hc
theorem wInt_get (hE : E.length = 2) (hw : Wr σ h) (hc : wInt c a b = true) : ∃ (fs : List Value) (x : Int32), mobjE E h a = some (c, fs) ∧ fs[b]? = some (.int x) ∧ (kn σ a b → x.toInt = gv σ a b) := by
  obtain ⟨h2, fs, x, h3, h4, h5⟩ := wInt_at hw hc
  refine ⟨fs, x, ?_, h4, h5⟩
  unfold mobjE
  rw [hE, if_neg h2, h3]
theorem wRow_at (hw : Wr σ h) (hc : wRow a = some n) : ¬ a < 2 ∧ ∃ u, h[a - 2]? = some (.inl (0, n, u)) ∧ ∀ j, j < n → kn σ a j → (mupI u j).toInt = gv σ a j := by
  unfold wRow at hc
  split at hc
  · cases hc
  · rename_i h2
    split at hc
    · rename_i n0 u0 ho
      cases hc
      obtain ⟨u, h3, h4⟩ := hw.2 _ _ ho
      rw [show 2 + (a - 2) = a by omega] at h4
      exact ⟨h2, u, h3, h4⟩
    · cases hc
theorem wRow_get (hE : E.length = 2) (hw : Wr σ h) (hc : wRow a = some n) : ∃ u, mrow E.length 0 h a = some (n, u) ∧ ∀ j, j < n → kn σ a j → (mupI u j).toInt = gv σ a j := by
  obtain ⟨h2, u, h3, h4⟩ := wRow_at hw hc
  refine ⟨u, ?_, h4⟩
  unfold mrow mget
  rw [hE, if_neg h2, h3]
  exact if_pos rfl
/-- an int is written -/
theorem Wr_put (hw : Wr σ h) {fs : List Value} {x : Int32} (h2 : ¬ a < 2) (h3 : h[a - 2]? = some (.inr (c, fs))) (hb : wInt c a b = true) : Wr (wup σ a b x.toInt) (h.set (a - 2) (.inr (c, fs.set b (.int x)))) := by
  refine ⟨by rw [List.length_set]; exact hw.1, fun i o0 ho => ?_⟩
  have h5 := hw.2 i o0 ho
  by_cases e : a - 2 = i
  · subst e
    rw [List.getElem?_set, if_pos rfl, if_pos (List.getElem?_eq_some_iff.mp h3).1]
    rw [show 2 + (a - 2) = a by omega] at h5 ⊢
    cases o0 with
    | inl z =>
      obtain ⟨t, n0, u0⟩ := z
      obtain ⟨u, h6, -⟩ := h5
      rw [h3] at h6
      cases h6
    | inr z =>
      obtain ⟨c0, f0⟩ := z
      obtain ⟨fs2, h6, h7, h8⟩ := h5
      rw [h3] at h6
      cases h6
      refine ⟨fs.set b (.int x), rfl, by rw [List.length_set]; exact h7, fun b2 v0 hv => ?_⟩
      have h9 := h8 b2 v0 hv
      by_cases eb : b = b2
      · subst eb
        have hlt : b < fs.length := by rw [h7]; exact (List.getElem?_eq_some_iff.mp hv).1
        rw [List.getElem?_set, if_pos rfl, if_pos hlt]
        unfold wInt at hb
        rw [if_neg h2, ho] at hb
        dsimp only at hb
        rw [if_pos rfl, hv] at hb
        cases v0
        case int y => exact ⟨x, rfl, fun _ => gv_eq.symm⟩
        all_goals cases hb
      · rw [List.getElem?_set_ne eb]
        unfold wFr at h9 ⊢
        split at h9
        · exact h9
        · obtain ⟨z, h10, h11⟩ := h9
          exact ⟨z, h10, fun hk => by
            rw [gv_ne (fun e9 => eb e9.2.symm)]
            exact h11 ((kn_ne (fun e9 => eb e9.2.symm)).mp hk)⟩
        · trivial
  · rw [List.getElem?_set_ne e]
    have hne : ∀ q : Nat, ¬ (2 + i = a ∧ q = b) := fun q e9 => e (by omega)
    unfold wOr at h5 ⊢
    split at h5
    · obtain ⟨fs2, h6, h7, h8⟩ := h5
      refine ⟨fs2, h6, h7, fun b2 v0 hv => ?_⟩
      have h9 := h8 b2 v0 hv
      unfold wFr at h9 ⊢
      split at h9
      · exact h9
      · obtain ⟨z, h10, h11⟩ := h9
        exact ⟨z, h10, fun hk => by
          rw [gv_ne (hne _)]
          exact h11 ((kn_ne (hne _)).mp hk)⟩
      · trivial
    · obtain ⟨u, h6, h7⟩ := h5
      exact ⟨u, h6, fun j hj hk => by
        rw [gv_ne (hne _)]
        exact h7 j hj ((kn_ne (hne _)).mp hk)⟩
theorem Wr_row (hw : Wr σ h) {u : List (Nat × Value)} {x : Int32} {i : Nat} (h2 : ¬ a < 2) (h3 : h[a - 2]? = some (.inl (0, n, u))) : Wr (wup σ a i x.toInt) (h.set (a - 2) (.inl (0, n, (i, .int x) :: u))) := by
  refine ⟨by rw [List.length_set]; exact hw.1, fun k o0 ho => ?_⟩
  have h5 := hw.2 k o0 ho
  by_cases e : a - 2 = k
  · subst e
    rw [List.getElem?_set, if_pos rfl, if_pos (List.getElem?_eq_some_iff.mp h3).1]
    rw [show 2 + (a - 2) = a by omega] at h5 ⊢
    cases o0 with
    | inr z =>
      obtain ⟨c0, f0⟩ := z
      obtain ⟨fs2, h6, -⟩ := h5
      rw [h3] at h6
      cases h6
    | inl z =>
      obtain ⟨t, n0, u0⟩ := z
      obtain ⟨u2, h6, h7⟩ := h5
      rw [h3] at h6
      cases h6
      refine ⟨_, rfl, fun j hj hk => ?_⟩
      by_cases ej : i = j
      · subst ej
        rw [gv_eq]
        simp [mupI, mup]
      · rw [gv_ne (fun e9 => ej e9.2.symm), ← h7 j hj ((kn_ne (fun e9 => ej e9.2.symm)).mp hk)]
        simp [mupI, mup, ej]
  · rw [List.getElem?_set_ne e]
    have hne : ∀ q : Nat, ¬ (2 + k = a ∧ q = i) := fun q e9 => e (by omega)
    unfold wOr at h5 ⊢
    split at h5
    · obtain ⟨fs2, h6, h7, h8⟩ := h5
      refine ⟨fs2, h6, h7, fun b2 v0 hv => ?_⟩
      have h9 := h8 b2 v0 hv
      unfold wFr at h9 ⊢
      split at h9
      · exact h9
      · obtain ⟨z, h10, h11⟩ := h9
        exact ⟨z, h10, fun hk => by
          rw [gv_ne (hne _)]
          exact h11 ((kn_ne (hne _)).mp hk)⟩
      · trivial
    · obtain ⟨u2, h6, h7⟩ := h5
      exact ⟨u2, h6, fun j hj hk => by
        rw [gv_ne (hne _)]
        exact h7 j hj ((kn_ne (hne _)).mp hk)⟩
/-- τ knows all that σ knows -/
def Sub (σ τ : wSt) : Prop := ∀ a b, kn σ a b → kn τ a b ∧ gv σ a b = gv τ a b
theorem Sub.rf {σ : wSt} : Sub σ σ := fun _ _ h => ⟨h, rfl⟩
theorem Sub.tr {σ τ ρ : wSt} (h1 : Sub σ τ) (h2 : Sub τ ρ) : Sub σ ρ := fun a b h => by
  obtain ⟨h3, h4⟩ := h1 a b h
  obtain ⟨h5, h6⟩ := h2 a b h3
  exact ⟨h5, h4.trans h6⟩
theorem Wr.sub {σ τ : wSt} {h : List mO} (hs : Sub σ τ) (hw : Wr τ h) : Wr σ h := by
  refine ⟨hw.1, fun i o0 ho => ?_⟩
  have h5 := hw.2 i o0 ho
  unfold wOr at h5 ⊢
  split at h5
  · obtain ⟨fs2, h6, h7, h8⟩ := h5
    refine ⟨fs2, h6, h7, fun b2 v0 hv => ?_⟩
    have h9 := h8 b2 v0 hv
    unfold wFr at h9 ⊢
    split at h9
    · exact h9
    · obtain ⟨z, h10, h11⟩ := h9
      exact ⟨z, h10, fun hk => by
        obtain ⟨k1, k2⟩ := hs _ _ hk
        rw [k2]
        exact h11 k1⟩
    · trivial
  · obtain ⟨u2, h6, h7⟩ := h5
    exact ⟨u2, h6, fun j hj hk => by
      obtain ⟨k1, k2⟩ := hs _ _ hk
      rw [k2]
      exact h7 j hj k1⟩
/-- what two stores know of one heap is the same -/
theorem Wr.int {σ τ : wSt} {h : List mO} {a b c : Nat} (h1 : Wr σ h) (h2 : Wr τ h) (hb : wInt c a b = true) (k1 : kn σ a b) (k2 : kn τ a b) : gv σ a b = gv τ a b := by
  obtain ⟨-, fs, x, e1, e2, e3⟩ := wInt_at h1 hb
  obtain ⟨-, fs', x', e4, e5, e6⟩ := wInt_at h2 hb
  rw [e1] at e4
  cases e4
  rw [e2] at e5
  cases e5
  rw [← e3 k1, ← e6 k2]
theorem Wr.rowv {σ τ : wSt} {h : List mO} {a n j : Nat} (h1 : Wr σ h) (h2 : Wr τ h) (hb : wRow a = some n) (hj : j < n) (k1 : kn σ a j) (k2 : kn τ a j) : gv σ a j = gv τ a j := by
  obtain ⟨-, u, e1, e3⟩ := wRow_at h1 hb
  obtain ⟨-, u', e4, e6⟩ := wRow_at h2 hb
  rw [e1] at e4
  cases e4
  rw [← e3 j hj k1, ← e6 j hj k2]
end WH
