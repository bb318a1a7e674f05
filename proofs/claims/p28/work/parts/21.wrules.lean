/-! ===== what a place leads to, seen so: rules, one an instruction; what comes out is the same from every heap that the store speaks of ===== -/
def wE (E : mE) : Prop := E.length = 2 ∧ ∃ f : Nat → Int32, E[1]? = some (.inl (0, 13, .inl f))
/-- the row of an outer thing -/
def wD (E : mE) (k : Nat) : Int := match (E[1]? : Option mX) with
  | some (Sum.inl (_, _, Sum.inl f)) => (f k).toInt
  | _ => 0
/-- from this place the method comes to its end, with an answer and things of which P holds; it makes nothing -/
def At (E : mE) (j pc : Nat) (l st : List wV) (σ : wSt) (P : Option wV → wSt → Prop) : Prop := ∀ (lv : mLv) (sc : List Value) (h : List mO) (nc ns : Nat), wLr l lv → wS st sc → Wr σ h → To E ((j, pc, lv, sc), (h, nc, ns)) (fun S1 => ∃ (vo : Option wV) (v : Option Value) (σ' : wSt), mretv S1 = some v ∧ wO vo v ∧ Wr σ' S1.2.1 ∧ S1.2.2 = (nc, ns) ∧ P vo σ')
/-- a call comes back, with an answer and things of which Q holds; it makes nothing -/
def F1 (E : mE) (k : Nat) (as : List wV) (σ : wSt) (Q : Option wV → wSt → Prop) : Prop := ∀ (asc : List Value) (h : List mO), wS as asc → Wr σ h → ∃ (vo : Option wV) (v : Option Value) (h' : List mO) (σ' : wSt), Cl E k asc h v (h', 0, 0) ∧ wO vo v ∧ Wr σ' h' ∧ Q vo σ'
theorem F1.of {E : mE} {k nL : Nat} {as : List wV} {σ : wSt} {Q : Option wV → wSt → Prop} (hA : At E k 0 (went nL as) [] σ Q) : F1 E k as σ Q := by
  intro asc h h1 h2
  obtain ⟨S1, r1, vo, v, σ', r2, r3, r4, r5, r6⟩ := hA (lv_args 0 asc) [] h 0 0 (went_lr nL h1) trivial h2
  refine ⟨vo, v, S1.2.1, σ', ⟨S1, r1, r2, ?_⟩, r3, r4, r6⟩
  rw [← r5]
theorem At.mono {E : mE} {j pc : Nat} {l st : List wV} {σ : wSt} {P P' : Option wV → wSt → Prop} (h : At E j pc l st σ P) (hP : ∀ vo s, P vo s → P' vo s) : At E j pc l st σ P' := by
  intro lv sc hh nc ns h1 h2 h3
  obtain ⟨S1, r1, vo, v, σ', r2, r3, r4, r5, r6⟩ := h lv sc hh nc ns h1 h2 h3
  exact ⟨S1, r1, vo, v, σ', r2, r3, r4, r5, hP _ _ r6⟩
theorem F1.mono {E : mE} {k : Nat} {as : List wV} {σ : wSt} {Q Q' : Option wV → wSt → Prop} (h : F1 E k as σ Q) (hP : ∀ vo s, Q vo s → Q' vo s) : F1 E k as σ Q' := by
  intro asc hh h1 h2
  obtain ⟨vo, v, h', σ', r1, r2, r3, r4⟩ := h asc hh h1 h2
  exact ⟨vo, v, h', σ', r1, r2, r3, hP _ _ r4⟩
/-- exactly this comes out -/
def Ax (E : mE) (j pc : Nat) (l st : List wV) (σ : wSt) (vo : Option wV) (σ' : wSt) : Prop := At E j pc l st σ (fun v s => v = vo ∧ s = σ')
def Fx (E : mE) (k : Nat) (as : List wV) (σ : wSt) (vo : Option wV) (σ' : wSt) : Prop := F1 E k as σ (fun v s => v = vo ∧ s = σ')
/-- such things there are -/
def Ok (l st : List wV) (σ : wSt) : Prop := (∃ lv, wLr l lv) ∧ (∃ sc, wS st sc) ∧ ∃ h, Wr σ h
/-- from this place the method comes to its end: the answer and the store behind it are the same for every heap that the store speaks of; P holds of them -/
def Bt (E : mE) (j pc : Nat) (l st : List wV) (σ : wSt) (P : Option wV → wSt → Prop) : Prop := Ok l st σ → ∃ (vo : Option wV) (σ' : wSt), P vo σ' ∧ Ax E j pc l st σ vo σ'
/-- a call, so -/
def Fn (E : mE) (k : Nat) (as : List wV) (σ : wSt) (Q : Option wV → wSt → Prop) : Prop := Ok [] as σ → ∃ (vo : Option wV) (σ' : wSt), Q vo σ' ∧ Fx E k as σ vo σ'
/-- .. with this answer, and things as they were -/
def Gv (E : mE) (k : Nat) (as : List wV) (σ : wSt) (v : wV) : Prop := Fn E k as σ (fun vo s => vo = some v ∧ σ = s)
/-- .. without an answer, with these things -/
def Mv (E : mE) (k : Nat) (as : List wV) (σ σ' : wSt) : Prop := Fn E k as σ (fun vo s => vo = none ∧ σ' = s)
/-- .. with this answer and these things -/
def Fvs (E : mE) (k : Nat) (as : List wV) (σ : wSt) (v : wV) (σ' : wSt) : Prop := Fn E k as σ (fun vo s => vo = some v ∧ σ' = s)
/-- .. with an answer of which Q holds, and things as they were -/
def Ev (E : mE) (k : Nat) (as : List wV) (σ : wSt) (Q : Int → Prop) : Prop := Fn E k as σ (fun vo s => ∃ x, vo = some (wi x) ∧ Q x ∧ σ = s)
theorem Bt.mono {E : mE} {j pc : Nat} {l st : List wV} {σ : wSt} {P P' : Option wV → wSt → Prop} (h : Bt E j pc l st σ P) (hP : ∀ vo s, P vo s → P' vo s) : Bt E j pc l st σ P' := fun ho => by
  obtain ⟨vo, a, h1, h2⟩ := h ho
  exact ⟨vo, a, hP _ _ h1, h2⟩
theorem Fn.mono {E : mE} {k : Nat} {as : List wV} {σ : wSt} {Q Q' : Option wV → wSt → Prop} (h : Fn E k as σ Q) (hP : ∀ vo s, Q vo s → Q' vo s) : Fn E k as σ Q' := fun ho => by
  obtain ⟨vo, a, h1, h2⟩ := h ho
  exact ⟨vo, a, hP _ _ h1, h2⟩
theorem went_ex {as : List wV} (nL : Nat) (h : ∃ sc, wS as sc) : ∃ lv, wLr (went nL as) lv := by
  obtain ⟨sc, h⟩ := h
  exact ⟨_, went_lr nL h⟩
theorem Fn.of {E : mE} {k nL : Nat} {as : List wV} {σ : wSt} {Q : Option wV → wSt → Prop} (hA : Bt E k 0 (went nL as) [] σ Q) : Fn E k as σ Q := fun ho => by
  obtain ⟨vo, a, h1, h2⟩ := hA ⟨went_ex nL ho.2.1, ⟨[], trivial⟩, ho.2.2⟩
  exact ⟨vo, a, h1, F1.of h2⟩
/-- a store that knows less speaks of more heaps -/
theorem Ok.sub {l st : List wV} {σ τ : wSt} (hs : Sub σ τ) (ho : Ok l st τ) : Ok l st σ := by
  obtain ⟨h1, h2, h, h3⟩ := ho
  exact ⟨h1, h2, h, h3.sub hs⟩
theorem Ax.sub {E : mE} {j pc : Nat} {l st : List wV} {σ τ σ' : wSt} {vo : Option wV} (hs : Sub σ τ) (h : Ax E j pc l st σ vo σ') : Ax E j pc l st τ vo σ' := fun lv sc hh nc ns h1 h2 h3 => h lv sc hh nc ns h1 h2 (h3.sub hs)
theorem Fx.sub {E : mE} {k : Nat} {as : List wV} {σ τ σ' : wSt} {vo : Option wV} (hs : Sub σ τ) (h : Fx E k as σ vo σ') : Fx E k as τ vo σ' := fun asc hh h1 h2 => h asc hh h1 (h2.sub hs)
theorem Bt.sub {E : mE} {j pc : Nat} {l st : List wV} {σ τ : wSt} {P : Option wV → wSt → Prop} (hs : Sub σ τ) (h : Bt E j pc l st σ P) : Bt E j pc l st τ P := fun ho => by
  obtain ⟨vo, a, h1, h2⟩ := h (ho.sub hs)
  exact ⟨vo, a, h1, h2.sub hs⟩
theorem Fn.sub {E : mE} {k : Nat} {as : List wV} {σ τ : wSt} {Q : Option wV → wSt → Prop} (hs : Sub σ τ) (h : Fn E k as σ Q) : Fn E k as τ Q := fun ho => by
  obtain ⟨vo, a, h1, h2⟩ := h (ho.sub hs)
  exact ⟨vo, a, h1, h2.sub hs⟩
theorem wR_fn {a b : wV} {v : Value} (h1 : wR a v) (h2 : wR b v) : a = b := by
  obtain ⟨t, x⟩ := a
  obtain ⟨u, z⟩ := b
  match t, h1 with
  | 0, h1 =>
    obtain ⟨y, rfl, e1⟩ := h1
    match u, h2 with
    | 0, h2 => obtain ⟨w, e2, e3⟩ := h2; cases e2; dsimp only at e1 e3; rw [← e1, ← e3]
    | 1, h2 => obtain ⟨w, e2, e3⟩ := h2; cases e2
    | 2, h2 => exact (show False from h2).elim
    | 3, h2 => exact (show False from h2).elim
    | 4, h2 => exact (show False from h2).elim
    | 5, h2 => obtain ⟨w, e2, e3⟩ := h2; cases e2
    | 6, h2 => obtain ⟨w, e2, e3⟩ := h2; cases e2
    | n + 7, h2 => exact (show False from h2).elim
  | 1, h1 =>
    obtain ⟨y, rfl, e1⟩ := h1
    match u, h2 with
    | 0, h2 => obtain ⟨w, e2, e3⟩ := h2; cases e2
    | 1, h2 => obtain ⟨w, e2, e3⟩ := h2; cases e2; dsimp only at e1 e3; rw [← e1, ← e3]
    | 2, h2 => exact (show False from h2).elim
    | 3, h2 => exact (show False from h2).elim
    | 4, h2 => exact (show False from h2).elim
    | 5, h2 => obtain ⟨w, e2, e3⟩ := h2; cases e2
    | 6, h2 => obtain ⟨w, e2, e3⟩ := h2; cases e2
    | n + 7, h2 => exact (show False from h2).elim
  | 2, h1 => exact (show False from h1).elim
  | 3, h1 => exact (show False from h1).elim
  | 4, h1 => exact (show False from h1).elim
  | 5, h1 =>
    obtain ⟨y, rfl, e1⟩ := h1
    match u, h2 with
    | 0, h2 => obtain ⟨w, e2, e3⟩ := h2; cases e2
    | 1, h2 => obtain ⟨w, e2, e3⟩ := h2; cases e2
    | 2, h2 => exact (show False from h2).elim
    | 3, h2 => exact (show False from h2).elim
    | 4, h2 => exact (show False from h2).elim
    | 5, h2 => obtain ⟨w, e2, e3⟩ := h2; cases e2; dsimp only at e1 e3; rw [← e1, ← e3]
    | 6, h2 => obtain ⟨w, e2, e3⟩ := h2; cases e2
    | n + 7, h2 => exact (show False from h2).elim
  | 6, h1 =>
    obtain ⟨y, rfl, e1⟩ := h1
    match u, h2 with
    | 0, h2 => obtain ⟨w, e2, e3⟩ := h2; cases e2
    | 1, h2 => obtain ⟨w, e2, e3⟩ := h2; cases e2
    | 2, h2 => exact (show False from h2).elim
    | 3, h2 => exact (show False from h2).elim
    | 4, h2 => exact (show False from h2).elim
    | 5, h2 => obtain ⟨w, e2, e3⟩ := h2; cases e2
    | 6, h2 => obtain ⟨w, e2, e3⟩ := h2; cases e2; dsimp only at e1 e3; rw [← e1, ← e3]
    | n + 7, h2 => exact (show False from h2).elim
  | n + 7, h1 => exact (show False from h1).elim
theorem wO_fn {a b : Option wV} {v : Option Value} (h1 : wO a v) (h2 : wO b v) : a = b := by
  cases v with
  | none => cases a with
    | none => cases b with
      | none => rfl
      | some y => exact (show False from h2).elim
    | some x => exact (show False from h1).elim
  | some v => cases a with
    | none => exact (show False from h1).elim
    | some x => cases b with
      | none => exact (show False from h2).elim
      | some y => rw [wR_fn (show wR x v from h1) (show wR y v from h2)]
/-- what comes out is one -/
theorem Cl.fn {E : mE} {k : Nat} {as : List Value} {h : List mO} {v v' : Option Value} {h1 h2 : mH} (c1 : Cl E k as h v h1) (c2 : Cl E k as h v' h2) : v = v' := by
  obtain ⟨S1, ⟨d1, n1, r1⟩, e1, -⟩ := c1
  obtain ⟨S2, ⟨d2, n2, r2⟩, e2, -⟩ := c2
  have g1 := mexec_up d1 (max d1 d2) n1 (max n1 n2) _ _ (by omega) (by omega) r1
  have g2 := mexec_up d2 (max d1 d2) n2 (max n1 n2) _ _ (by omega) (by omega) r2
  rw [g1] at g2
  cases g2
  rw [e1] at e2
  cases e2
  rfl
theorem Cl.fn2 {E : mE} {k : Nat} {as : List Value} {h : List mO} {v v' : Option Value} {h1 h2 : mH} (c1 : Cl E k as h v h1) (c2 : Cl E k as h v' h2) : v = v' ∧ h1 = h2 := by
  obtain ⟨S1, ⟨d1, n1, r1⟩, e1, e3⟩ := c1
  obtain ⟨S2, ⟨d2, n2, r2⟩, e2, e4⟩ := c2
  have g1 := mexec_up d1 (max d1 d2) n1 (max n1 n2) _ _ (by omega) (by omega) r1
  have g2 := mexec_up d2 (max d1 d2) n2 (max n1 n2) _ _ (by omega) (by omega) r2
  rw [g1] at g2
  cases g2
  rw [e1] at e2
  cases e2
  exact ⟨rfl, by rw [← e3, ← e4]⟩
/-- one call, told twice: the answers are the same; one heap is behind both stores -/
theorem Fx.fn {E : mE} {k : Nat} {as : List wV} {σ s1 s2 : wSt} {v v' : Option wV} (ho : Ok [] as σ) (c1 : Fx E k as σ v s1) (c2 : Fx E k as σ v' s2) : v = v' ∧ ∃ h, Wr s1 h ∧ Wr s2 h := by
  obtain ⟨-, ⟨sc, ha⟩, h, hh⟩ := ho
  obtain ⟨vo, w, h', σ', r1, r2, r3, r4, rfl⟩ := c1 sc h ha hh
  obtain ⟨vo2, w2, h2, σ2, q1, q2, q3, q4, rfl⟩ := c2 sc h ha hh
  obtain ⟨e1, e2⟩ := Cl.fn2 r1 q1
  cases e1
  cases e2
  rw [← r4, ← q4]
  exact ⟨wO_fn r2 q2, h', r3, q3⟩
/-- locals that are no longer looked at -/
def wle : List wV → List wV → Prop
  | a :: r, b :: s => (b = a ∨ b = wx) ∧ wle r s
  | [], [] => True
  | _, _ => False
theorem wle_get : ∀ {l l' : List wV}, wle l l' → ∀ (i : Nat) (a : wV), l'[i]? = some a → a.1 ≤ 6 → l[i]? = some a := by
  intro l
  induction l with
  | nil =>
    intro l' h i a ha
    cases l' with
    | nil => cases ha
    | cons b s => exact (show False from h).elim
  | cons p r ih =>
    intro l' h i a ha h6
    cases l' with
    | nil => exact (show False from h).elim
    | cons b s =>
      obtain ⟨h1, h2⟩ := h
      match i with
      | 0 =>
        cases ha
        rcases h1 with rfl | rfl
        · rfl
        · exact absurd h6 (by decide)
      | i + 1 => exact ih h2 i a ha h6
theorem wLr_le {l l' : List wV} {lv : mLv} (h : wLr l lv) (hl : wle l l') : wLr l' lv := fun i a ha h6 => h i a (wle_get hl i a ha h6) h6
theorem wS_k {a : wV} {r : List wV} {v : Value} {s : List Value} (h1 : wR a v) (h2 : wS r s) : wS (a :: r) (v :: s) := ⟨h1, h2⟩
theorem t6_i {x : Int} : (wi x).1 ≤ 6 := Nat.zero_le _
theorem t6_r {x : Nat} : (wr x).1 ≤ 6 := show 1 ≤ 6 by decide
theorem t6_l {x : Int} : (wl x).1 ≤ 6 := show 5 ≤ 6 by decide
section WA
variable {E : mE} {j pc pc' : Nat} {l l' st st' : List wV} {σ σ' : wSt} {P R : Option wV → wSt → Prop} {e : mIns} {y : mMth} {q : Nat × Nat × Nat × Nat}
theorem A_p (he : mlook (mcode j) pc = some e) (ht : mterm e = false) (hi : minv e = false) (hy : mmeth j = some y) (hs : ∀ lv sc, wLr l lv → wS st sc → ∃ lv' sc', mpure y.2.2.1 e lv sc = some (pc', lv', sc') ∧ wLr l' lv' ∧ wS st' sc') (k : At E j pc' l' st' σ R) : At E j pc l st σ R := by
  intro lv sc h nc ns h1 h2 h3
  obtain ⟨lv', sc', g1, g2, g3⟩ := hs lv sc h1 h2
  exact To.pure he ht hi hy g1 (k lv' sc' h nc ns g2 g3 h3)
theorem A_hp (he : mlook (mcode j) pc = some e) (ht : mterm e = false) (hi : minv e = false) (hy : mmeth j = some y) (h0 : ∀ lv sc, mpure y.2.2.1 e lv sc = none) (hs : ∀ sc h nc ns, wS st sc → Wr σ h → ∃ sc' h', mheap E e sc (h, nc, ns) = some (pc', sc', (h', nc, ns)) ∧ wS st' sc' ∧ Wr σ' h') (k : At E j pc' l st' σ' R) : At E j pc l st σ R := by
  intro lv sc h nc ns h1 h2 h3
  obtain ⟨sc', h', g1, g2, g3⟩ := hs sc h nc ns h2 h3
  exact To.heap he ht hi hy (h0 lv sc) g1 (k lv sc' h' nc ns h1 g2 g3)
theorem B_p (he : mlook (mcode j) pc = some e) (ht : mterm e = false) (hi : minv e = false) (hy : mmeth j = some y) (hs : ∀ lv sc, wLr l lv → wS st sc → ∃ lv' sc', mpure y.2.2.1 e lv sc = some (pc', lv', sc') ∧ wLr l' lv' ∧ wS st' sc') (k : Bt E j pc' l' st' σ P) : Bt E j pc l st σ P := by
  intro ho
  obtain ⟨lv, h1⟩ := ho.1
  obtain ⟨sc, h2⟩ := ho.2.1
  obtain ⟨lv', sc', -, g1, g2⟩ := hs lv sc h1 h2
  obtain ⟨vo, a, hp, k1⟩ := k ⟨⟨lv', g1⟩, ⟨sc', g2⟩, ho.2.2⟩
  exact ⟨vo, a, hp, A_p he ht hi hy hs k1⟩
theorem B_hp (he : mlook (mcode j) pc = some e) (ht : mterm e = false) (hi : minv e = false) (hy : mmeth j = some y) (h0 : ∀ lv sc, mpure y.2.2.1 e lv sc = none) (hs : ∀ sc h nc ns, wS st sc → Wr σ h → ∃ sc' h', mheap E e sc (h, nc, ns) = some (pc', sc', (h', nc, ns)) ∧ wS st' sc' ∧ Wr σ' h') (k : Bt E j pc' l st' σ' P) : Bt E j pc l st σ P := by
  intro ho
  obtain ⟨sc, h2⟩ := ho.2.1
  obtain ⟨h3, h4⟩ := ho.2.2
  obtain ⟨sc', h', -, g1, g2⟩ := hs sc h3 0 0 h2 h4
  obtain ⟨vo, a, hp, k1⟩ := k ⟨ho.1, ⟨sc', g1⟩, ⟨h', g2⟩⟩
  exact ⟨vo, a, hp, A_hp he ht hi hy h0 hs k1⟩
theorem B_loc (hl : wle l l') (k : Bt E j pc l' st σ P) : Bt E j pc l st σ P := by
  intro ho
  obtain ⟨lv, h1⟩ := ho.1
  obtain ⟨vo, a, hp, k1⟩ := k ⟨⟨lv, wLr_le h1 hl⟩, ho.2.1, ho.2.2⟩
  exact ⟨vo, a, hp, fun lv sc h nc ns g1 g2 g3 => k1 lv sc h nc ns (wLr_le g1 hl) g2 g3⟩
/-! ranges -/
theorem B_top {x : Int} (k : wI x → Bt E j pc l (wi x :: st) σ P) : Bt E j pc l (wi x :: st) σ P := by
  intro ho
  obtain ⟨sc, h2⟩ := ho.2.1
  obtain ⟨v, rc, rfl, h4, -⟩ := wS_c h2
  exact k (wR_rng h4) ho
theorem B_rng {x : Int} (i : Nat) (hg : l[i]? = some (wi x)) (k : wI x → Bt E j pc l st σ P) : Bt E j pc l st σ P := by
  intro ho
  obtain ⟨lv, h1⟩ := ho.1
  obtain ⟨v, -, h5⟩ := h1 i _ hg (by first | exact t6_i | exact t6_r | exact t6_l)
  exact k (wR_rng h5) ho
theorem wInt_rng {c a b : Nat} {ρ : wSt} (hb : wInt c a b = true) (hk : kn ρ a b) (h : ∃ h, Wr ρ h) : wI (gv ρ a b) := by
  obtain ⟨h, hw⟩ := h
  obtain ⟨-, fs, x, -, -, h6⟩ := wInt_at hw hb
  exact wR_rng (wR_mi2 (h6 hk))
theorem wRow_rng {a n : Nat} {ρ : wSt} (hb : wRow a = some n) (h : ∃ h, Wr ρ h) : ∀ i, i < n → kn ρ a i → wI (gv ρ a i) := by
  obtain ⟨h, hw⟩ := h
  obtain ⟨-, u, -, h6⟩ := wRow_at hw hb
  exact fun i hi hk => wR_rng (wR_mi2 (h6 i hi hk))
/-- an int of the heap has an int's range -/
theorem B_rngF {c a b : Nat} (hb : wInt c a b = true) (hk : kn σ a b) (k : wI (gv σ a b) → Bt E j pc l st σ P) : Bt E j pc l st σ P := fun ho => k (wInt_rng hb hk ho.2.2) ho
theorem B_rngR {a n : Nat} (hb : wRow a = some n) (k : (∀ i, i < n → kn σ a i → wI (gv σ a i)) → Bt E j pc l st σ P) : Bt E j pc l st σ P := fun ho => k (wRow_rng hb ho.2.2) ho
theorem Fn_rngF {c a b k9 : Nat} {as : List wV} {Q : Option wV → wSt → Prop} (hb : wInt c a b = true) (hk : kn σ a b) (k : wI (gv σ a b) → Fn E k9 as σ Q) : Fn E k9 as σ Q := fun ho => k (wInt_rng hb hk ho.2.2) ho
theorem Fn_ok {k9 : Nat} {as : List wV} {Q : Option wV → wSt → Prop} (k : Ok [] as σ → Fn E k9 as σ Q) : Fn E k9 as σ Q := fun ho => k ho ho
theorem B_ok (k : Ok l st σ → Bt E j pc l st σ P) : Bt E j pc l st σ P := fun ho => k ho ho
/-! constants, locals -/
theorem B_iconst {n : Int} (he : mlook (mcode j) pc = some (pc, .iconst n, q)) (hy : mmeth j = some y) (hn : -2147483648 ≤ n ∧ n < 2147483648) (k : Bt E j (pc + 1) l (wi n :: st) σ P) : Bt E j pc l st σ P := by
  refine B_p he rfl rfl hy (fun lv sc h1 h2 => ?_) k
  exact ⟨lv, _, rfl, h1, wR_mi2 (fb_ofI hn.1 hn.2), h2⟩
theorem B_bipush {n : Int} (he : mlook (mcode j) pc = some (pc, .bipush n, q)) (hy : mmeth j = some y) (hn : (Int8.ofInt n).toInt32.toInt = n) (k : Bt E j (pc + 2) l (wi n :: st) σ P) : Bt E j pc l st σ P := by
  refine B_p he rfl rfl hy (fun lv sc h1 h2 => ?_) k
  exact ⟨lv, _, rfl, h1, wR_mi2 hn, h2⟩
theorem B_sipush {n : Int} (he : mlook (mcode j) pc = some (pc, .sipush n, q)) (hy : mmeth j = some y) (hn : (Int16.ofInt n).toInt32.toInt = n) (k : Bt E j (pc + 3) l (wi n :: st) σ P) : Bt E j pc l st σ P := by
  refine B_p he rfl rfl hy (fun lv sc h1 h2 => ?_) k
  exact ⟨lv, _, rfl, h1, wR_mi2 hn, h2⟩
theorem B_lconst {n : Int} {m : Fin 2} (he : mlook (mcode j) pc = some (pc, .lconst m, q)) (hy : mmeth j = some y) (hn : (Int64.ofNat (m : Nat)).toInt = n) (k : Bt E j (pc + 1) l (wl n :: st) σ P) : Bt E j pc l st σ P := by
  refine B_p he rfl rfl hy (fun lv sc h1 h2 => ?_) k
  exact ⟨lv, _, rfl, h1, wR_ml hn, h2⟩
theorem B_iloadn {m : Fin 4} {x : Int} (he : mlook (mcode j) pc = some (pc, .iload_n m, q)) (hy : mmeth j = some y) (hg : l[(m : Nat)]? = some (wi x)) (k : Bt E j (pc + 1) l (wi x :: st) σ P) : Bt E j pc l st σ P := by
  refine B_p he rfl rfl hy (fun lv sc h1 h2 => ?_) k
  obtain ⟨v, h3, h4⟩ := h1 _ _ hg (by first | exact t6_i | exact t6_r | exact t6_l)
  obtain ⟨z, rfl, h5⟩ := wR_i h4
  exact ⟨lv, .int z :: sc, by simp only [mpure]; rw [h3], h1, h4, h2⟩
theorem B_iload {m : Nat} {x : Int} (he : mlook (mcode j) pc = some (pc, .iload m, q)) (hy : mmeth j = some y) (hg : l[m]? = some (wi x)) (k : Bt E j (pc + 2) l (wi x :: st) σ P) : Bt E j pc l st σ P := by
  refine B_p he rfl rfl hy (fun lv sc h1 h2 => ?_) k
  obtain ⟨v, h3, h4⟩ := h1 _ _ hg (by first | exact t6_i | exact t6_r | exact t6_l)
  obtain ⟨z, rfl, h5⟩ := wR_i h4
  exact ⟨lv, .int z :: sc, by simp only [mpure]; rw [h3], h1, h4, h2⟩
theorem B_lloadn {m : Fin 4} {x : Int} (he : mlook (mcode j) pc = some (pc, .lload_n m, q)) (hy : mmeth j = some y) (hg : l[(m : Nat)]? = some (wl x)) (k : Bt E j (pc + 1) l (wl x :: st) σ P) : Bt E j pc l st σ P := by
  refine B_p he rfl rfl hy (fun lv sc h1 h2 => ?_) k
  obtain ⟨v, h3, h4⟩ := h1 _ _ hg (by first | exact t6_i | exact t6_r | exact t6_l)
  obtain ⟨z, rfl, h5⟩ := wR_l h4
  exact ⟨lv, .long z :: sc, by simp only [mpure]; rw [h3], h1, h4, h2⟩
theorem B_lload {m : Nat} {x : Int} (he : mlook (mcode j) pc = some (pc, .lload m, q)) (hy : mmeth j = some y) (hg : l[m]? = some (wl x)) (k : Bt E j (pc + 2) l (wl x :: st) σ P) : Bt E j pc l st σ P := by
  refine B_p he rfl rfl hy (fun lv sc h1 h2 => ?_) k
  obtain ⟨v, h3, h4⟩ := h1 _ _ hg (by first | exact t6_i | exact t6_r | exact t6_l)
  obtain ⟨z, rfl, h5⟩ := wR_l h4
  exact ⟨lv, .long z :: sc, by simp only [mpure]; rw [h3], h1, h4, h2⟩
theorem B_aloadn {m : Fin 4} {a : Nat} (he : mlook (mcode j) pc = some (pc, .aload_n m, q)) (hy : mmeth j = some y) (hg : l[(m : Nat)]? = some (wr a)) (k : Bt E j (pc + 1) l (wr a :: st) σ P) : Bt E j pc l st σ P := by
  refine B_p he rfl rfl hy (fun lv sc h1 h2 => ?_) k
  obtain ⟨v, h3, h4⟩ := h1 _ _ hg (by first | exact t6_i | exact t6_r | exact t6_l)
  cases wR_r h4
  exact ⟨lv, .ref a :: sc, by simp only [mpure]; rw [h3], h1, h4, h2⟩
theorem B_aload {m a : Nat} (he : mlook (mcode j) pc = some (pc, .aload m, q)) (hy : mmeth j = some y) (hg : l[m]? = some (wr a)) (k : Bt E j (pc + 2) l (wr a :: st) σ P) : Bt E j pc l st σ P := by
  refine B_p he rfl rfl hy (fun lv sc h1 h2 => ?_) k
  obtain ⟨v, h3, h4⟩ := h1 _ _ hg (by first | exact t6_i | exact t6_r | exact t6_l)
  cases wR_r h4
  exact ⟨lv, .ref a :: sc, by simp only [mpure]; rw [h3], h1, h4, h2⟩
theorem B_istoren {m : Fin 4} {x : Int} (he : mlook (mcode j) pc = some (pc, .istore_n m, q)) (hy : mmeth j = some y) (hn : (m : Nat) < y.2.2.1) (hp : wnc l (m : Nat) = true) (hl : l.set (m : Nat) (wi x) = l') (k : Bt E j (pc + 1) l' st σ P) : Bt E j pc l (wi x :: st) σ P := by
  subst hl
  refine B_p he rfl rfl hy (fun lv sc h1 h2 => ?_) k
  obtain ⟨v, rc, rfl, h4, h5⟩ := wS_c h2
  obtain ⟨z, rfl, h6⟩ := wR_i h4
  exact ⟨_, rc, by simp only [mpure]; rw [if_pos hn], wLr_set1 h1 h4 hp, h5⟩
theorem B_istore {m : Nat} {x : Int} (he : mlook (mcode j) pc = some (pc, .istore m, q)) (hy : mmeth j = some y) (hn : m < y.2.2.1) (hp : wnc l m = true) (hl : l.set m (wi x) = l') (k : Bt E j (pc + 2) l' st σ P) : Bt E j pc l (wi x :: st) σ P := by
  subst hl
  refine B_p he rfl rfl hy (fun lv sc h1 h2 => ?_) k
  obtain ⟨v, rc, rfl, h4, h5⟩ := wS_c h2
  obtain ⟨z, rfl, h6⟩ := wR_i h4
  exact ⟨_, rc, by simp only [mpure]; rw [if_pos hn], wLr_set1 h1 h4 hp, h5⟩
theorem B_astoren {m : Fin 4} {a : Nat} (he : mlook (mcode j) pc = some (pc, .astore_n m, q)) (hy : mmeth j = some y) (hn : (m : Nat) < y.2.2.1) (hp : wnc l (m : Nat) = true) (hl : l.set (m : Nat) (wr a) = l') (k : Bt E j (pc + 1) l' st σ P) : Bt E j pc l (wr a :: st) σ P := by
  subst hl
  refine B_p he rfl rfl hy (fun lv sc h1 h2 => ?_) k
  obtain ⟨v, rc, rfl, h4, h5⟩ := wS_c h2
  cases wR_r h4
  exact ⟨_, rc, by simp only [mpure]; rw [if_pos hn], wLr_set1 h1 h4 hp, h5⟩
theorem B_astore {m a : Nat} (he : mlook (mcode j) pc = some (pc, .astore m, q)) (hy : mmeth j = some y) (hn : m < y.2.2.1) (hp : wnc l m = true) (hl : l.set m (wr a) = l') (k : Bt E j (pc + 2) l' st σ P) : Bt E j pc l (wr a :: st) σ P := by
  subst hl
  refine B_p he rfl rfl hy (fun lv sc h1 h2 => ?_) k
  obtain ⟨v, rc, rfl, h4, h5⟩ := wS_c h2
  cases wR_r h4
  exact ⟨_, rc, by simp only [mpure]; rw [if_pos hn], wLr_set1 h1 h4 hp, h5⟩
theorem B_lstoren {m : Fin 4} {x : Int} (he : mlook (mcode j) pc = some (pc, .lstore_n m, q)) (hy : mmeth j = some y) (hn : (m : Nat) + 1 < y.2.2.1) (hp : wnc l (m : Nat) = true) (hl : (l.set (m : Nat) (wl x)).set ((m : Nat) + 1) wx = l') (k : Bt E j (pc + 1) l' st σ P) : Bt E j pc l (wl x :: st) σ P := by
  subst hl
  refine B_p he rfl rfl hy (fun lv sc h1 h2 => ?_) k
  obtain ⟨v, rc, rfl, h4, h5⟩ := wS_c h2
  obtain ⟨z, rfl, h6⟩ := wR_l h4
  exact ⟨_, rc, by simp only [mpure]; rw [if_pos hn], wLr_set2 h1 h4 hp, h5⟩
theorem B_lstore {m : Nat} {x : Int} (he : mlook (mcode j) pc = some (pc, .lstore m, q)) (hy : mmeth j = some y) (hn : m + 1 < y.2.2.1) (hp : wnc l m = true) (hl : (l.set m (wl x)).set (m + 1) wx = l') (k : Bt E j (pc + 2) l' st σ P) : Bt E j pc l (wl x :: st) σ P := by
  subst hl
  refine B_p he rfl rfl hy (fun lv sc h1 h2 => ?_) k
  obtain ⟨v, rc, rfl, h4, h5⟩ := wS_c h2
  obtain ⟨z, rfl, h6⟩ := wR_l h4
  exact ⟨_, rc, by simp only [mpure]; rw [if_pos hn], wLr_set2 h1 h4 hp, h5⟩
theorem B_iinc {m : Nat} {n x : Int} (he : mlook (mcode j) pc = some (pc, .iinc m n, q)) (hy : mmeth j = some y) (hn : m < y.2.2.1) (hg : l[m]? = some (wi x)) (hc : (Int32.ofInt n).toInt = n) (hp : wnc l m = true) (h1 : -2147483648 ≤ x + n) (h2 : x + n < 2147483648) (hl : l.set m (wi (x + n)) = l') (k : Bt E j (pc + 3) l' st σ P) : Bt E j pc l st σ P := by
  subst hl
  refine B_p he rfl rfl hy (fun lv sc g1 g2 => ?_) k
  obtain ⟨v, h3, h4⟩ := g1 _ _ hg (by first | exact t6_i | exact t6_r | exact t6_l)
  obtain ⟨z, rfl, h5⟩ := wR_i h4
  exact ⟨_, sc, by simp only [mpure]; rw [h3]; dsimp only; rw [if_pos hn], wLr_set1 g1 (wR_mi2 (by rw [fb_addI (by omega) (by omega)]; omega)) hp, g2⟩
/-! arithmetic -/
theorem B_iadd {x z : Int} (he : mlook (mcode j) pc = some (pc, .iadd, q)) (hy : mmeth j = some y) (h1 : -2147483648 ≤ x + z) (h2 : x + z < 2147483648) (k : Bt E j (pc + 1) l (wi (x + z) :: st) σ P) : Bt E j pc l (wi z :: wi x :: st) σ P := by
  refine B_p he rfl rfl hy (fun lv sc g1 g2 => ?_) k
  obtain ⟨v, rc, rfl, h4, h5⟩ := wS_c g2
  obtain ⟨v2, rc2, rfl, h6, h7⟩ := wS_c h5
  obtain ⟨a, rfl, e1⟩ := wR_i h4
  obtain ⟨b, rfl, e2⟩ := wR_i h6
  exact ⟨lv, _, rfl, g1, wR_mi2 (by rw [fb_addI (by omega) (by omega)]; omega), h7⟩
theorem B_isub {x z : Int} (he : mlook (mcode j) pc = some (pc, .isub, q)) (hy : mmeth j = some y) (h1 : -2147483648 ≤ x - z) (h2 : x - z < 2147483648) (k : Bt E j (pc + 1) l (wi (x - z) :: st) σ P) : Bt E j pc l (wi z :: wi x :: st) σ P := by
  refine B_p he rfl rfl hy (fun lv sc g1 g2 => ?_) k
  obtain ⟨v, rc, rfl, h4, h5⟩ := wS_c g2
  obtain ⟨v2, rc2, rfl, h6, h7⟩ := wS_c h5
  obtain ⟨a, rfl, e1⟩ := wR_i h4
  obtain ⟨b, rfl, e2⟩ := wR_i h6
  exact ⟨lv, _, rfl, g1, wR_mi2 (by rw [fb_subI (by omega) (by omega)]; omega), h7⟩
theorem B_imul {x z : Int} (he : mlook (mcode j) pc = some (pc, .imul, q)) (hy : mmeth j = some y) (h1 : -2147483648 ≤ x * z) (h2 : x * z < 2147483648) (k : Bt E j (pc + 1) l (wi (x * z) :: st) σ P) : Bt E j pc l (wi z :: wi x :: st) σ P := by
  refine B_p he rfl rfl hy (fun lv sc g1 g2 => ?_) k
  obtain ⟨v, rc, rfl, h4, h5⟩ := wS_c g2
  obtain ⟨v2, rc2, rfl, h6, h7⟩ := wS_c h5
  obtain ⟨a, rfl, rfl⟩ := wR_i h4
  obtain ⟨b, rfl, rfl⟩ := wR_i h6
  exact ⟨lv, _, rfl, g1, wR_mi2 (fb_mulI h1 h2), h7⟩
/-- an int's 32 bits -/
def w32 (z : Int) : Int := (Int32.ofInt z).toInt
theorem w32_rng (z : Int) : wI (w32 z) := wR_rng (wR_mi (Int32.ofInt z))
theorem w32_eq {z : Int} (h1 : -2147483648 ≤ z) (h2 : z < 2147483648) : w32 z = z := fb_ofI h1 h2
theorem w32_add (a b : Int32) : w32 (a.toInt + b.toInt) = (a + b).toInt := by
  unfold w32
  rw [Int32.toInt_ofInt, Int32.toInt_add]
theorem w32_sub (a b : Int32) : w32 (a.toInt - b.toInt) = (a - b).toInt := by
  unfold w32
  rw [Int32.toInt_ofInt, Int32.toInt_sub]
theorem w32_mul (a b : Int32) : w32 (a.toInt * b.toInt) = (a * b).toInt := by
  unfold w32
  rw [Int32.toInt_ofInt, Int32.toInt_mul]
theorem w32_neg (a : Int32) : w32 (-a.toInt) = (-a).toInt := by
  unfold w32
  rw [Int32.toInt_ofInt, Int32.toInt_neg]
theorem B_iaddW {x z : Int} (he : mlook (mcode j) pc = some (pc, .iadd, q)) (hy : mmeth j = some y) (k : Bt E j (pc + 1) l (wi (w32 (x + z)) :: st) σ P) : Bt E j pc l (wi z :: wi x :: st) σ P := by
  refine B_p he rfl rfl hy (fun lv sc g1 g2 => ?_) k
  obtain ⟨v, rc, rfl, h4, h5⟩ := wS_c g2
  obtain ⟨v2, rc2, rfl, h6, h7⟩ := wS_c h5
  obtain ⟨a, rfl, rfl⟩ := wR_i h4
  obtain ⟨b, rfl, rfl⟩ := wR_i h6
  exact ⟨lv, _, rfl, g1, wR_mi2 (w32_add b a).symm, h7⟩
theorem B_isubW {x z : Int} (he : mlook (mcode j) pc = some (pc, .isub, q)) (hy : mmeth j = some y) (k : Bt E j (pc + 1) l (wi (w32 (x - z)) :: st) σ P) : Bt E j pc l (wi z :: wi x :: st) σ P := by
  refine B_p he rfl rfl hy (fun lv sc g1 g2 => ?_) k
  obtain ⟨v, rc, rfl, h4, h5⟩ := wS_c g2
  obtain ⟨v2, rc2, rfl, h6, h7⟩ := wS_c h5
  obtain ⟨a, rfl, rfl⟩ := wR_i h4
  obtain ⟨b, rfl, rfl⟩ := wR_i h6
  exact ⟨lv, _, rfl, g1, wR_mi2 (w32_sub b a).symm, h7⟩
theorem B_imulW {x z : Int} (he : mlook (mcode j) pc = some (pc, .imul, q)) (hy : mmeth j = some y) (k : Bt E j (pc + 1) l (wi (w32 (x * z)) :: st) σ P) : Bt E j pc l (wi z :: wi x :: st) σ P := by
  refine B_p he rfl rfl hy (fun lv sc g1 g2 => ?_) k
  obtain ⟨v, rc, rfl, h4, h5⟩ := wS_c g2
  obtain ⟨v2, rc2, rfl, h6, h7⟩ := wS_c h5
  obtain ⟨a, rfl, rfl⟩ := wR_i h4
  obtain ⟨b, rfl, rfl⟩ := wR_i h6
  exact ⟨lv, _, rfl, g1, wR_mi2 (w32_mul b a).symm, h7⟩
theorem B_inegW {x : Int} (he : mlook (mcode j) pc = some (pc, .ineg, q)) (hy : mmeth j = some y) (k : Bt E j (pc + 1) l (wi (w32 (-x)) :: st) σ P) : Bt E j pc l (wi x :: st) σ P := by
  refine B_p he rfl rfl hy (fun lv sc g1 g2 => ?_) k
  obtain ⟨v, rc, rfl, h4, h5⟩ := wS_c g2
  obtain ⟨a, rfl, rfl⟩ := wR_i h4
  exact ⟨lv, _, rfl, g1, wR_mi2 (w32_neg a).symm, h5⟩
def wshr (x z : Int) : Int := (Int32.ofInt x >>> (Int32.ofInt z &&& 31)).toInt
theorem wshr_rng (x z : Int) : wI (wshr x z) := wR_rng (wR_mi _)
theorem B_ishr {x z : Int} (he : mlook (mcode j) pc = some (pc, .ishr, q)) (hy : mmeth j = some y) (k : Bt E j (pc + 1) l (wi (wshr x z) :: st) σ P) : Bt E j pc l (wi z :: wi x :: st) σ P := by
  refine B_p he rfl rfl hy (fun lv sc g1 g2 => ?_) k
  obtain ⟨v, rc, rfl, h4, h5⟩ := wS_c g2
  obtain ⟨v2, rc2, rfl, h6, h7⟩ := wS_c h5
  obtain ⟨a, rfl, rfl⟩ := wR_i h4
  obtain ⟨b, rfl, rfl⟩ := wR_i h6
  exact ⟨lv, _, rfl, g1, wR_mi2 (by unfold wshr; rw [Int32.ofInt_toInt, Int32.ofInt_toInt]), h7⟩
/-- the lower 31 bits: not below 0 -/
theorem wand31 (b : Int32) : 0 ≤ (b &&& 2147483647).toInt := by
  have h1 : (b &&& 2147483647).toInt = (b &&& 2147483647).toBitVec.toInt := rfl
  have h2 : (b &&& 2147483647).toBitVec = b.toBitVec &&& (2147483647 : Int32).toBitVec := Int32.toBitVec_and b 2147483647
  have h3 : (b.toBitVec &&& (2147483647 : Int32).toBitVec).toNat ≤ 2147483647 := by
    rw [BitVec.toNat_and]
    exact Nat.and_le_right
  rw [h1, h2, BitVec.toInt_eq_toNat_of_lt (by omega)]
  omega
def wand (x : Int) : Int := (Int32.ofInt x &&& 2147483647).toInt
theorem wand_rng (x : Int) : 0 ≤ wand x ∧ wand x < 2147483648 := ⟨wand31 _, (wR_rng (wR_mi _)).2⟩
theorem B_iand31 {x : Int} (he : mlook (mcode j) pc = some (pc, .iand, q)) (hy : mmeth j = some y) (k : Bt E j (pc + 1) l (wi (wand x) :: st) σ P) : Bt E j pc l (wi 2147483647 :: wi x :: st) σ P := by
  refine B_p he rfl rfl hy (fun lv sc g1 g2 => ?_) k
  obtain ⟨v, rc, rfl, h4, h5⟩ := wS_c g2
  obtain ⟨v2, rc2, rfl, h6, h7⟩ := wS_c h5
  obtain ⟨a, rfl, e1⟩ := wR_i h4
  obtain ⟨b, rfl, rfl⟩ := wR_i h6
  have ha : a = 2147483647 := by
    rw [fa_eq, e1]
    rfl
  subst ha
  exact ⟨lv, _, rfl, g1, wR_mi2 (by unfold wand; rw [Int32.ofInt_toInt]), h7⟩
theorem wdivN {x z : Int32} (h1 : 0 ≤ x.toInt) (h2 : 0 < z.toInt) : (x / z).toInt = x.toInt / z.toInt ∧ (x - x / z * z).toInt = x.toInt % z.toInt := by
  have b1 := fb_rng x
  have b2 := fb_rng z
  have e1 : x = nI x.toInt.toNat := by rw [fa_eq, nI_toInt (by omega)]; omega
  have e2 : z = nI z.toInt.toNat := by rw [fa_eq, nI_toInt (by omega)]; omega
  have c1 : x.toInt.toNat < 2147483648 := by omega
  have c2 : z.toInt.toNat < 2147483648 := by omega
  have c3 : 0 < z.toInt.toNat := by omega
  have d1 : ((x.toInt.toNat / z.toInt.toNat : Nat) : Int) = x.toInt / z.toInt := by
    rw [Int.natCast_ediv, Int.toNat_of_nonneg h1, Int.toNat_of_nonneg (by omega)]
  have d2 : ((x.toInt.toNat % z.toInt.toNat : Nat) : Int) = x.toInt % z.toInt := by
    rw [Int.natCast_emod, Int.toNat_of_nonneg h1, Int.toNat_of_nonneg (by omega)]
  generalize x.toInt.toNat = n at e1 c1 d1 d2
  generalize z.toInt.toNat = d at e2 c2 c3 d1 d2
  refine ⟨?_, ?_⟩
  · rw [← d1, e1, e2, pk_div c1 c3 c2, nI_toInt (Nat.lt_of_le_of_lt (Nat.div_le_self _ _) c1)]
  · have c4 := Nat.mod_lt n c3
    rw [← d2, e1, e2, pk_rem c1 c3 c2, nI_toInt (by omega)]
theorem B_ineg {x : Int} (he : mlook (mcode j) pc = some (pc, .ineg, q)) (hy : mmeth j = some y) (h1 : -2147483648 < x) (k : Bt E j (pc + 1) l (wi (-x) :: st) σ P) : Bt E j pc l (wi x :: st) σ P := by
  refine B_p he rfl rfl hy (fun lv sc g1 g2 => ?_) k
  obtain ⟨v, rc, rfl, h4, h5⟩ := wS_c g2
  obtain ⟨a, rfl, e1⟩ := wR_i h4
  exact ⟨lv, _, rfl, g1, wR_mi2 (by rw [fb_negI (by omega)]; omega), h5⟩
theorem B_idiv {x z : Int} (he : mlook (mcode j) pc = some (pc, .idiv, q)) (hy : mmeth j = some y) (h1 : 0 ≤ x) (h2 : 0 < z) (k : Bt E j (pc + 1) l (wi (x / z) :: st) σ P) : Bt E j pc l (wi z :: wi x :: st) σ P := by
  refine B_p he rfl rfl hy (fun lv sc g1 g2 => ?_) k
  obtain ⟨v, rc, rfl, h4, h5⟩ := wS_c g2
  obtain ⟨v2, rc2, rfl, h6, h7⟩ := wS_c h5
  obtain ⟨a, rfl, rfl⟩ := wR_i h4
  obtain ⟨b, rfl, rfl⟩ := wR_i h6
  exact ⟨lv, _, by simp only [mpure]; rw [if_neg (fun e9 => by rw [e9] at h2; exact absurd h2 (by decide))], g1, wS_k (wR_mi2 (wdivN h1 h2).1) h7⟩
theorem B_irem {x z : Int} (he : mlook (mcode j) pc = some (pc, .irem, q)) (hy : mmeth j = some y) (h1 : 0 ≤ x) (h2 : 0 < z) (k : Bt E j (pc + 1) l (wi (x % z) :: st) σ P) : Bt E j pc l (wi z :: wi x :: st) σ P := by
  refine B_p he rfl rfl hy (fun lv sc g1 g2 => ?_) k
  obtain ⟨v, rc, rfl, h4, h5⟩ := wS_c g2
  obtain ⟨v2, rc2, rfl, h6, h7⟩ := wS_c h5
  obtain ⟨a, rfl, rfl⟩ := wR_i h4
  obtain ⟨b, rfl, rfl⟩ := wR_i h6
  exact ⟨lv, _, by simp only [mpure]; rw [if_neg (fun e9 => by rw [e9] at h2; exact absurd h2 (by decide))], g1, wS_k (wR_mi2 (wdivN h1 h2).2) h7⟩
/-! longs, doubles -/
def wla (a b : Int) : Int := (Int64.ofInt a + Int64.ofInt b).toInt
def wlm (a b : Int) : Int := (Int64.ofInt a * Int64.ofInt b).toInt
theorem B_ladd {x z : Int} (he : mlook (mcode j) pc = some (pc, .ladd, q)) (hy : mmeth j = some y) (k : Bt E j (pc + 1) l (wl (wla x z) :: st) σ P) : Bt E j pc l (wl z :: wl x :: st) σ P := by
  refine B_p he rfl rfl hy (fun lv sc g1 g2 => ?_) k
  obtain ⟨v, rc, rfl, h4, h5⟩ := wS_c g2
  obtain ⟨v2, rc2, rfl, h6, h7⟩ := wS_c h5
  obtain ⟨a, rfl, rfl⟩ := wR_l h4
  obtain ⟨b, rfl, rfl⟩ := wR_l h6
  exact ⟨lv, _, rfl, g1, wR_ml (by unfold wla; rw [Int64.ofInt_toInt, Int64.ofInt_toInt]), h7⟩
theorem B_lmul {x z : Int} (he : mlook (mcode j) pc = some (pc, .lmul, q)) (hy : mmeth j = some y) (k : Bt E j (pc + 1) l (wl (wlm x z) :: st) σ P) : Bt E j pc l (wl z :: wl x :: st) σ P := by
  refine B_p he rfl rfl hy (fun lv sc g1 g2 => ?_) k
  obtain ⟨v, rc, rfl, h4, h5⟩ := wS_c g2
  obtain ⟨v2, rc2, rfl, h6, h7⟩ := wS_c h5
  obtain ⟨a, rfl, rfl⟩ := wR_l h4
  obtain ⟨b, rfl, rfl⟩ := wR_l h6
  exact ⟨lv, _, rfl, g1, wR_ml (by unfold wlm; rw [Int64.ofInt_toInt, Int64.ofInt_toInt]), h7⟩
theorem B_i2l {x : Int} (he : mlook (mcode j) pc = some (pc, .i2l, q)) (hy : mmeth j = some y) (k : Bt E j (pc + 1) l (wl x :: st) σ P) : Bt E j pc l (wi x :: st) σ P := by
  refine B_p he rfl rfl hy (fun lv sc g1 g2 => ?_) k
  obtain ⟨v, rc, rfl, h4, h5⟩ := wS_c g2
  obtain ⟨a, rfl, rfl⟩ := wR_i h4
  exact ⟨lv, _, rfl, g1, wR_ml (Int32.toInt_toInt64 a), h5⟩
def wlc (x z : Int) : Int := (lg_cmp (Int64.ofInt x) (Int64.ofInt z)).toInt
theorem B_lcmp {x z : Int} (he : mlook (mcode j) pc = some (pc, .lcmp, q)) (hy : mmeth j = some y) (k : (x = z ↔ wlc x z = 0) → Bt E j (pc + 1) l (wi (wlc x z) :: st) σ P) : Bt E j pc l (wl z :: wl x :: st) σ P := by
  intro ho
  have hx : x = z ↔ wlc x z = 0 := by
    obtain ⟨sc, g2⟩ := ho.2.1
    obtain ⟨v, rc, rfl, h4, h5⟩ := wS_c g2
    obtain ⟨v2, rc2, rfl, h6, h7⟩ := wS_c h5
    obtain ⟨a, rfl, rfl⟩ := wR_l h4
    obtain ⟨b, rfl, rfl⟩ := wR_l h6
    unfold wlc lg_cmp
    rw [Int64.ofInt_toInt, Int64.ofInt_toInt, Int64.toInt_inj]
    by_cases h8 : b = a
    · subst h8
      simp
    · by_cases h9 : b < a
      · simp [h8, h9] <;> split <;> decide
      · simp [h8, h9] <;> split <;> decide
  refine B_p he rfl rfl hy (fun lv sc g1 g2 => ?_) (k hx) ho
  obtain ⟨v, rc, rfl, h4, h5⟩ := wS_c g2
  obtain ⟨v2, rc2, rfl, h6, h7⟩ := wS_c h5
  obtain ⟨a, rfl, rfl⟩ := wR_l h4
  obtain ⟨b, rfl, rfl⟩ := wR_l h6
  exact ⟨lv, _, rfl, g1, wR_mi2 (by unfold wlc; rw [Int64.ofInt_toInt, Int64.ofInt_toInt]), h7⟩
theorem B_i2d {x : Int} (he : mlook (mcode j) pc = some (pc, .i2d, q)) (hy : mmeth j = some y) (k : Bt E j (pc + 1) l (wd (FP.i2d (Int32.ofInt x)) :: st) σ P) : Bt E j pc l (wi x :: st) σ P := by
  refine B_p he rfl rfl hy (fun lv sc g1 g2 => ?_) k
  obtain ⟨v, rc, rfl, h4, h5⟩ := wS_c g2
  obtain ⟨a, rfl, rfl⟩ := wR_i h4
  exact ⟨lv, _, rfl, g1, by rw [Int32.ofInt_toInt]; exact wR_md _, h5⟩
theorem B_l2d {x : Int} (he : mlook (mcode j) pc = some (pc, .l2d, q)) (hy : mmeth j = some y) (k : Bt E j (pc + 1) l (wd (FP.l2d (Int64.ofInt x)) :: st) σ P) : Bt E j pc l (wl x :: st) σ P := by
  refine B_p he rfl rfl hy (fun lv sc g1 g2 => ?_) k
  obtain ⟨v, rc, rfl, h4, h5⟩ := wS_c g2
  obtain ⟨a, rfl, rfl⟩ := wR_l h4
  exact ⟨lv, _, rfl, g1, by rw [Int64.ofInt_toInt]; exact wR_md _, h5⟩
theorem B_dconst {m : Fin 2} (he : mlook (mcode j) pc = some (pc, .dconst m, q)) (hy : mmeth j = some y) (h0 : (m : Nat) = 0) (k : Bt E j (pc + 1) l (wd FP.dconst0 :: st) σ P) : Bt E j pc l st σ P := by
  refine B_p he rfl rfl hy (fun lv sc g1 g2 => ?_) k
  exact ⟨lv, _, by simp only [mpure]; rw [if_pos h0], g1, wS_k (wR_md _) g2⟩
theorem B_ddiv {x z : UInt64} (he : mlook (mcode j) pc = some (pc, .ddiv, q)) (hy : mmeth j = some y) (hn : FP.ddiv x z &&& 0x7fffffffffffffff ≤ 0x7ff0000000000000) (k : Bt E j (pc + 1) l (wd (FP.ddiv x z) :: st) σ P) : Bt E j pc l (wd z :: wd x :: st) σ P := by
  refine B_p he rfl rfl hy (fun lv sc g1 g2 => ?_) k
  obtain ⟨v, rc, rfl, h4, h5⟩ := wS_c g2
  obtain ⟨v2, rc2, rfl, h6, h7⟩ := wS_c h5
  cases wR_d h4
  cases wR_d h6
  exact ⟨lv, _, by simp only [mpure]; rw [if_pos hn], g1, wS_k (wR_md _) h7⟩
theorem B_dcmp {x z : UInt64} {op} (he : mlook (mcode j) pc = some (pc, .dcmp op, q)) (hy : mmeth j = some y) (k : Bt E j (pc + 1) l (wi (Op.cmpValue (FP.dcmp x z) op).toInt :: st) σ P) : Bt E j pc l (wd z :: wd x :: st) σ P := by
  refine B_p he rfl rfl hy (fun lv sc g1 g2 => ?_) k
  obtain ⟨v, rc, rfl, h4, h5⟩ := wS_c g2
  obtain ⟨v2, rc2, rfl, h6, h7⟩ := wS_c h5
  cases wR_d h4
  cases wR_d h6
  exact ⟨lv, _, rfl, g1, wR_mi _, h7⟩
theorem B_dup {a : wV} (he : mlook (mcode j) pc = some (pc, .dup, q)) (hy : mmeth j = some y) (h1 : a.1 ≤ 4) (k : Bt E j (pc + 1) l (a :: a :: st) σ P) : Bt E j pc l (a :: st) σ P := by
  refine B_p he rfl rfl hy (fun lv sc g1 g2 => ?_) k
  obtain ⟨v, rc, rfl, h4, h5⟩ := wS_c g2
  exact ⟨lv, _, by simp only [mpure]; rw [if_pos ((wR_cat h4).2.1 h1)], g1, wS_k h4 (wS_k h4 h5)⟩
theorem B_pop {a : wV} (he : mlook (mcode j) pc = some (pc, .pop, q)) (hy : mmeth j = some y) (h1 : a.1 ≤ 4) (k : Bt E j (pc + 1) l st σ P) : Bt E j pc l (a :: st) σ P := by
  refine B_p he rfl rfl hy (fun lv sc g1 g2 => ?_) k
  obtain ⟨v, rc, rfl, h4, h5⟩ := wS_c g2
  exact ⟨lv, _, by simp only [mpure]; rw [if_pos ((wR_cat h4).2.1 h1)], g1, h5⟩
theorem B_dupx {a b : wV} (he : mlook (mcode j) pc = some (pc, .dup_x1, q)) (hy : mmeth j = some y) (h1 : a.1 ≤ 4) (h2 : b.1 ≤ 4) (k : Bt E j (pc + 1) l (a :: b :: a :: st) σ P) : Bt E j pc l (a :: b :: st) σ P := by
  refine B_p he rfl rfl hy (fun lv sc g1 g2 => ?_) k
  obtain ⟨v, rc, rfl, h4, h5⟩ := wS_c g2
  obtain ⟨v2, rc2, rfl, h6, h7⟩ := wS_c h5
  exact ⟨lv, _, by simp only [mpure]; rw [if_pos ⟨(wR_cat h4).2.1 h1, (wR_cat h6).2.1 h2⟩], g1, wS_k h4 (wS_k h6 (wS_k h4 h7))⟩
theorem B_goto {off : Int} {tgt : Nat} (he : mlook (mcode j) pc = some (pc, .goto off, q)) (hy : mmeth j = some y) (hj : mjmp pc off = true) (htg : mtgt pc off = tgt) (k : Bt E j tgt l st σ P) : Bt E j pc l st σ P := by
  subst htg
  exact B_p he rfl rfl hy (fun lv sc g1 g2 => ⟨lv, sc, by simp only [mpure]; rw [if_pos hj], g1, g2⟩) k
theorem w0 : (0 : Int32).toInt = 0 := rfl
theorem B_if_eq {x : Int} {off : Int} {tgt nx : Nat} (he : mlook (mcode j) pc = some (pc, .ifCond .eq off, q)) (hy : mmeth j = some y) (hj : mjmp pc off = true) (htg : mtgt pc off = tgt) (hnx : pc + 3 = nx) (kt : x = 0 → Bt E j tgt l st σ P) (kf : x ≠ 0 → Bt E j nx l st σ P) : Bt E j pc l (wi x :: st) σ P := by
  subst htg; subst hnx
  by_cases c : x = 0
  · refine B_p (pc' := mtgt pc off) he rfl rfl hy (fun lv sc g1 g2 => ?_) (kt (by omega))
    obtain ⟨v, rc, rfl, h4, h5⟩ := wS_c g2
    obtain ⟨a, rfl, e1⟩ := wR_i h4
    have c2 : a = 0 := by
      rw [fa_eq, w0, e1]
      exact c
    exact ⟨lv, rc, by simp only [mpure]; rw [if_pos hj, if_pos c2], g1, h5⟩
  · refine B_p (pc' := pc + 3) he rfl rfl hy (fun lv sc g1 g2 => ?_) (kf (by omega))
    obtain ⟨v, rc, rfl, h4, h5⟩ := wS_c g2
    obtain ⟨a, rfl, e1⟩ := wR_i h4
    have c2 : ¬ (a = 0) := by
      rw [fa_eq, w0, e1]
      exact c
    exact ⟨lv, rc, by simp only [mpure]; rw [if_pos hj, if_neg c2], g1, h5⟩
theorem B_if_ne {x : Int} {off : Int} {tgt nx : Nat} (he : mlook (mcode j) pc = some (pc, .ifCond .ne off, q)) (hy : mmeth j = some y) (hj : mjmp pc off = true) (htg : mtgt pc off = tgt) (hnx : pc + 3 = nx) (kt : x ≠ 0 → Bt E j tgt l st σ P) (kf : x = 0 → Bt E j nx l st σ P) : Bt E j pc l (wi x :: st) σ P := by
  subst htg; subst hnx
  by_cases c : x = 0
  · refine B_p (pc' := pc + 3) he rfl rfl hy (fun lv sc g1 g2 => ?_) (kf (by omega))
    obtain ⟨v, rc, rfl, h4, h5⟩ := wS_c g2
    obtain ⟨a, rfl, e1⟩ := wR_i h4
    have c2 : a = 0 := by
      rw [fa_eq, w0, e1]
      exact c
    exact ⟨lv, rc, by simp only [mpure]; rw [if_pos hj, if_pos c2], g1, h5⟩
  · refine B_p (pc' := mtgt pc off) he rfl rfl hy (fun lv sc g1 g2 => ?_) (kt (by omega))
    obtain ⟨v, rc, rfl, h4, h5⟩ := wS_c g2
    obtain ⟨a, rfl, e1⟩ := wR_i h4
    have c2 : ¬ (a = 0) := by
      rw [fa_eq, w0, e1]
      exact c
    exact ⟨lv, rc, by simp only [mpure]; rw [if_pos hj, if_neg c2], g1, h5⟩
theorem B_if_lt {x : Int} {off : Int} {tgt nx : Nat} (he : mlook (mcode j) pc = some (pc, .ifCond .lt off, q)) (hy : mmeth j = some y) (hj : mjmp pc off = true) (htg : mtgt pc off = tgt) (hnx : pc + 3 = nx) (kt : x < 0 → Bt E j tgt l st σ P) (kf : 0 ≤ x → Bt E j nx l st σ P) : Bt E j pc l (wi x :: st) σ P := by
  subst htg; subst hnx
  by_cases c : x < 0
  · refine B_p (pc' := mtgt pc off) he rfl rfl hy (fun lv sc g1 g2 => ?_) (kt (by omega))
    obtain ⟨v, rc, rfl, h4, h5⟩ := wS_c g2
    obtain ⟨a, rfl, e1⟩ := wR_i h4
    have c2 : a < 0 := by
      rw [fa_lt, w0, e1]
      exact c
    exact ⟨lv, rc, by simp only [mpure]; rw [if_pos hj, if_pos c2], g1, h5⟩
  · refine B_p (pc' := pc + 3) he rfl rfl hy (fun lv sc g1 g2 => ?_) (kf (by omega))
    obtain ⟨v, rc, rfl, h4, h5⟩ := wS_c g2
    obtain ⟨a, rfl, e1⟩ := wR_i h4
    have c2 : ¬ (a < 0) := by
      rw [fa_lt, w0, e1]
      exact c
    exact ⟨lv, rc, by simp only [mpure]; rw [if_pos hj, if_neg c2], g1, h5⟩
theorem B_if_ge {x : Int} {off : Int} {tgt nx : Nat} (he : mlook (mcode j) pc = some (pc, .ifCond .ge off, q)) (hy : mmeth j = some y) (hj : mjmp pc off = true) (htg : mtgt pc off = tgt) (hnx : pc + 3 = nx) (kt : 0 ≤ x → Bt E j tgt l st σ P) (kf : x < 0 → Bt E j nx l st σ P) : Bt E j pc l (wi x :: st) σ P := by
  subst htg; subst hnx
  by_cases c : 0 ≤ x
  · refine B_p (pc' := mtgt pc off) he rfl rfl hy (fun lv sc g1 g2 => ?_) (kt (by omega))
    obtain ⟨v, rc, rfl, h4, h5⟩ := wS_c g2
    obtain ⟨a, rfl, e1⟩ := wR_i h4
    have c2 : 0 ≤ a := by
      rw [fa_le, w0, e1]
      exact c
    exact ⟨lv, rc, by simp only [mpure]; rw [if_pos hj, if_pos c2], g1, h5⟩
  · refine B_p (pc' := pc + 3) he rfl rfl hy (fun lv sc g1 g2 => ?_) (kf (by omega))
    obtain ⟨v, rc, rfl, h4, h5⟩ := wS_c g2
    obtain ⟨a, rfl, e1⟩ := wR_i h4
    have c2 : ¬ (0 ≤ a) := by
      rw [fa_le, w0, e1]
      exact c
    exact ⟨lv, rc, by simp only [mpure]; rw [if_pos hj, if_neg c2], g1, h5⟩
theorem B_if_gt {x : Int} {off : Int} {tgt nx : Nat} (he : mlook (mcode j) pc = some (pc, .ifCond .gt off, q)) (hy : mmeth j = some y) (hj : mjmp pc off = true) (htg : mtgt pc off = tgt) (hnx : pc + 3 = nx) (kt : 0 < x → Bt E j tgt l st σ P) (kf : x ≤ 0 → Bt E j nx l st σ P) : Bt E j pc l (wi x :: st) σ P := by
  subst htg; subst hnx
  by_cases c : 0 < x
  · refine B_p (pc' := mtgt pc off) he rfl rfl hy (fun lv sc g1 g2 => ?_) (kt (by omega))
    obtain ⟨v, rc, rfl, h4, h5⟩ := wS_c g2
    obtain ⟨a, rfl, e1⟩ := wR_i h4
    have c2 : 0 < a := by
      rw [fa_lt, w0, e1]
      exact c
    exact ⟨lv, rc, by simp only [mpure]; rw [if_pos hj, if_pos c2], g1, h5⟩
  · refine B_p (pc' := pc + 3) he rfl rfl hy (fun lv sc g1 g2 => ?_) (kf (by omega))
    obtain ⟨v, rc, rfl, h4, h5⟩ := wS_c g2
    obtain ⟨a, rfl, e1⟩ := wR_i h4
    have c2 : ¬ (0 < a) := by
      rw [fa_lt, w0, e1]
      exact c
    exact ⟨lv, rc, by simp only [mpure]; rw [if_pos hj, if_neg c2], g1, h5⟩
theorem B_if_le {x : Int} {off : Int} {tgt nx : Nat} (he : mlook (mcode j) pc = some (pc, .ifCond .le off, q)) (hy : mmeth j = some y) (hj : mjmp pc off = true) (htg : mtgt pc off = tgt) (hnx : pc + 3 = nx) (kt : x ≤ 0 → Bt E j tgt l st σ P) (kf : 0 < x → Bt E j nx l st σ P) : Bt E j pc l (wi x :: st) σ P := by
  subst htg; subst hnx
  by_cases c : x ≤ 0
  · refine B_p (pc' := mtgt pc off) he rfl rfl hy (fun lv sc g1 g2 => ?_) (kt (by omega))
    obtain ⟨v, rc, rfl, h4, h5⟩ := wS_c g2
    obtain ⟨a, rfl, e1⟩ := wR_i h4
    have c2 : a ≤ 0 := by
      rw [fa_le, w0, e1]
      exact c
    exact ⟨lv, rc, by simp only [mpure]; rw [if_pos hj, if_pos c2], g1, h5⟩
  · refine B_p (pc' := pc + 3) he rfl rfl hy (fun lv sc g1 g2 => ?_) (kf (by omega))
    obtain ⟨v, rc, rfl, h4, h5⟩ := wS_c g2
    obtain ⟨a, rfl, e1⟩ := wR_i h4
    have c2 : ¬ (a ≤ 0) := by
      rw [fa_le, w0, e1]
      exact c
    exact ⟨lv, rc, by simp only [mpure]; rw [if_pos hj, if_neg c2], g1, h5⟩
theorem B_ic_eq {x z : Int} {off : Int} {tgt nx : Nat} (he : mlook (mcode j) pc = some (pc, .if_icmp .eq off, q)) (hy : mmeth j = some y) (hj : mjmp pc off = true) (htg : mtgt pc off = tgt) (hnx : pc + 3 = nx) (kt : x = z → Bt E j tgt l st σ P) (kf : x ≠ z → Bt E j nx l st σ P) : Bt E j pc l (wi z :: wi x :: st) σ P := by
  subst htg; subst hnx
  by_cases c : x = z
  · refine B_p (pc' := mtgt pc off) he rfl rfl hy (fun lv sc g1 g2 => ?_) (kt (by omega))
    obtain ⟨v, rc, rfl, h4, h5⟩ := wS_c g2
    obtain ⟨v2, rc2, rfl, h6, h7⟩ := wS_c h5
    obtain ⟨a, rfl, e1⟩ := wR_i h4
    obtain ⟨b, rfl, e2⟩ := wR_i h6
    have c2 : b = a := by
      rw [fa_eq, e1, e2]
      exact c
    exact ⟨lv, rc2, by simp only [mpure]; rw [if_pos hj, if_pos c2], g1, h7⟩
  · refine B_p (pc' := pc + 3) he rfl rfl hy (fun lv sc g1 g2 => ?_) (kf (by omega))
    obtain ⟨v, rc, rfl, h4, h5⟩ := wS_c g2
    obtain ⟨v2, rc2, rfl, h6, h7⟩ := wS_c h5
    obtain ⟨a, rfl, e1⟩ := wR_i h4
    obtain ⟨b, rfl, e2⟩ := wR_i h6
    have c2 : ¬ (b = a) := by
      rw [fa_eq, e1, e2]
      exact c
    exact ⟨lv, rc2, by simp only [mpure]; rw [if_pos hj, if_neg c2], g1, h7⟩
theorem B_ic_ne {x z : Int} {off : Int} {tgt nx : Nat} (he : mlook (mcode j) pc = some (pc, .if_icmp .ne off, q)) (hy : mmeth j = some y) (hj : mjmp pc off = true) (htg : mtgt pc off = tgt) (hnx : pc + 3 = nx) (kt : x ≠ z → Bt E j tgt l st σ P) (kf : x = z → Bt E j nx l st σ P) : Bt E j pc l (wi z :: wi x :: st) σ P := by
  subst htg; subst hnx
  by_cases c : x = z
  · refine B_p (pc' := pc + 3) he rfl rfl hy (fun lv sc g1 g2 => ?_) (kf (by omega))
    obtain ⟨v, rc, rfl, h4, h5⟩ := wS_c g2
    obtain ⟨v2, rc2, rfl, h6, h7⟩ := wS_c h5
    obtain ⟨a, rfl, e1⟩ := wR_i h4
    obtain ⟨b, rfl, e2⟩ := wR_i h6
    have c2 : b = a := by
      rw [fa_eq, e1, e2]
      exact c
    exact ⟨lv, rc2, by simp only [mpure]; rw [if_pos hj, if_pos c2], g1, h7⟩
  · refine B_p (pc' := mtgt pc off) he rfl rfl hy (fun lv sc g1 g2 => ?_) (kt (by omega))
    obtain ⟨v, rc, rfl, h4, h5⟩ := wS_c g2
    obtain ⟨v2, rc2, rfl, h6, h7⟩ := wS_c h5
    obtain ⟨a, rfl, e1⟩ := wR_i h4
    obtain ⟨b, rfl, e2⟩ := wR_i h6
    have c2 : ¬ (b = a) := by
      rw [fa_eq, e1, e2]
      exact c
    exact ⟨lv, rc2, by simp only [mpure]; rw [if_pos hj, if_neg c2], g1, h7⟩
theorem B_ic_lt {x z : Int} {off : Int} {tgt nx : Nat} (he : mlook (mcode j) pc = some (pc, .if_icmp .lt off, q)) (hy : mmeth j = some y) (hj : mjmp pc off = true) (htg : mtgt pc off = tgt) (hnx : pc + 3 = nx) (kt : x < z → Bt E j tgt l st σ P) (kf : z ≤ x → Bt E j nx l st σ P) : Bt E j pc l (wi z :: wi x :: st) σ P := by
  subst htg; subst hnx
  by_cases c : x < z
  · refine B_p (pc' := mtgt pc off) he rfl rfl hy (fun lv sc g1 g2 => ?_) (kt (by omega))
    obtain ⟨v, rc, rfl, h4, h5⟩ := wS_c g2
    obtain ⟨v2, rc2, rfl, h6, h7⟩ := wS_c h5
    obtain ⟨a, rfl, e1⟩ := wR_i h4
    obtain ⟨b, rfl, e2⟩ := wR_i h6
    have c2 : b < a := by
      rw [fa_lt, e1, e2]
      exact c
    exact ⟨lv, rc2, by simp only [mpure]; rw [if_pos hj, if_pos c2], g1, h7⟩
  · refine B_p (pc' := pc + 3) he rfl rfl hy (fun lv sc g1 g2 => ?_) (kf (by omega))
    obtain ⟨v, rc, rfl, h4, h5⟩ := wS_c g2
    obtain ⟨v2, rc2, rfl, h6, h7⟩ := wS_c h5
    obtain ⟨a, rfl, e1⟩ := wR_i h4
    obtain ⟨b, rfl, e2⟩ := wR_i h6
    have c2 : ¬ (b < a) := by
      rw [fa_lt, e1, e2]
      exact c
    exact ⟨lv, rc2, by simp only [mpure]; rw [if_pos hj, if_neg c2], g1, h7⟩
theorem B_ic_ge {x z : Int} {off : Int} {tgt nx : Nat} (he : mlook (mcode j) pc = some (pc, .if_icmp .ge off, q)) (hy : mmeth j = some y) (hj : mjmp pc off = true) (htg : mtgt pc off = tgt) (hnx : pc + 3 = nx) (kt : z ≤ x → Bt E j tgt l st σ P) (kf : x < z → Bt E j nx l st σ P) : Bt E j pc l (wi z :: wi x :: st) σ P := by
  subst htg; subst hnx
  by_cases c : z ≤ x
  · refine B_p (pc' := mtgt pc off) he rfl rfl hy (fun lv sc g1 g2 => ?_) (kt (by omega))
    obtain ⟨v, rc, rfl, h4, h5⟩ := wS_c g2
    obtain ⟨v2, rc2, rfl, h6, h7⟩ := wS_c h5
    obtain ⟨a, rfl, e1⟩ := wR_i h4
    obtain ⟨b, rfl, e2⟩ := wR_i h6
    have c2 : a ≤ b := by
      rw [fa_le, e1, e2]
      exact c
    exact ⟨lv, rc2, by simp only [mpure]; rw [if_pos hj, if_pos c2], g1, h7⟩
  · refine B_p (pc' := pc + 3) he rfl rfl hy (fun lv sc g1 g2 => ?_) (kf (by omega))
    obtain ⟨v, rc, rfl, h4, h5⟩ := wS_c g2
    obtain ⟨v2, rc2, rfl, h6, h7⟩ := wS_c h5
    obtain ⟨a, rfl, e1⟩ := wR_i h4
    obtain ⟨b, rfl, e2⟩ := wR_i h6
    have c2 : ¬ (a ≤ b) := by
      rw [fa_le, e1, e2]
      exact c
    exact ⟨lv, rc2, by simp only [mpure]; rw [if_pos hj, if_neg c2], g1, h7⟩
theorem B_ic_gt {x z : Int} {off : Int} {tgt nx : Nat} (he : mlook (mcode j) pc = some (pc, .if_icmp .gt off, q)) (hy : mmeth j = some y) (hj : mjmp pc off = true) (htg : mtgt pc off = tgt) (hnx : pc + 3 = nx) (kt : z < x → Bt E j tgt l st σ P) (kf : x ≤ z → Bt E j nx l st σ P) : Bt E j pc l (wi z :: wi x :: st) σ P := by
  subst htg; subst hnx
  by_cases c : z < x
  · refine B_p (pc' := mtgt pc off) he rfl rfl hy (fun lv sc g1 g2 => ?_) (kt (by omega))
    obtain ⟨v, rc, rfl, h4, h5⟩ := wS_c g2
    obtain ⟨v2, rc2, rfl, h6, h7⟩ := wS_c h5
    obtain ⟨a, rfl, e1⟩ := wR_i h4
    obtain ⟨b, rfl, e2⟩ := wR_i h6
    have c2 : a < b := by
      rw [fa_lt, e1, e2]
      exact c
    exact ⟨lv, rc2, by simp only [mpure]; rw [if_pos hj, if_pos c2], g1, h7⟩
  · refine B_p (pc' := pc + 3) he rfl rfl hy (fun lv sc g1 g2 => ?_) (kf (by omega))
    obtain ⟨v, rc, rfl, h4, h5⟩ := wS_c g2
    obtain ⟨v2, rc2, rfl, h6, h7⟩ := wS_c h5
    obtain ⟨a, rfl, e1⟩ := wR_i h4
    obtain ⟨b, rfl, e2⟩ := wR_i h6
    have c2 : ¬ (a < b) := by
      rw [fa_lt, e1, e2]
      exact c
    exact ⟨lv, rc2, by simp only [mpure]; rw [if_pos hj, if_neg c2], g1, h7⟩
theorem B_ic_le {x z : Int} {off : Int} {tgt nx : Nat} (he : mlook (mcode j) pc = some (pc, .if_icmp .le off, q)) (hy : mmeth j = some y) (hj : mjmp pc off = true) (htg : mtgt pc off = tgt) (hnx : pc + 3 = nx) (kt : x ≤ z → Bt E j tgt l st σ P) (kf : z < x → Bt E j nx l st σ P) : Bt E j pc l (wi z :: wi x :: st) σ P := by
  subst htg; subst hnx
  by_cases c : x ≤ z
  · refine B_p (pc' := mtgt pc off) he rfl rfl hy (fun lv sc g1 g2 => ?_) (kt (by omega))
    obtain ⟨v, rc, rfl, h4, h5⟩ := wS_c g2
    obtain ⟨v2, rc2, rfl, h6, h7⟩ := wS_c h5
    obtain ⟨a, rfl, e1⟩ := wR_i h4
    obtain ⟨b, rfl, e2⟩ := wR_i h6
    have c2 : b ≤ a := by
      rw [fa_le, e1, e2]
      exact c
    exact ⟨lv, rc2, by simp only [mpure]; rw [if_pos hj, if_pos c2], g1, h7⟩
  · refine B_p (pc' := pc + 3) he rfl rfl hy (fun lv sc g1 g2 => ?_) (kf (by omega))
    obtain ⟨v, rc, rfl, h4, h5⟩ := wS_c g2
    obtain ⟨v2, rc2, rfl, h6, h7⟩ := wS_c h5
    obtain ⟨a, rfl, e1⟩ := wR_i h4
    obtain ⟨b, rfl, e2⟩ := wR_i h6
    have c2 : ¬ (b ≤ a) := by
      rw [fa_le, e1, e2]
      exact c
    exact ⟨lv, rc2, by simp only [mpure]; rw [if_pos hj, if_neg c2], g1, h7⟩
theorem B_switch {x lo hi dflt : Int} {offs : Array Int} (he : mlook (mcode j) pc = some (pc, .tableswitch dflt lo hi offs, q)) (hy : mmeth j = some y) (hj : mjmp pc dflt = true) (kd : (x < lo ∨ hi < x) → Bt E j (mtgt pc dflt) l st σ P) (ki : lo ≤ x → x ≤ hi → ∃ off : Int, offs[(x - lo).toNat]? = some off ∧ mjmp pc off = true ∧ Bt E j (mtgt pc off) l st σ P) : Bt E j pc l (wi x :: st) σ P := by
  by_cases c : x < lo ∨ hi < x
  · refine B_p (pc' := mtgt pc dflt) he rfl rfl hy (fun lv sc g1 g2 => ?_) (kd c)
    obtain ⟨v, rc, rfl, h4, h5⟩ := wS_c g2
    obtain ⟨a, rfl, rfl⟩ := wR_i h4
    exact ⟨lv, rc, by simp only [mpure]; rw [if_pos c, if_pos hj], g1, h5⟩
  · obtain ⟨off, k1, k2, k3⟩ := ki (by omega) (by omega)
    refine B_p (pc' := mtgt pc off) he rfl rfl hy (fun lv sc g1 g2 => ?_) k3
    obtain ⟨v, rc, rfl, h4, h5⟩ := wS_c g2
    obtain ⟨a, rfl, rfl⟩ := wR_i h4
    exact ⟨lv, rc, by simp only [mpure]; rw [if_neg c, k1]; dsimp only; rw [if_pos k2], g1, h5⟩
/-! the heap -/
theorem B_ref {c a b r idx n : Nat} {q9 : Nat} (hE : E.length = 2) (he : mlook (mcode j) pc = some (pc, .getfield idx, n, c, b, q9)) (hy : mmeth j = some y) (hc : (mCl[c]?).isSome = true) (hr : wRef c a b = some r) (k : Bt E j (pc + 3) l (wr r :: st) σ P) : Bt E j pc l (wr a :: st) σ P := by
  refine B_hp he rfl rfl hy (fun _ _ => rfl) (fun sc h nc ns g2 g3 => ?_) k
  obtain ⟨v, rc, rfl, h4, h5⟩ := wS_c g2
  cases wR_r h4
  obtain ⟨fs, h6, h7⟩ := wRef_get hE g3 hr
  obtain ⟨cl, hcl⟩ := Option.isSome_iff_exists.mp hc
  exact ⟨_, h, by simp only [mheap, h6]; rw [if_pos trivial, hcl]; dsimp only; rw [h7], wS_k (wR_mr r) h5, g3⟩
theorem B_int {c a b idx n : Nat} {q9 : Nat} (hE : E.length = 2) (he : mlook (mcode j) pc = some (pc, .getfield idx, n, c, b, q9)) (hy : mmeth j = some y) (hc : (mCl[c]?).isSome = true) (hr : wInt c a b = true) (hk : kn σ a b) (k : wI (gv σ a b) → Bt E j (pc + 3) l (wi (gv σ a b) :: st) σ P) : Bt E j pc l (wr a :: st) σ P := by
  intro ho
  refine B_hp he rfl rfl hy (fun _ _ => rfl) (fun sc h nc ns g2 g3 => ?_) (k (wInt_rng hr hk ho.2.2)) ho
  obtain ⟨v, rc, rfl, h4, h5⟩ := wS_c g2
  cases wR_r h4
  obtain ⟨fs, x, h6, h7, h8⟩ := wInt_get hE g3 hr
  obtain ⟨cl, hcl⟩ := Option.isSome_iff_exists.mp hc
  exact ⟨_, h, by simp only [mheap, h6]; rw [if_pos trivial, hcl]; dsimp only; rw [h7], wS_k (wR_mi2 (h8 hk)) h5, g3⟩
theorem B_put {c a b idx n : Nat} {q9 : Nat} {x : Int} (hE : E.length = 2) (he : mlook (mcode j) pc = some (pc, .putfield idx, n, c, b, q9)) (hy : mmeth j = some y) (hc : (mCl[c]?).isSome = true) (hr : wInt c a b = true) (hn : mfty c b = .int ∨ (mfty c b = .boolean ∧ (x = 0 ∨ x = 1))) (k : Bt E j (pc + 3) l st (wup σ a b x) P) : Bt E j pc l (wi x :: wr a :: st) σ P := by
  refine B_hp he rfl rfl hy (fun _ _ => rfl) (fun sc h nc ns g2 g3 => ?_) k
  obtain ⟨v, rc, rfl, h4, h5⟩ := wS_c g2
  obtain ⟨v2, rc2, rfl, h6, h7⟩ := wS_c h5
  cases wR_r h6
  obtain ⟨z, rfl, rfl⟩ := wR_i h4
  obtain ⟨h2, fs, x0, h8, h9, -⟩ := wInt_at g3 hr
  obtain ⟨cl, hcl⟩ := Option.isSome_iff_exists.mp hc
  have hlt : b < fs.length := (List.getElem?_eq_some_iff.mp h9).1
  have hnf : narrow (mfty c b) (.int z) = .int z ∧ fits (mfty c b) (.int z) = true := by
    rcases hn with h10 | ⟨h10, h11⟩
    · rw [h10]; exact ⟨rfl, rfl⟩
    · rw [h10]
      have h12 : z = 0 ∨ z = 1 := by
        rcases h11 with h11 | h11
        · left; rw [fa_eq, h11]; rfl
        · right; rw [fa_eq, h11]; rfl
      rcases h12 with rfl | rfl
      · exact ⟨rfl, rfl⟩
      · exact ⟨rfl, rfl⟩
  have hg : mget E.length h a = some (.inr (c, fs)) := by
    unfold mget
    rw [hE, if_neg h2, h8]
  exact ⟨rc2, _, by simp only [mheap, hg]; rw [if_pos trivial, hcl]; dsimp only; rw [if_pos ⟨hlt, hnf.1, hnf.2⟩], h7, by rw [hE]; exact Wr_put g3 h2 h8 hr⟩
theorem wnn {i : Int32} {k : Int} (e : i.toInt = k) (h : 0 ≤ k) : ¬ i < 0 ∧ i.toNatClampNeg = k.toNat := by
  refine ⟨fun h9 => ?_, ?_⟩
  · rw [fa_lt, w0] at h9
    omega
  · show i.toInt.toNat = _
    rw [e]
theorem B_ild {a n : Nat} {i : Int} (hE : E.length = 2) (he : mlook (mcode j) pc = some (pc, .iaload, q)) (hy : mmeth j = some y) (hr : wRow a = some n) (h1 : 0 ≤ i) (h2 : i < n) (hk : kn σ a i.toNat) (k : wI (gv σ a i.toNat) → Bt E j (pc + 1) l (wi (gv σ a i.toNat) :: st) σ P) : Bt E j pc l (wi i :: wr a :: st) σ P := by
  intro ho
  refine B_hp he rfl rfl hy (fun _ _ => rfl) (fun sc h nc ns g2 g3 => ?_) (k (wRow_rng hr ho.2.2 _ (by omega) hk)) ho
  obtain ⟨v, rc, rfl, h4, h5⟩ := wS_c g2
  obtain ⟨v2, rc2, rfl, h6, h7⟩ := wS_c h5
  cases wR_r h6
  obtain ⟨z, rfl, e1⟩ := wR_i h4
  obtain ⟨u, h8, h9⟩ := wRow_get hE g3 hr
  obtain ⟨z1, z2⟩ := wnn e1 h1
  have h10 := h9 i.toNat (by omega) hk
  have hq : ¬ a < E.length := by rw [hE]; exact (wRow_at g3 hr).1
  exact ⟨_, h, by simp only [mheap, if_neg hq, h8]; rw [if_neg (by rw [z2]; exact fun h11 => h11.elim z1 (fun h12 => by omega)), z2], wS_k (wR_mi2 h10) h7, g3⟩
theorem B_days {i : Int} (hE : wE E) (he : mlook (mcode j) pc = some (pc, .iaload, q)) (hy : mmeth j = some y) (h1 : 0 ≤ i) (h2 : i < 13) (k : Bt E j (pc + 1) l (wi (wD E i.toNat) :: st) σ P) : Bt E j pc l (wi i :: wr 1 :: st) σ P := by
  refine B_hp he rfl rfl hy (fun _ _ => rfl) (fun sc h nc ns g2 g3 => ?_) k
  obtain ⟨v, rc, rfl, h4, h5⟩ := wS_c g2
  obtain ⟨v2, rc2, rfl, h6, h7⟩ := wS_c h5
  cases wR_r h6
  obtain ⟨z, rfl, e1⟩ := wR_i h4
  obtain ⟨hL, f, hf⟩ := hE
  obtain ⟨z1, z2⟩ := wnn e1 h1
  have h10 : (f i.toNat).toInt = wD E i.toNat := by
    unfold wD
    rw [hf]
  have hq : 1 < E.length := by rw [hL]; decide
  exact ⟨_, h, by simp only [mheap, if_pos hq, hf]; rw [if_neg (by rw [z2]; exact fun h11 => h11.elim z1 (fun h12 => by omega)), z2], wS_k (wR_mi2 h10) h7, g3⟩
theorem B_len {a n : Nat} (hE : E.length = 2) (he : mlook (mcode j) pc = some (pc, .arraylength, q)) (hy : mmeth j = some y) (hr : wRow a = some n) (hn : n < 2147483648) (k : Bt E j (pc + 1) l (wi n :: st) σ P) : Bt E j pc l (wr a :: st) σ P := by
  refine B_hp he rfl rfl hy (fun _ _ => rfl) (fun sc h nc ns g2 g3 => ?_) k
  obtain ⟨v, rc, rfl, h4, h5⟩ := wS_c g2
  cases wR_r h4
  obtain ⟨h2, u, h6, -⟩ := wRow_at g3 hr
  have hq : ¬ a < E.length := by rw [hE]; exact h2
  have hg : mget E.length h a = some (.inl (0, n, u)) := by
    unfold mget
    rw [if_neg hq, hE, h6]
  exact ⟨.int (Int32.ofNat n) :: rc, h, by simp only [mheap, if_neg hq, hg]; rfl, ⟨wR_mi2 (nI_toInt hn), h5⟩, g3⟩
theorem B_dlen (hE : wE E) (he : mlook (mcode j) pc = some (pc, .arraylength, q)) (hy : mmeth j = some y) (k : Bt E j (pc + 1) l (wi 13 :: st) σ P) : Bt E j pc l (wr 1 :: st) σ P := by
  refine B_hp he rfl rfl hy (fun _ _ => rfl) (fun sc h nc ns g2 g3 => ?_) k
  obtain ⟨v, rc, rfl, h4, h5⟩ := wS_c g2
  cases wR_r h4
  obtain ⟨hL, f, hf⟩ := hE
  have hq : 1 < E.length := by rw [hL]; decide
  exact ⟨.int (Int32.ofNat 13) :: rc, h, by simp only [mheap, if_pos hq, hf]; rfl, ⟨wR_mi2 rfl, h5⟩, g3⟩
theorem B_ist {a n : Nat} {i x : Int} (hE : E.length = 2) (he : mlook (mcode j) pc = some (pc, .iastore, q)) (hy : mmeth j = some y) (hr : wRow a = some n) (h1 : 0 ≤ i) (h2 : i < n) (k : Bt E j (pc + 1) l st (wup σ a i.toNat x) P) : Bt E j pc l (wi x :: wi i :: wr a :: st) σ P := by
  refine B_hp he rfl rfl hy (fun _ _ => rfl) (fun sc h nc ns g2 g3 => ?_) k
  obtain ⟨v, rc, rfl, h4, h5⟩ := wS_c g2
  obtain ⟨v2, rc2, rfl, h6, h7⟩ := wS_c h5
  obtain ⟨v3, rc3, rfl, h8, h9⟩ := wS_c h7
  cases wR_r h8
  obtain ⟨z, rfl, rfl⟩ := wR_i h4
  obtain ⟨zi, rfl, e1⟩ := wR_i h6
  obtain ⟨h10, u, h11, -⟩ := wRow_at g3 hr
  obtain ⟨u2, h12, -⟩ := wRow_get hE g3 hr
  obtain ⟨z1, z2⟩ := wnn e1 h1
  have hu : u2 = u := by
    have h13 := mrow_of h12
    unfold mget at h13
    rw [hE, if_neg h10, h11] at h13
    cases h13
    rfl
  subst hu
  exact ⟨rc3, _, by simp only [mheap, h12]; rw [if_neg (by rw [z2]; exact fun h11 => h11.elim z1 (fun h12 => by omega)), z2], h9, by rw [hE]; exact Wr_row g3 h10 h11⟩
theorem B_static0 {idx n k9 : Nat} {q9 : Nat × Nat} {r : Nat} {z : String × String × String × Value} (he : mlook (mcode j) pc = some (pc, .getstatic idx, 0, k9, q9)) (hy : mmeth j = some y) (hz : mStat[k9]? = some z) (hv : z.2.2.2 = .ref r) (k : Bt E j (pc + 3) l (wr r :: st) σ P) : Bt E j pc l st σ P := by
  refine B_hp he rfl rfl hy (fun _ _ => rfl) (fun sc h nc ns g2 g3 => ?_) k
  exact ⟨.ref r :: sc, h, by simp only [mheap, hz]; rw [if_pos trivial, hv], ⟨wR_mr r, g2⟩, g3⟩
theorem B_ldc {idx m b q9 : Nat} {n : Int} (he : mlook (mcode j) pc = some (pc, .ldc idx, 0, m, b, q9)) (hy : mmeth j = some y) (hn : (Int32.ofNat m).toInt = n) (k : Bt E j (pc + 2) l (wi n :: st) σ P) : Bt E j pc l st σ P := by
  refine B_hp he rfl rfl hy (fun _ _ => rfl) (fun sc h nc ns g2 g3 => ?_) k
  exact ⟨.int (Int32.ofNat m) :: sc, h, by simp only [mheap]; rw [if_pos trivial], ⟨wR_mi2 hn, g2⟩, g3⟩
theorem B_ldc2 {idx m b q9 : Nat} {n : Int} (he : mlook (mcode j) pc = some (pc, .ldc2_w idx, 0, m, b, q9)) (hy : mmeth j = some y) (hn : (Int64.ofNat m).toInt = n) (k : Bt E j (pc + 3) l (wl n :: st) σ P) : Bt E j pc l st σ P := by
  refine B_hp he rfl rfl hy (fun _ _ => rfl) (fun sc h nc ns g2 g3 => ?_) k
  exact ⟨.long (Int64.ofNat m) :: sc, h, by simp only [mheap]; rw [if_pos trivial], ⟨wR_ml hn, g2⟩, g3⟩
/-! Math.min, Math.max -/
def wsp (j : Nat) (r : Nat) : Bool := match mmeth j with
  | some y => decide (1 ≤ y.2.2.2.2.2.1 ∧ 2 * r + 13 ≤ y.2.2.2.2.2.2 ∧ mMathPos.2.2.1 ≠ 99999 ∧ mMathPos.1 ≠ 99999)
  | none => false
theorem wsp_min {idx n b q9 : Nat} {z x : Int32} {rc : List Value} (hs : wsp j rc.length = true) : mspec j (pc, .invokestatic idx, n, 997, b, q9) (.int z :: .int x :: rc) = some (pc + 3, .int (if z < x then z else x) :: rc) := by
  unfold wsp at hs
  unfold mspec
  cases hy : mmeth j with
  | none => rw [hy] at hs; cases hs
  | some y =>
    rw [hy] at hs
    obtain ⟨h1, h2, h3, h4⟩ := of_decide_eq_true hs
    have h5 := mwords_le2 rc
    dsimp only
    rw [if_pos ⟨h1, by omega⟩, if_pos ⟨rfl, h3⟩]
theorem wsp_max {idx n b q9 : Nat} {z x : Int32} {rc : List Value} (hs : wsp j rc.length = true) : mspec j (pc, .invokestatic idx, n, 996, b, q9) (.int z :: .int x :: rc) = some (pc + 3, .int (if x < z then z else x) :: rc) := by
  unfold wsp at hs
  unfold mspec
  cases hy : mmeth j with
  | none => rw [hy] at hs; cases hs
  | some y =>
    rw [hy] at hs
    obtain ⟨h1, h2, h3, h4⟩ := of_decide_eq_true hs
    have h5 := mwords_le2 rc
    dsimp only
    rw [if_pos ⟨h1, by omega⟩, if_neg (fun h9 => by cases h9.1), if_pos ⟨rfl, h4⟩]
theorem w_min {z x : Int32} : (if z < x then z else x).toInt = min x.toInt z.toInt := by
  by_cases c : z < x
  · rw [if_pos c]
    rw [fa_lt] at c
    omega
  · rw [if_neg c]
    rw [fa_lt] at c
    omega
theorem A_min {idx n b q9 : Nat} {x z : Int} (he : mlook (mcode j) pc = some (pc, .invokestatic idx, n, 997, b, q9)) (hs : wsp j st.length = true) (k : At E j (pc + 3) l (wi (min x z) :: st) σ R) : At E j pc l (wi z :: wi x :: st) σ R := by
  intro lv sc h nc ns g1 g2 g3
  obtain ⟨v, rc, rfl, h4, h5⟩ := wS_c g2
  obtain ⟨v2, rc2, rfl, h6, h7⟩ := wS_c h5
  obtain ⟨a, rfl, rfl⟩ := wR_i h4
  obtain ⟨b, rfl, rfl⟩ := wR_i h6
  rw [← wS_len h7] at hs
  exact To.spec (pc' := pc + 3) he rfl rfl (show 990 < 997 by decide) (wsp_min hs) (k lv _ h nc ns g1 (wS_k (wR_mi2 w_min) h7) g3)
theorem B_min {idx n b q9 : Nat} {x z : Int} (he : mlook (mcode j) pc = some (pc, .invokestatic idx, n, 997, b, q9)) (hs : wsp j st.length = true) (k : Bt E j (pc + 3) l (wi (min x z) :: st) σ P) : Bt E j pc l (wi z :: wi x :: st) σ P := by
  intro ho
  obtain ⟨sc, g2⟩ := ho.2.1
  obtain ⟨v, rc, rfl, h4, h5⟩ := wS_c g2
  obtain ⟨v2, rc2, rfl, h6, h7⟩ := wS_c h5
  obtain ⟨a, rfl, rfl⟩ := wR_i h4
  obtain ⟨b, rfl, rfl⟩ := wR_i h6
  obtain ⟨vo, s, hp, k1⟩ := k ⟨ho.1, ⟨_, wS_k (wR_mi2 w_min) h7⟩, ho.2.2⟩
  exact ⟨vo, s, hp, A_min he hs k1⟩
theorem w_max {z x : Int32} : (if x < z then z else x).toInt = max x.toInt z.toInt := by
  by_cases c : x < z
  · rw [if_pos c]
    rw [fa_lt] at c
    omega
  · rw [if_neg c]
    rw [fa_lt] at c
    omega
theorem A_max {idx n b q9 : Nat} {x z : Int} (he : mlook (mcode j) pc = some (pc, .invokestatic idx, n, 996, b, q9)) (hs : wsp j st.length = true) (k : At E j (pc + 3) l (wi (max x z) :: st) σ R) : At E j pc l (wi z :: wi x :: st) σ R := by
  intro lv sc h nc ns g1 g2 g3
  obtain ⟨v, rc, rfl, h4, h5⟩ := wS_c g2
  obtain ⟨v2, rc2, rfl, h6, h7⟩ := wS_c h5
  obtain ⟨a, rfl, rfl⟩ := wR_i h4
  obtain ⟨b, rfl, rfl⟩ := wR_i h6
  rw [← wS_len h7] at hs
  exact To.spec (pc' := pc + 3) he rfl rfl (show 990 < 996 by decide) (wsp_max hs) (k lv _ h nc ns g1 (wS_k (wR_mi2 w_max) h7) g3)
theorem B_max {idx n b q9 : Nat} {x z : Int} (he : mlook (mcode j) pc = some (pc, .invokestatic idx, n, 996, b, q9)) (hs : wsp j st.length = true) (k : Bt E j (pc + 3) l (wi (max x z) :: st) σ P) : Bt E j pc l (wi z :: wi x :: st) σ P := by
  intro ho
  obtain ⟨sc, g2⟩ := ho.2.1
  obtain ⟨v, rc, rfl, h4, h5⟩ := wS_c g2
  obtain ⟨v2, rc2, rfl, h6, h7⟩ := wS_c h5
  obtain ⟨a, rfl, rfl⟩ := wR_i h4
  obtain ⟨b, rfl, rfl⟩ := wR_i h6
  obtain ⟨vo, s, hp, k1⟩ := k ⟨ho.1, ⟨_, wS_k (wR_mi2 w_max) h7⟩, ho.2.2⟩
  exact ⟨vo, s, hp, A_max he hs k1⟩
/-! calls -/
/-- a static call fits: method, linked how, how many it takes, in how many places -/
def wcS (j n k9 na nc : Nat) : Bool := match mPos[k9]?, mmeth k9 with
  | some q, some y => decide (k9 ≤ 990 ∧ q.1 ≠ 99999 ∧ q.2.2.2.2.2 = na ∧ q.2.2.2.2.1 = true ∧ n ≤ 1 ∧ nc ≤ y.2.2.1) && mfits j k9
  | _, _ => false
/-- a virtual call fits: .. class of the object (what it takes without the object) -/
def wcV (j n k9 c na nc : Nat) : Bool := match mPos[k9]?, mmeth k9, mCl[c]? with
  | some q, some y, some cl => decide (k9 ≤ 990 ∧ q.1 ≠ 99999 ∧ q.2.2.2.2.2 = na ∧ q.2.2.2.2.1 = false ∧ q.2.2.1 ≠ 99999 ∧ n = 0 ∧ cl.1 = y.1.cls ∧ 1 + nc ≤ y.2.2.1) && mfits j k9
  | _, _, _ => false
theorem A_cS {idx n k9 b q9 : Nat} {as rest : List wV} {Q : Option wV → wSt → Prop} (he : mlook (mcode j) pc = some (pc, .invokestatic idx, n, k9, b, q9)) (hc : wcS j n k9 as.length (wcats as) = true) (hst : st = as.reverse ++ rest) (hr : rest.length ≤ 4) (hF : F1 E k9 as σ Q) (k : ∀ vo s, Q vo s → At E j (pc + 3) l (vo.toList ++ rest) s R) : At E j pc l st σ R := by
  subst hst
  intro lv sc h nc ns g1 g2 g3
  obtain ⟨xs, rc, rfl, h4, h5⟩ := wS_app g2
  have h6 : wS as xs.reverse := by
    have h7 := wS_rev h4
    rwa [List.reverse_reverse] at h7
  obtain ⟨vo, v, h', s', c1, c2, c3, c4⟩ := hF xs.reverse h h6 g3
  unfold wcS at hc
  split at hc
  · rename_i q5 y5 hq5 hy5
    simp only [Bool.and_eq_true, decide_eq_true_eq] at hc
    obtain ⟨⟨d1, d2, d3, d4, d5, d6⟩, d7⟩ := hc
    have hl : xs.length = as.length := by rw [wS_len h4, List.length_reverse]
    have hl2 : (xs ++ rc).length = as.length + rc.length := by rw [List.length_append, hl]
    have ht : (xs ++ rc).take q5.2.2.2.2.2 = xs := by rw [d3, ← hl, List.take_left]
    have hd : (xs ++ rc).drop q5.2.2.2.2.2 = rc := by rw [d3, ← hl, List.drop_left]
    have h8 := mwords_le2 rc
    have h9 := wS_len h5
    have hcal : mcallee E (pc, .invokestatic idx, n, k9, b, q9) (xs ++ rc) h = some (k9, xs.reverse, rc) := by
      unfold mcallee
      dsimp only
      rw [hq5, hy5]
      dsimp only
      rw [if_neg d2, if_neg (by rw [hl2, d3]; omega), ht, hd, if_pos ⟨d4, d5, by omega, by rw [wcats_ok _ _ h6]; exact d6⟩]
    have hk : k9 ≠ 993 := by omega
    exact To.call he rfl (by show decide (k9 ≠ 993) = true; exact decide_eq_true hk) d1 hcal d7 c1 rfl rfl rfl (k vo s' c4 lv _ h' (nc + 0) (ns + 0) g1 (wS_join (wO_list c2) h5) c3)
  · cases hc
theorem A_cV {idx n k9 b q9 c a : Nat} {as rest : List wV} {Q : Option wV → wSt → Prop} (hE : E.length = 2) (he : mlook (mcode j) pc = some (pc, .invokevirtual idx, n, k9, b, q9)) (hcl : wCls a = some c) (hc : wcV j n k9 c as.length (wcats as) = true) (hst : st = as.reverse ++ (wr a :: rest)) (hr : rest.length ≤ 4) (hF : F1 E k9 (wr a :: as) σ Q) (k : ∀ vo s, Q vo s → At E j (pc + 3) l (vo.toList ++ rest) s R) : At E j pc l st σ R := by
  subst hst
  intro lv sc h nc ns g1 g2 g3
  obtain ⟨xs, rc0, rfl, h4, h50⟩ := wS_app g2
  obtain ⟨v9, rc, rfl, h51, h5⟩ := wS_c h50
  cases wR_r h51
  have h6 : wS (wr a :: as) (.ref a :: xs.reverse) := by
    have h7 := wS_rev h4
    rw [List.reverse_reverse] at h7
    exact ⟨wR_mr a, h7⟩
  obtain ⟨vo, v, h', s', c1, c2, c3, c4⟩ := hF (.ref a :: xs.reverse) h h6 g3
  obtain ⟨fs, hob⟩ := wCls_get hE g3 hcl
  unfold wcV at hc
  split at hc
  · rename_i q5 y5 cl hq5 hy5 hcl5
    simp only [Bool.and_eq_true, decide_eq_true_eq] at hc
    obtain ⟨⟨d1, d2, d3, d4, d5, d6, d8, d9⟩, d7⟩ := hc
    have hl : xs.length = as.length := by rw [wS_len h4, List.length_reverse]
    have hl2 : (xs ++ (.ref a :: rc)).length = as.length + (rc.length + 1) := by rw [List.length_append, hl, List.length_cons]
    have ht : (xs ++ (.ref a :: rc)).take q5.2.2.2.2.2 = xs := by rw [d3, ← hl, List.take_left]
    have hd : (xs ++ (.ref a :: rc)).drop q5.2.2.2.2.2 = .ref a :: rc := by rw [d3, ← hl, List.drop_left]
    have h8 := mwords_le2 rc
    have h9 := wS_len h5
    have hk : k9 ≠ 994 := by omega
    have hcal : mcallee E (pc, .invokevirtual idx, n, k9, b, q9) (xs ++ (.ref a :: rc)) h = some (k9, .ref a :: xs.reverse, rc) := by
      unfold mcallee
      dsimp only
      rw [hq5, hy5]
      dsimp only
      rw [if_neg d2, if_neg (by rw [hl2, d3]; omega), ht, hd]
      dsimp only
      rw [hob]
      dsimp only
      rw [hcl5]
      dsimp only
      rw [if_pos ⟨d4, d5, d6, d8, by omega, by rw [wcats_ok _ _ h6]; show wcats (wr a :: as) ≤ _; exact d9⟩]
    exact To.call he rfl (by show decide (k9 ≠ 994) = true; exact decide_eq_true hk) d1 hcal d7 c1 rfl rfl rfl (k vo s' c4 lv _ h' (nc + 0) (ns + 0) g1 (wS_join (wO_list c2) h5) c3)
  · cases hc
theorem F1_ok {k9 : Nat} {as : List wV} {Q : Option wV → wSt → Prop} (ha : ∃ sc, wS as sc) (hh : ∃ h, Wr σ h) (hF : F1 E k9 as σ Q) : ∃ (vo : Option wV) (s : wSt), Q vo s ∧ (∃ sc, wS vo.toList sc) ∧ ∃ h, Wr s h := by
  obtain ⟨sc, ha⟩ := ha
  obtain ⟨h, hh⟩ := hh
  obtain ⟨vo, v, h', s, -, c2, c3, c4⟩ := hF sc h ha hh
  exact ⟨vo, s, c4, ⟨_, wO_list c2⟩, ⟨h', c3⟩⟩
theorem B_cS {idx n k9 b q9 : Nat} {as rest : List wV} {Q : Option wV → wSt → Prop} (he : mlook (mcode j) pc = some (pc, .invokestatic idx, n, k9, b, q9)) (hc : wcS j n k9 as.length (wcats as) = true) (hst : st = as.reverse ++ rest) (hr : rest.length ≤ 4) (hF : Fn E k9 as σ Q) (k : ∀ vo s, Q vo s → Bt E j (pc + 3) l (vo.toList ++ rest) s P) : Bt E j pc l st σ P := by
  intro ho
  subst hst
  obtain ⟨sc, g2⟩ := ho.2.1
  obtain ⟨xs, rc, rfl, h4, h5⟩ := wS_app g2
  have h6 : wS as xs.reverse := by
    have h7 := wS_rev h4
    rwa [List.reverse_reverse] at h7
  obtain ⟨vo, s, hq, f1⟩ := hF ⟨⟨[], fun i a ha => by cases ha⟩, ⟨_, h6⟩, ho.2.2⟩
  obtain ⟨vo1, s1, ⟨rfl, rfl⟩, ⟨rv, e1⟩, e2⟩ := F1_ok ⟨_, h6⟩ ho.2.2 f1
  obtain ⟨vr, a, hp, k1⟩ := k _ _ hq ⟨ho.1, ⟨_, wS_join e1 h5⟩, e2⟩
  refine ⟨vr, a, hp, A_cS he hc rfl hr f1 (fun v9 s9 h9 => ?_)⟩
  obtain ⟨rfl, rfl⟩ := h9
  exact k1
theorem B_cV {idx n k9 b q9 c a : Nat} {as rest : List wV} {Q : Option wV → wSt → Prop} (hE : E.length = 2) (he : mlook (mcode j) pc = some (pc, .invokevirtual idx, n, k9, b, q9)) (hcl : wCls a = some c) (hc : wcV j n k9 c as.length (wcats as) = true) (hst : st = as.reverse ++ (wr a :: rest)) (hr : rest.length ≤ 4) (hF : Fn E k9 (wr a :: as) σ Q) (k : ∀ vo s, Q vo s → Bt E j (pc + 3) l (vo.toList ++ rest) s P) : Bt E j pc l st σ P := by
  intro ho
  subst hst
  obtain ⟨sc, g2⟩ := ho.2.1
  obtain ⟨xs, rc0, rfl, h4, h50⟩ := wS_app g2
  obtain ⟨v9, rc, rfl, h51, h5⟩ := wS_c h50
  cases wR_r h51
  have h6 : wS (wr a :: as) (.ref a :: xs.reverse) := by
    have h7 := wS_rev h4
    rw [List.reverse_reverse] at h7
    exact ⟨wR_mr a, h7⟩
  obtain ⟨vo, s, hq, f1⟩ := hF ⟨⟨[], fun i a ha => by cases ha⟩, ⟨_, h6⟩, ho.2.2⟩
  obtain ⟨vo1, s1, ⟨rfl, rfl⟩, ⟨rv, e1⟩, e2⟩ := F1_ok ⟨_, h6⟩ ho.2.2 f1
  obtain ⟨vr, a1, hp, k1⟩ := k _ _ hq ⟨ho.1, ⟨_, wS_join e1 h5⟩, e2⟩
  refine ⟨vr, a1, hp, A_cV hE he hcl hc rfl hr f1 (fun v9 s9 h9 => ?_)⟩
  obtain ⟨rfl, rfl⟩ := h9
  exact k1
/-! ends -/
theorem A_end {v0 : Option wV} (he : mlook (mcode j) pc = some e) (ht : mterm e = true) (hr : ∀ lv sc h, wS st sc → ∃ v, mretv ((j, pc, lv, sc), h) = some v ∧ wO v0 v) (hP : R v0 σ) : At E j pc l st σ R := by
  intro lv sc h nc ns g1 g2 g3
  obtain ⟨v, r1, r2⟩ := hr lv sc (h, nc, ns) g2
  exact To.term he ht ⟨v0, v, σ, r1, r2, g3, rfl, hP⟩
theorem B_end {v0 : Option wV} (he : mlook (mcode j) pc = some e) (ht : mterm e = true) (hr : ∀ lv sc h, wS st sc → ∃ v, mretv ((j, pc, lv, sc), h) = some v ∧ wO v0 v) (hP : P v0 σ) : Bt E j pc l st σ P := fun _ => ⟨v0, σ, hP, A_end he ht hr ⟨rfl, rfl⟩⟩
theorem B_iret {x : Int} (he : mlook (mcode j) pc = some (pc, .ireturn, q)) (hy : mmeth j = some y) (ht : y.2.2.2.1 = some .int) (hP : P (some (wi x)) σ) : Bt E j pc l [wi x] σ P := by
  refine B_end he rfl (fun lv sc h g2 => ?_) hP
  obtain ⟨v, rc, rfl, h4, h5⟩ := wS_c g2
  cases wS_n h5
  obtain ⟨a, rfl, e1⟩ := wR_i h4
  refine ⟨some (.int a), ?_, h4⟩
  unfold mretv
  dsimp only
  rw [he, hy]
  dsimp only
  rw [ht]
  exact if_pos rfl
theorem B_bret {x : Int} (he : mlook (mcode j) pc = some (pc, .ireturn, q)) (hy : mmeth j = some y) (ht : y.2.2.2.1 = some .boolean) (hx : x = 0 ∨ x = 1) (hP : P (some (wi x)) σ) : Bt E j pc l [wi x] σ P := by
  refine B_end he rfl (fun lv sc h g2 => ?_) hP
  obtain ⟨v, rc, rfl, h4, h5⟩ := wS_c g2
  cases wS_n h5
  obtain ⟨a, rfl, e1⟩ := wR_i h4
  refine ⟨some (.int a), ?_, h4⟩
  unfold mretv
  dsimp only
  rw [he, hy]
  dsimp only
  rw [ht]
  have h12 : a = 0 ∨ a = 1 := by
    rcases hx with h11 | h11
    · left; rw [fa_eq, e1, h11]; rfl
    · right; rw [fa_eq, e1, h11]; rfl
  rcases h12 with rfl | rfl
  · rfl
  · rfl
theorem B_ret (he : mlook (mcode j) pc = some (pc, .return_, q)) (hy : mmeth j = some y) (ht : y.2.2.2.1 = none) (hP : P none σ) : Bt E j pc l [] σ P := by
  refine B_end he rfl (fun lv sc h g2 => ?_) hP
  cases wS_n g2
  refine ⟨none, ?_, trivial⟩
  unfold mretv
  dsimp only
  rw [he, hy]
  dsimp only
  rw [ht]
theorem B_lret {x : Int} (he : mlook (mcode j) pc = some (pc, .lreturn, q)) (hy : mmeth j = some y) (ht : y.2.2.2.1 = some .long) (hP : P (some (wl x)) σ) : Bt E j pc l [wl x] σ P := by
  refine B_end he rfl (fun lv sc h g2 => ?_) hP
  obtain ⟨v, rc, rfl, h4, h5⟩ := wS_c g2
  cases wS_n h5
  obtain ⟨a, rfl, e1⟩ := wR_l h4
  refine ⟨some (.long a), ?_, h4⟩
  unfold mretv
  dsimp only
  rw [he, hy]
  dsimp only
  rw [ht]
theorem B_dret {x : UInt64} (he : mlook (mcode j) pc = some (pc, .dreturn, q)) (hy : mmeth j = some y) (ht : y.2.2.2.1 = some .double) (hP : P (some (wd x)) σ) : Bt E j pc l [wd x] σ P := by
  refine B_end he rfl (fun lv sc h g2 => ?_) hP
  obtain ⟨v, rc, rfl, h4, h5⟩ := wS_c g2
  cases wS_n h5
  cases wR_d h4
  refine ⟨some (.double x), ?_, h4⟩
  unfold mretv
  dsimp only
  rw [he, hy]
  dsimp only
  rw [ht]
theorem B_aret {a : Nat} {C : String} (he : mlook (mcode j) pc = some (pc, .areturn, q)) (hy : mmeth j = some y) (ht : y.2.2.2.1 = some (.object C)) (hP : P (some (wr a)) σ) : Bt E j pc l [wr a] σ P := by
  refine B_end he rfl (fun lv sc h g2 => ?_) hP
  obtain ⟨v, rc, rfl, h4, h5⟩ := wS_c g2
  cases wS_n h5
  cases wR_r h4
  refine ⟨some (.ref a), ?_, h4⟩
  unfold mretv
  dsimp only
  rw [he, hy]
  dsimp only
  rw [ht]
end WA
