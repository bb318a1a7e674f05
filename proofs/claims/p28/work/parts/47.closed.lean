/-! ===== closed runs: over outer things that are never looked at, whatever they are ===== -/
/-- an outer thing that nothing can be asked of -/
def mOp : mX := .inr (9999, [])
/-- E0 holds what E1 holds, or nothing that can be asked -/
def mSub (E0 E1 : mE) : Prop := E0.length = E1.length ∧ ∀ (i : Nat) (o : mX), E0[i]? = some o → o = mOp ∨ E1[i]? = some o
theorem mCl_no : mCl[9999]? = none := by decide +kernel
theorem mobjE_sub {E0 E1 : mE} (hs : mSub E0 E1) {h : List mO} {a : Nat} {o : Nat × List Value} (hg : mobjE E0 h a = some o) (hc : o.1 ≠ 9999) : mobjE E1 h a = some o := by
  unfold mobjE at hg ⊢
  rw [← hs.1]
  split at hg
  · rename_i hl
    rw [if_pos hl]
    split at hg
    · rename_i o2 ho
      cases hg
      rcases hs.2 _ _ ho with h1 | h1
      · cases h1; exact absurd rfl hc
      · rw [h1]
    · cases hg
  · rename_i hl
    rw [if_neg hl]
    exact hg
set_option maxHeartbeats 4000000 in
theorem mheap_sub {E0 E1 : mE} (hs : mSub E0 E1) {e : mIns} {st : List Value} {h : mH} {r : Nat × List Value × mH} (hg : mheap E0 e st h = some r) : mheap E1 e st h = some r := by
  obtain ⟨pc, i, n, a, b, k⟩ := e
  have hl := hs.1
  have hx : ∀ (i : Nat) (x : Nat × vp_A), E0[i]? = some (.inl x) → E1[i]? = some (.inl x) := fun i x hx => by
    rcases hs.2 _ _ hx with h1 | h1
    · cases h1
    · exact h1
  cases i
  case getfield idx =>
    simp only [mheap] at hg ⊢
    split at hg
    · rename_i q r; split at hg
      · rename_i o ho; split at hg
        · rename_i hoa; split at hg
          · rename_i cl hcl
            have h9 : o.1 ≠ 9999 := fun e9 => by rw [hoa] at e9; rw [e9, mCl_no] at hcl; cases hcl
            rw [mobjE_sub hs ho h9]
            dsimp only
            try rw [if_pos hoa]
            try rw [hcl]
            exact hg
          · exact hfalse hg
        · exact hfalse hg
      · exact hfalse hg
    · exact hfalse hg
  case iaload =>
    simp only [mheap] at hg ⊢
    split at hg
    · rename_i i q r; rw [← hl]; split at hg
      · rename_i hq; rw [if_pos hq]; split at hg
        · rename_i n f ho
          rw [hx _ _ ho]
          exact hg
        · exact hfalse hg
      · rename_i hq; rw [if_neg hq]; exact hg
    · exact hfalse hg
  case aaload =>
    simp only [mheap] at hg ⊢
    split at hg
    · rename_i i q r; rw [← hl]; split at hg
      · rename_i hq; rw [if_pos hq]; split at hg
        · rename_i n f ho
          rw [hx _ _ ho]
          exact hg
        · exact hfalse hg
      · rename_i hq; rw [if_neg hq]; exact hg
    · exact hfalse hg
  case arraylength =>
    simp only [mheap] at hg ⊢
    split at hg
    · rename_i q r; rw [← hl]; split at hg
      · rename_i hq; rw [if_pos hq]; split at hg
        · rename_i x ho
          rw [hx _ _ ho]
          exact hg
        · exact hfalse hg
      · rename_i hq; rw [if_neg hq]; exact hg
    · exact hfalse hg
  case aastore =>
    simp only [mheap] at hg ⊢
    split at hg
    · rename_i v i q r; rw [← hl]; split at hg
      · rename_i y o hy ho; split at hg
        · rename_i C hC; split at hg
          · rename_i hca
            have h9 : o.1 ≠ 9999 := fun e9 => by
              unfold mcast at hca
              rw [e9, mCl_no] at hca
              cases hca
            rw [hy, mobjE_sub hs ho h9]
            try dsimp only
            try rw [hC]
            try dsimp only
            try rw [if_pos hca]
            exact hg
          · exact hfalse hg
        · exact hfalse hg
      · exact hfalse hg
    · exact hfalse hg
  all_goals (simp only [mheap] at hg ⊢; first | exact hg | (rw [← hl]; exact hg))
theorem mcallee_sub {E0 E1 : mE} (hs : mSub E0 E1) {e : mIns} {st : List Value} {h : List mO} {r : Nat × List Value × List Value} (hg : mcallee E0 e st h = some r) : mcallee E1 e st h = some r := by
  unfold mcallee at hg ⊢
  split at hg
  · rename_i q y hq hy
    try dsimp only
    split at hg
    · exact hfalse hg
    · rename_i h1
      rw [if_neg h1]
      split at hg
      · exact hfalse hg
      · rename_i h2
        rw [if_neg h2]
        split at hg
        · exact hg
        · exact hg
        · split at hg
          · rename_i a rr hdr
            split at hg
            · rename_i o ho
              split at hg
              · rename_i cl hcl
                have h9 : o.1 ≠ 9999 := fun e9 => by rw [e9, mCl_no] at hcl; cases hcl
                try dsimp only
                rw [mobjE_sub hs ho h9]
                try dsimp only
                try rw [hcl]
                exact hg
              · exact hfalse hg
            · exact hfalse hg
          · exact hfalse hg
        · exact hfalse hg
  · exact hfalse hg
theorem mstep_sub {E0 E1 : mE} (hs : mSub E0 E1) {e : mIns} {S S1 : mS} (hg : mstep E0 e S = some S1) : mstep E1 e S = some S1 := by
  unfold mstep at hg ⊢
  split at hg
  · split at hg
    · exact hg
    · split at hg
      · rename_i r hr
        rw [mheap_sub hs hr]
        exact hg
      · exact hfalse hg
  · exact hfalse hg
theorem mrun_sub {E0 E1 : mE} (hs : mSub E0 E1) {call call' : Nat → mS → Option mS} (hc : ∀ (n : Nat) (S S' : mS), call n S = some S' → call' n S = some S') : ∀ (n : Nat) (S S' : mS), mrunF E0 call n S = some S' → mrunF E1 call' n S = some S' := by
  intro n
  induction n with
  | zero => intro S S' h; cases h
  | succ n ih =>
    intro S S' h
    unfold mrunF at h ⊢
    split at h
    · exact hfalse h
    · rename_i e he
      split at h
      · rename_i ht
        rw [if_pos ht]
        exact h
      · rename_i ht
        rw [if_neg ht]
        split at h
        · rename_i hi
          rw [if_pos hi]
          split at h
          · rename_i h990
            rw [if_pos h990]
            split at h
            · exact hfalse h
            · rename_i r hr
              try rw [hr]
              exact ih _ _ h
          · rename_i h990
            rw [if_neg h990]
            split at h
            · exact hfalse h
            · rename_i r hr
              rw [mcallee_sub hs hr]
              split at h
              · rename_i hf
                try dsimp only
                rw [if_pos hf]
                split at h
                · exact hfalse h
                · rename_i S1 hS1
                  rw [hc _ _ _ hS1]
                  split at h
                  · exact hfalse h
                  · rename_i v hv
                    try dsimp only
                    try rw [hv]
                    exact ih _ _ h
              · exact hfalse h
        · rename_i hi
          rw [if_neg hi]
          split at h
          · exact hfalse h
          · rename_i S1 hS1
            rw [mstep_sub hs hS1]
            exact ih _ _ h
theorem mexec_sub {E0 E1 : mE} (hs : mSub E0 E1) : ∀ (d n : Nat) (S S' : mS), mexec E0 d n S = some S' → mexec E1 d n S = some S' := by
  intro d
  induction d with
  | zero => intro n S S' h; cases h
  | succ d ih =>
    intro n S S' h
    exact mrun_sub hs ih n S S' h
theorem Cl.sub {E0 E1 : mE} (hs : mSub E0 E1) {k : Nat} {as : List Value} {h : List mO} {v : Option Value} {h' : mH} (hc : Cl E0 k as h v h') : Cl E1 k as h v h' := by
  obtain ⟨S1, ⟨d, n, hr⟩, hv, he⟩ := hc
  exact ⟨S1, ⟨d, n, mexec_sub hs d n _ _ hr⟩, hv, he⟩
/-- a closed run, looked at by the kernel: what it answers, the heap behind it, what it made -/
def mclosed (E : mE) (d n k : Nat) (as : List Value) (h : List mO) : Option (Option Value × mH) := match mexec E d n (ment k as h) with
  | none => none
  | some S1 => match mretv S1 with
    | none => none
    | some v => some (v, S1.2)
theorem Cl.of_closed {E : mE} {d n k : Nat} {as : List Value} {h : List mO} {v : Option Value} {h' : mH} (hc : mclosed E d n k as h = some (v, h')) : Cl E k as h v h' := by
  unfold mclosed at hc
  split at hc
  · exact hfalse hc
  · rename_i S1 hS1
    split at hc
    · exact hfalse hc
    · rename_i v9 hv
      cases hc
      exact ⟨S1, ⟨d, n, hS1⟩, hv, rfl⟩
def mceq (r : Option (Option Value × mH)) (v : Option Value) (h : List mO) (a b : Nat) : Bool := match r with
  | none => false
  | some q => decide (q.1 = v) && (decide (q.2.1 = h) && (decide (q.2.2.1 = a) && decide (q.2.2.2 = b)))
theorem Cl.closed {E : mE} {d n k : Nat} {as : List Value} {h h' : List mO} {v : Option Value} {a b : Nat} (hc : mceq (mclosed E d n k as h) v h' a b = true) : Cl E k as h v (h', a, b) := by
  unfold mceq at hc
  split at hc
  · cases hc
  · rename_i q hq
    simp only [Bool.and_eq_true, decide_eq_true_eq] at hc
    obtain ⟨h1, h2, h3, h4⟩ := hc
    refine Cl.of_closed (d := d) (n := n) ?_
    rw [hq, ← h1, ← h2, ← h3, ← h4]
/-- .. where the heap behind it isn't asked -/
theorem Cl.ends {E : mE} {d n k : Nat} {as : List Value} {h : List mO} {v : Option Value} {a b : Nat} (hc : (mclosed E d n k as h).map (fun q => (q.1, q.2.2)) = some (v, a, b)) : ∃ h' : List mO, Cl E k as h v (h', a, b) := by
  cases hm : mclosed E d n k as h with
  | none => rw [hm] at hc; cases hc
  | some q =>
    rw [hm] at hc
    obtain ⟨v1, h1, a1, b1⟩ := q
    cases hc
    exact ⟨h1, Cl.of_closed hm⟩
