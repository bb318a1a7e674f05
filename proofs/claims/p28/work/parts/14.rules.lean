/-! ===== rules for open runs: a run is a run with some fuel and some depth ===== -/
def Rn (E : mE) (S S' : mS) : Prop := ∃ d n : Nat, mexec E d n S = some S'
theorem mrun_up {E : mE} {call call' : Nat → mS → Option mS} (hc : ∀ (n n' : Nat) (S S' : mS), n ≤ n' → call n S = some S' → call' n' S = some S') : ∀ (n n' : Nat) (S S' : mS), n ≤ n' → mrunF E call n S = some S' → mrunF E call' n' S = some S' := by
  intro n
  induction n with
  | zero => intro n' S S' hn h; cases h
  | succ n ih =>
    intro n' S S' hn h
    obtain ⟨k, rfl⟩ : ∃ k, n' = k + 1 := ⟨n' - 1, by omega⟩
    have hk : n ≤ k := by omega
    unfold mrunF at h ⊢
    split at h
    · exact hfalse h
    · rename_i e he
      split at h
      · rename_i ht
        rw [if_pos ht]
        exact h
      · rename_i ht
        rw [if_neg ht]
        split at h
        · rename_i hi
          rw [if_pos hi]
          split at h
          · rename_i h990
            rw [if_pos h990]
            split at h
            · exact hfalse h
            · rename_i r hr
              try rw [hr]
              exact ih _ _ _ hk h
          · rename_i h990
            rw [if_neg h990]
            split at h
            · exact hfalse h
            · rename_i r hr
              try rw [hr]
              split at h
              · rename_i hf
                try dsimp only
                rw [if_pos hf]
                split at h
                · exact hfalse h
                · rename_i S1 hS1
                  rw [hc _ _ _ _ hk hS1]
                  split at h
                  · exact hfalse h
                  · rename_i v hv
                    try dsimp only
                    try rw [hv]
                    exact ih _ _ _ hk h
              · exact hfalse h
        · rename_i hi
          rw [if_neg hi]
          split at h
          · exact hfalse h
          · rename_i S1 hS1
            try rw [hS1]
            exact ih _ _ _ hk h
theorem mexec_up {E : mE} : ∀ (d d' n n' : Nat) (S S' : mS), d ≤ d' → n ≤ n' → mexec E d n S = some S' → mexec E d' n' S = some S' := by
  intro d
  induction d with
  | zero => intro d' n n' S S' hd hn h; cases h
  | succ d ih =>
    intro d' n n' S S' hd hn h
    obtain ⟨k, rfl⟩ : ∃ k, d' = k + 1 := ⟨d' - 1, by omega⟩
    exact mrun_up (fun n1 n2 T T' h1 h2 => ih k n1 n2 T T' (by omega) h1 h2) n n' S S' hn h
/-- a call that comes back: what it answers, the heap behind it, what it made -/
def Cl (E : mE) (k : Nat) (as : List Value) (h : List mO) (v : Option Value) (h' : mH) : Prop := ∃ S1 : mS, Rn E (ment k as h) S1 ∧ mretv S1 = some v ∧ S1.2 = h'
theorem Rn.term {E : mE} {S : mS} {e : mIns} (he : mlook (mcode S.1.1) S.1.2.1 = some e) (ht : mterm e = true) : Rn E S S := by
  refine ⟨1, 1, ?_⟩
  show mrunF E (mexec E 0) 1 S = some S
  unfold mrunF
  rw [he]
  exact if_pos ht
theorem Rn.step {E : mE} {S S1 S' : mS} {e : mIns} (he : mlook (mcode S.1.1) S.1.2.1 = some e) (ht : mterm e = false) (hi : minv e = false) (hs : mstep E e S = some S1) (k : Rn E S1 S') : Rn E S S' := by
  obtain ⟨d, n, h⟩ := k
  cases d with
  | zero => cases h
  | succ d =>
    refine ⟨d + 1, n + 1, ?_⟩
    show mrunF E (mexec E d) (n + 1) S = some S'
    unfold mrunF
    rw [he]
    dsimp only
    rw [if_neg (by rw [ht]; decide), if_neg (by rw [hi]; decide), hs]
    exact h
theorem Rn.pure {E : mE} {j pc pc' : Nat} {lv lv' : mLv} {st st' : List Value} {h : mH} {S' : mS} {e : mIns} {y : mMth} (he : mlook (mcode j) pc = some e) (ht : mterm e = false) (hi : minv e = false) (hy : mmeth j = some y) (hp : mpure y.2.2.1 e lv st = some (pc', lv', st')) (k : Rn E ((j, pc', lv', st'), h) S') : Rn E ((j, pc, lv, st), h) S' := by
  refine Rn.step he ht hi ?_ k
  unfold mstep
  dsimp only
  rw [hy]
  dsimp only
  rw [hp]
theorem Rn.heap {E : mE} {j pc pc' : Nat} {lv : mLv} {st st' : List Value} {h h' : mH} {S' : mS} {e : mIns} {y : mMth} (he : mlook (mcode j) pc = some e) (ht : mterm e = false) (hi : minv e = false) (hy : mmeth j = some y) (h0 : mpure y.2.2.1 e lv st = none) (hp : mheap E e st h = some (pc', st', h')) (k : Rn E ((j, pc', lv, st'), h') S') : Rn E ((j, pc, lv, st), h) S' := by
  refine Rn.step he ht hi ?_ k
  unfold mstep
  dsimp only
  rw [hy]
  dsimp only
  rw [h0, hp]
theorem Rn.spec {E : mE} {j pc pc' : Nat} {lv : mLv} {st st' : List Value} {h : mH} {S' : mS} {e : mIns} (he : mlook (mcode j) pc = some e) (ht : mterm e = false) (hi : minv e = true) (ha : 990 < e.2.2.2.1) (hp : mspec j e st = some (pc', st')) (k : Rn E ((j, pc', lv, st'), h) S') : Rn E ((j, pc, lv, st), h) S' := by
  obtain ⟨d, n, hk⟩ := k
  cases d with
  | zero => cases hk
  | succ d =>
    refine ⟨d + 1, n + 1, ?_⟩
    show mrunF E (mexec E d) (n + 1) ((j, pc, lv, st), h) = some S'
    unfold mrunF
    dsimp only
    rw [he]
    dsimp only
    rw [if_neg (by rw [ht]; decide), if_pos hi, if_pos ha, hp]
    exact hk
theorem Rn.call {E : mE} {j pc k9 : Nat} {lv : mLv} {st as rest : List Value} {h : List mO} {nc ns : Nat} {h' : mH} {v : Option Value} {S' : mS} {e : mIns} (he : mlook (mcode j) pc = some e) (ht : mterm e = false) (hi : minv e = true) (ha : e.2.2.2.1 ≤ 990) (hc : mcallee E e st h = some (k9, as, rest)) (hf : mfits j k9 = true) (hcl : Cl E k9 as h v h')
    (k : Rn E ((j, e.1 + 3, lv, v.toList ++ rest), (h'.1, nc + h'.2.1, ns + h'.2.2)) S') : Rn E ((j, pc, lv, st), (h, nc, ns)) S' := by
  obtain ⟨S1, ⟨d1, n1, hr⟩, hv, rfl⟩ := hcl
  obtain ⟨d, n, hk⟩ := k
  cases d with
  | zero => cases hk
  | succ d =>
    refine ⟨max d1 d + 1, max n1 n + 1, ?_⟩
    show mrunF E (mexec E (max d1 d)) (max n1 n + 1) ((j, pc, lv, st), (h, nc, ns)) = some S'
    unfold mrunF
    dsimp only
    rw [he]
    dsimp only
    rw [if_neg (by rw [ht]; decide), if_pos hi, if_neg (by omega), hc]
    dsimp only
    rw [if_pos hf, mexec_up d1 (max d1 d) n1 (max n1 n) _ _ (by omega) (by omega) hr]
    dsimp only
    rw [hv]
    exact mexec_up (d + 1) (max d1 d + 1) n (max n1 n) _ _ (by omega) (by omega) hk
/-- an open run is a contract -/
theorem Rn.met {l : Launch} {D : va_G} {cy : Nat → ClassId} {E : mE} (hEw : mEw E) {k : Nat} {y : mMth} {q : Nat × Nat × Nat × Nat × Bool × Nat} {as : List Value} {h : List mO} {v : Option Value} {h' : mH} (hy : mmeth k = some y) (hq : mPos[k]? = some q) (hq1 : q.1 ≠ 99999) (hlen : (lg_sl as).length ≤ y.2.2.1) (hwa : wfL (E.length + h.length) as) (hwh : wfH E.length h) (hcl : Cl E k as h v h') (ad : Nat → Nat) (sz : Nat) :
    Met l y.1 (mws y) (mrm y h'.2.1 h'.2.2) (mPc D cy E ad as h sz) (mQc D cy E ad h sz h'.1 v) h'.2.1 h'.2.2 (va_A (mW cy ad E.length h) sz) := by
  obtain ⟨S1, ⟨d, n, hr⟩, hv, rfl⟩ := hcl
  exact mexec_ok hEw d n k y q as h S1 v hy hq hq1 hlen hwa hwh hr hv ad sz
