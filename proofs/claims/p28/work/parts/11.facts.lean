theorem mMeth_ok {k : Nat} {y : mMth} {q : Nat × Nat × Nat × Nat × Bool × Nat} (h : mmeth k = some y) (hq : mPos[k]? = some q) (hg : q.1 ≠ 99999) : mMP k y q := by
  have h1 := mkP_all h
  simp only [mchkP, h, hq, if_neg hg, Bool.and_eq_true, Bool.or_eq_true, decide_eq_true_eq] at h1
  obtain ⟨a1, a2, a3, a4, a5, a6, a7⟩ := h1
  refine ⟨mTBL_of a1 rfl, ?_, fun h9 => ?_, mTBL_of a4 rfl, a5, a6, a7⟩
  · by_cases hs : q.2.2.2.2.1 = true
    · rw [if_pos hs] at a2 ⊢
      exact mTBL_of (of_decide_eq_true a2) rfl
    · rw [if_neg hs] at a2 ⊢
      exact mTBL_of (of_decide_eq_true a2) rfl
  · rcases a3 with a3 | a3
    · exact absurd a3 h9
    · exact mTBL_of a3 rfl
theorem mlook_mem {l : List mIns} {pc : Nat} {e : mIns} (h : mlook l pc = some e) : e ∈ l ∧ e.1 = pc := by
  induction l with
  | nil => cases h
  | cons x r ih =>
    unfold mlook at h
    split at h
    · rename_i hx
      cases h
      exact ⟨List.mem_cons_self, hx⟩
    · exact ⟨List.mem_cons_of_mem _ (ih h).1, (ih h).2⟩
theorem mIns_ok {j pc : Nat} {y : mMth} {e : mIns} (hy : mmeth j = some y) (he : mlook (mcode j) pc = some e) : mchkI y.2.2.2.2.1 e = true ∧ mchk y.2.2.2.2.1 (decide (y.1.name = "<init>")) e = true ∧ decode y.2.1 e.1 = .ok (e.2.1, mlen e.2.1 e.2.2.1) := by
  have h1 := mkI_all hy
  simp only [mchkMI, hy] at h1
  have h2 := List.all_eq_true.mp h1 e (mlook_mem he).1
  simp only [Bool.and_eq_true] at h2
  have h3 := mkD_all hy
  simp only [mchkD, hy] at h3
  have h4 := List.all_eq_true.mp h3 e (mlook_mem he).1
  exact ⟨h2.1, h2.2.1, of_decide_eq_true h4⟩
theorem mIns_room {j pc : Nat} {y : mMth} {e : mIns} (hy : mmeth j = some y) (he : mlook (mcode j) pc = some e) (hn : mneedR e = true) : 1 ≤ y.2.2.2.2.2.1 ∧ 40 ≤ y.2.2.2.2.2.2 := by
  have h1 := mkI_all hy
  simp only [mchkMI, hy] at h1
  have h2 := List.all_eq_true.mp h1 e (mlook_mem he).1
  simp only [Bool.and_eq_true, Bool.or_eq_true, Bool.not_eq_true', decide_eq_true_eq] at h2
  rcases h2.2.2 with h3 | h3
  · rw [hn] at h3; cases h3
  · exact h3
set_option maxRecDepth 100000 in
theorem mObj_ok : Cond.instanceMethod objectInit ∈ mTBL ∧ Cond.code objectInit ⟨#[0xb1]⟩ 1 none ∈ mTBL := ⟨mTBL_of (k := mObjPos.1) (by decide +kernel) rfl, mTBL_of (k := mObjPos.2) (by decide +kernel) rfl⟩
/-! what is made is never unmade -/
theorem mheap_mono {E : mE} {e : mIns} {st : List Value} {h : mH} {r : Nat × List Value × mH} (hs : mheap E e st h = some r) : h.2.1 ≤ r.2.2.2.1 ∧ h.2.2 ≤ r.2.2.2.2 := by
  obtain ⟨pc, i, n, a, b, k⟩ := e
  obtain ⟨h, nc, ns⟩ := h
  cases i
  all_goals simp only [mheap] at hs
  all_goals first
    | exact hfalse hs
    | (repeat' (split at hs)) <;> first
      | exact hfalse hs
      | (cases hs; exact ⟨Nat.le_refl _, Nat.le_refl _⟩)
      | (cases hs; exact ⟨Nat.le_add_right _ _, Nat.le_add_right _ _⟩)
theorem mrun_mono {E : mE} {call : Nat → mS → Option mS} : ∀ (n : Nat) (S S' : mS), mrunF E call n S = some S' → S.2.2.1 ≤ S'.2.2.1 ∧ S.2.2.2 ≤ S'.2.2.2 := by
  intro n
  induction n with
  | zero => intro S S' h; cases h
  | succ n ih =>
    intro S S' h
    unfold mrunF at h
    split at h
    · exact hfalse h
    · rename_i e he; split at h
      · cases h; exact ⟨Nat.le_refl _, Nat.le_refl _⟩
      · split at h
        · split at h
          · split at h
            · exact hfalse h
            · have h1 := ih _ _ h
              exact h1
          · split at h
            · exact hfalse h
            · split at h
              · split at h
                · exact hfalse h
                · split at h
                  · exact hfalse h
                  · have h1 := ih _ _ h
                    dsimp only at h1
                    exact ⟨by omega, by omega⟩
              · exact hfalse h
        · split at h
          · exact hfalse h
          · rename_i S1 hS1
            have h1 := ih _ _ h
            have h2 : S.2.2.1 ≤ S1.2.2.1 ∧ S.2.2.2 ≤ S1.2.2.2 := by
              unfold mstep at hS1
              split at hS1
              · split at hS1
                · cases hS1; exact ⟨Nat.le_refl _, Nat.le_refl _⟩
                · split at hS1
                  · rename_i r hr; cases hS1; exact mheap_mono hr
                  · exact hfalse hS1
              · exact hfalse hS1
            exact ⟨Nat.le_trans h2.1 h1.1, Nat.le_trans h2.2 h1.2⟩
def mMathOk : Bool := (decide (mMathPos.1 = 99999) || (decide (lw_tbl[mMathPos.1]? = some (.static Lib.Math.max.name)) && decide (lw_tbl[mMathPos.2.1]? = some (.code Lib.Math.max.name Lib.Math.max.code 2 (some .int))))) && ((decide (mMathPos.2.2.1 = 99999) || (decide (lw_tbl[mMathPos.2.2.1]? = some (.static Lib.Math.min.name)) && decide (lw_tbl[mMathPos.2.2.2.1]? = some (.code Lib.Math.min.name Lib.Math.min.code 2 (some .int))))) && decide (lw_tbl[mMathPos.2.2.2.2]? = some (.initialized "java/lang/Math")))
set_option maxRecDepth 100000 in
theorem mMath_ok : mMathOk = true := by decide +kernel
def mTyChk (i : Nat) : Bool := match mTys[i]?, mTyPos[i]? with
  | some ty, some k => decide (lw_tbl[k]? = some (.arrayClass ty))
  | none, _ => true
  | _, _ => false
set_option maxRecDepth 100000 in
theorem mTys_chk : (List.range 3).all mTyChk = true := by decide +kernel
theorem mTys_ok (t : Nat) (ty : FieldType) (ht : t ≤ 2) (hty : mTys[t]? = some ty) : Cond.arrayClass ty ∈ mTBL := by
  have h1 := List.all_eq_true.mp mTys_chk t (List.mem_range.mpr (by omega))
  unfold mTyChk at h1
  rw [hty] at h1
  split at h1
  · rename_i a b ha hb
    cases ha
    exact mTBL_of (of_decide_eq_true h1) rfl
  · rename_i ha
    cases ha
  · cases h1
