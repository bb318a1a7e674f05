/-! ===== Tallow$Numbers ===== -/
theorem mretv_i {j pc : Nat} {lv : mLv} {x : Int32} {h : mH} {e : mIns} {y : mMth} {ty : FieldType} (he : mlook (mcode j) pc = some e) (hi : e.2.1 = .ireturn) (hy : mmeth j = some y) (hr : y.2.2.2.1 = some ty) (hn : narrow ty (.int x) = .int x) : mretv ((j, pc, lv, [.int x]), h) = some (some (.int x)) := by
  unfold mretv
  dsimp only
  rw [he, hy]
  obtain ⟨a1, a2, a3⟩ := e
  obtain ⟨b1, b2, b3, b4, b5⟩ := y
  dsimp only at hi hr ⊢
  subst hi
  subst hr
  dsimp only
  rw [if_pos hn]
def mAt (n : Nat) (f : Nat → Int32) (i : Int32) : Int32 := if i < 0 ∨ n ≤ i.toNatClampNeg then 0 else f i.toNatClampNeg
theorem nI_clampI (x : Int32) (hx : ¬ x < 0) (n : Nat) (hn : n < 2 ^ 31) : Int32.ofNat n ≤ x ↔ n ≤ x.toNatClampNeg := by
  obtain ⟨j, hj, rfl⟩ := nI_of hx
  rw [nI_clamp hj]
  exact nI_leI hn hj
theorem mrow_ge {X t a : Nat} {h : List mO} {x : Nat × List (Nat × Value)} (hg : mrow X t h a = some x) : ¬ a < X := by
  have h1 := (mget_at (mrow_of hg)).1
  omega
theorem cl_at {E : mE} {h : List mO} {a r n : Nat} {u : List (Nat × Value)} {i : Int32} (h1 : mobjE E h a = some (3, [.ref r])) (h2 : mrow E.length 0 h r = some (n, u)) (hn : n < 2 ^ 31) : Cl E 20 [.ref a, .int i] h (some (.int (mAt n (mupI u) i))) (h, 0, 0) := by
  have hq := mrow_ge h2
  have hg : ∀ (st : List Value) (p k : Nat), mheap E (p, .getfield 7, 0, 3, 0, k) (.ref a :: st) (h, 0, 0) = some (p + 3, .ref r :: st, (h, 0, 0)) := by
    intro st p k
    simp only [mheap, h1]
    rfl
  have hl : ∀ (st : List Value), mheap E (9, .arraylength, 0, 0, 0, 0) (.ref r :: st) (h, 0, 0) = some (10, .int (Int32.ofNat n) :: st, (h, 0, 0)) := by
    intro st
    simp only [mheap, if_neg hq, mrow_of h2]
    rfl
  by_cases hi : i < 0
  · refine ⟨((20, 23, [(0, .ref a), (1, .int i)], [.int 0]), (h, 0, 0)), ?_, ?_, rfl⟩
    · refine Rn.pure rfl rfl rfl rfl rfl ?_
      refine Rn.pure (pc' := 22) rfl rfl rfl rfl (by simp only [mpure]; rw [if_pos hi]; rfl) ?_
      refine Rn.pure rfl rfl rfl rfl rfl ?_
      exact Rn.term rfl rfl
    · have e1 : mAt n (mupI u) i = 0 := if_pos (Or.inl hi)
      rw [e1]
      rfl
  · by_cases hj : Int32.ofNat n ≤ i
    · refine ⟨((20, 23, [(0, .ref a), (1, .int i)], [.int 0]), (h, 0, 0)), ?_, ?_, rfl⟩
      · refine Rn.pure rfl rfl rfl rfl rfl ?_
        refine Rn.pure (pc' := 4) rfl rfl rfl rfl (by simp only [mpure]; rw [if_neg hi]; rfl) ?_
        refine Rn.pure rfl rfl rfl rfl rfl ?_
        refine Rn.pure rfl rfl rfl rfl rfl ?_
        refine Rn.heap rfl rfl rfl rfl rfl (hg _ _ _) ?_
        refine Rn.heap rfl rfl rfl rfl rfl (hl _) ?_
        refine Rn.pure (pc' := 22) rfl rfl rfl rfl (by simp only [mpure]; rw [if_pos hj]; rfl) ?_
        refine Rn.pure rfl rfl rfl rfl rfl ?_
        exact Rn.term rfl rfl
      · have e1 : mAt n (mupI u) i = 0 := if_pos (Or.inr ((nI_clampI i hi n hn).mp hj))
        rw [e1]
        rfl
    · have hin : ¬ (i < 0 ∨ n ≤ i.toNatClampNeg) := fun h9 => h9.elim hi (fun h9 => hj ((nI_clampI i hi n hn).mpr h9))
      refine ⟨((20, 23, [(0, .ref a), (1, .int i)], [.int (mupI u i.toNatClampNeg)]), (h, 0, 0)), ?_, ?_, rfl⟩
      · refine Rn.pure rfl rfl rfl rfl rfl ?_
        refine Rn.pure (pc' := 4) rfl rfl rfl rfl (by simp only [mpure]; rw [if_neg hi]; rfl) ?_
        refine Rn.pure rfl rfl rfl rfl rfl ?_
        refine Rn.pure rfl rfl rfl rfl rfl ?_
        refine Rn.heap rfl rfl rfl rfl rfl (hg _ _ _) ?_
        refine Rn.heap rfl rfl rfl rfl rfl (hl _) ?_
        refine Rn.pure (pc' := 13) rfl rfl rfl rfl (by simp only [mpure]; rw [if_neg hj]; rfl) ?_
        refine Rn.pure rfl rfl rfl rfl rfl ?_
        refine Rn.heap rfl rfl rfl rfl rfl (hg _ _ _) ?_
        refine Rn.pure rfl rfl rfl rfl rfl ?_
        refine Rn.heap (st' := [.int (mupI u i.toNatClampNeg)]) (h' := (h, 0, 0)) (pc' := 19) rfl rfl rfl rfl rfl (by simp only [mheap, if_neg hq, h2]; rw [if_neg hin]) ?_
        refine Rn.pure rfl rfl rfl rfl rfl ?_
        exact Rn.term rfl rfl
      · have e1 : mAt n (mupI u) i = mupI u i.toNatClampNeg := if_neg hin
        rw [e1]
        exact mretv_i (ty := .int) rfl rfl rfl rfl rfl
