/-! ===== each step of the abstract machine: what reads, writes or makes something of the heap ===== -/
theorem mobjE_at {E : mE} {h : List mO} {a : Nat} {o : Nat × List Value} (h1 : E.length ≤ a) (h2 : h[a - E.length]? = some (.inr o)) : mobjE E h a = some o := by
  unfold mobjE
  rw [if_neg (by omega), h2]
theorem mobjE_out {E : mE} {h : List mO} {a : Nat} {o : Nat × List Value} (h1 : a < E.length) (h2 : E[a]? = some (.inr o)) : mobjE E h a = some o := by
  unfold mobjE
  rw [if_pos h1, h2]
theorem mget_at2 {X : Nat} {h : List mO} {a : Nat} {o : mO} (h1 : X ≤ a) (h2 : h[a - X]? = some o) : mget X h a = some o := by
  unfold mget
  rw [if_neg (by omega), h2]
theorem mrow_at {X t : Nat} {h : List mO} {a : Nat} {x : Nat × List (Nat × Value)} (h1 : X ≤ a) (h2 : h[a - X]? = some (.inl (t, x))) : mrow X t h a = some x := by
  unfold mrow
  rw [mget_at2 h1 h2]
  dsimp only
  rw [if_pos rfl]
theorem qgetf_ok {E : mE} {X x y z : Nat} {lv : qL} {st : List qV} {w : qW} {T : qT} {stc : List Value} {h : mH} (hs : qgetf X x y z lv st w = some T) (hX : X = E.length) (hst : qS E st stc) (hw : qWr E w h) (hcl : (mCl[z]?).isSome = true) : ∃ (st' : List qV) (stc' : List Value), T = (y, lv, st', w) ∧ qS E st' stc' ∧ ∀ pc idx n k : Nat, pc + 3 = y → mheap E (pc, .getfield idx, n, z, x, k) stc h = some (y, stc', h) := by
  unfold qgetf at hs
  split at hs
  · rename_i a r
    obtain ⟨va, sa, rfl, ha, hs1⟩ := qS_c hst
    obtain ⟨ta, hs⟩ := qg_beq hs
    obtain ⟨t1, hs⟩ := qg_ble hs
    obtain ⟨t2, hs⟩ := qg_ble hs
    split at hs
    rename_i k c n f he
    obtain ⟨t3, hs⟩ := qg_beq hs
    obtain ⟨t4, hs⟩ := qg_beq hs
    obtain ⟨t5, hs⟩ := qg_ble hs
    cases hs
    rw [qR_ref ha ta]
    obtain ⟨xo, ho, g1, g2, g3⟩ := qW_obj hw (by omega) t2 he t3
    have hlt : x < xo.2.length := by omega
    have hv := List.getElem?_eq_getElem hlt
    refine ⟨_, xo.2[x] :: sa, rfl, ⟨g3 x _ hv, hs1⟩, fun pc idx n9 k9 hy => ?_⟩
    obtain ⟨cl, hcl⟩ := Option.isSome_iff_exists.mp hcl
    simp only [mheap]
    rw [mobjE_at (by omega) ho]
    dsimp only
    rw [if_pos (by omega), hcl]
    dsimp only
    rw [hv, hy]
  · cases hs
theorem qfit_ok {E : mE} {u : Nat} {v : qV} {val : Value} {ty : FieldType} (hf : qfit u v = true) (hu : u = qfk ty) (hr : qR E v val) : narrow ty val = val ∧ fits ty val = true := by
  unfold qfit at hf
  simp only [qif_beq, qif_ble] at hf
  subst hu
  have hi : v.1 = 0 → ∃ i, val = .int i := fun e => by
    obtain ⟨i, hi, -⟩ := qR_int hr e
    exact ⟨i, hi⟩
  have href : (if v.1 = 1 then true else Nat.beq v.1 2) = true → ∀ ty9 : FieldType, (∃ C, ty9 = .object C) ∨ (∃ C, ty9 = .array C) → narrow ty9 val = val ∧ fits ty9 val = true := by
    intro e ty9 h9
    have hv : (∃ q, val = .ref q) ∨ val = .null := by
      by_cases e1 : v.1 = 1
      · exact Or.inl ⟨_, qR_ref hr e1⟩
      · rw [if_neg e1] at e
        exact Or.inr (qR_null hr (Nat.eq_of_beq_eq_true e))
    rcases h9 with ⟨C, rfl⟩ | ⟨C, rfl⟩ <;> rcases hv with ⟨q, rfl⟩ | rfl <;> exact ⟨rfl, rfl⟩
  cases ty
  case int =>
    obtain ⟨i, rfl⟩ := hi (Nat.eq_of_beq_eq_true (by simpa [qfk] using hf))
    exact ⟨rfl, rfl⟩
  case boolean =>
    simp only [qfk, if_neg (show ¬ (1 : Nat) = 0 by decide), if_true] at hf
    by_cases e : v.1 = 0
    · rw [if_pos e] at hf
      by_cases e1 : 2147483648 ≤ v.2.1
      · rw [if_pos e1] at hf
        have e2 := Nat.le_of_ble_eq_true hf
        obtain ⟨i, rfl, i1, i2⟩ := qR_int hr e
        have h3 : i = 0 ∨ i = 1 := by
          rw [fa_eq, fa_eq]
          show i.toInt = 0 ∨ i.toInt = 1
          omega
        rcases h3 with rfl | rfl <;> exact ⟨rfl, rfl⟩
      · rw [if_neg e1] at hf; cases hf
    · rw [if_neg e] at hf; cases hf
  case object C => exact href (by simpa [qfk] using hf) _ (Or.inl ⟨C, rfl⟩)
  case array C => exact href (by simpa [qfk] using hf) _ (Or.inr ⟨C, rfl⟩)
  all_goals simp [qfk] at hf
theorem qputf_ok {E : mE} {X x y z u : Nat} {lv : qL} {st : List qV} {w : qW} {T : qT} {stc : List Value} {h : mH} (hs : qputf X x y z u lv st w = some T) (hX : X = E.length) (hst : qS E st stc) (hw : qWr E w h) (hcl : (mCl[z]?).isSome = true) (hu : u = qfk (mfty z x)) : ∃ (st' : List qV) (stc' : List Value) (w' : qW) (h' : mH), T = (y, lv, st', w') ∧ qS E st' stc' ∧ qWr E w' h' ∧ ∀ pc idx n k : Nat, pc + 3 = y → mheap E (pc, .putfield idx, n, z, x, k) stc h = some (y, stc', h') := by
  unfold qputf at hs
  split at hs
  · rename_i v a r
    obtain ⟨vv, sv, rfl, hv, hs1⟩ := qS_c hst
    obtain ⟨va, sa, rfl, ha, hs2⟩ := qS_c hs1
    obtain ⟨t0, hs⟩ := qg_some hs
    obtain ⟨ta, hs⟩ := qg_beq hs
    obtain ⟨t1, hs⟩ := qg_ble hs
    obtain ⟨t2, hs⟩ := qg_ble hs
    split at hs
    rename_i k c n f he
    obtain ⟨t3, hs⟩ := qg_beq hs
    obtain ⟨t4, hs⟩ := qg_beq hs
    obtain ⟨t5, hs⟩ := qg_ble hs
    cases hs
    rw [qR_ref ha ta]
    obtain ⟨xo, ho, g1, g2, g3⟩ := qW_obj hw (by omega) t2 he t3
    have hlt : x < xo.2.length := by omega
    obtain ⟨f1, f2⟩ := qfit_ok t0 hu hv
    have hnew : qOr E (1, c, n, qfld f x v) (.inr (xo.1, xo.2.set x vv)) := by
      refine ⟨rfl, g1, by rw [List.length_set]; exact g2, fun j u9 hj => ?_⟩
      show qR E (qif (Nat.beq j x) v (f j)) u9
      rw [qif_beq]
      rw [List.getElem?_set] at hj
      by_cases e : x = j
      · rw [if_pos e.symm]
        rw [if_pos e] at hj
        have hj2 : some vv = some u9 := by
          rw [← hj]
          simp [hlt]
        cases hj2
        exact hv
      · rw [if_neg (fun e9 => e e9.symm)]
        rw [if_neg e] at hj
        exact g3 j u9 hj
    refine ⟨_, sa, _, _, rfl, hs2, qW_put hw (by omega) hnew, fun pc idx n9 k9 hy => ?_⟩
    obtain ⟨cl, hcl⟩ := Option.isSome_iff_exists.mp hcl
    simp only [mheap]
    rw [mget_at2 (by omega) ho]
    dsimp only
    rw [if_pos (by omega), hcl]
    dsimp only
    rw [if_pos ⟨hlt, f1, f2⟩, hy]
  · cases hs
theorem qald_ok {E : mE} {X t y : Nat} {bx : qX} {lv : qL} {st : List qV} {w : qW} {T : qT} {stc : List Value} {h : mH} (hs : qald X bx t y lv st w = some T) (hE : qEok E X bx) (hst : qS E st stc) (hw : qWr E w h) : ∃ (st' : List qV) (stc' : List Value), T = (y, lv, st', w) ∧ qS E st' stc' ∧ (t = 0 → ∀ pc n a b k : Nat, pc + 1 = y → mheap E (pc, .iaload, n, a, b, k) stc h = some (y, stc', h)) ∧ (t = 1 → ∀ pc n a b k : Nat, pc + 1 = y → mheap E (pc, .laload, n, a, b, k) stc h = some (y, stc', h)) ∧ (t = 3 → ∀ pc n a b k : Nat, pc + 1 = y → mheap E (pc, .aaload, n, a, b, k) stc h = some (y, stc', h)) := by
  obtain ⟨hX, ⟨fs, hfs, hfb⟩, -, ⟨fc, hfc, hfq⟩⟩ := hE
  unfold qald at hs
  split at hs
  · rename_i i a r
    obtain ⟨vi, si, rfl, hi, hs1⟩ := qS_c hst
    obtain ⟨va, sa, rfl, ha, hs2⟩ := qS_c hs1
    obtain ⟨ti, hs⟩ := qg_beq hs
    obtain ⟨ta, hs⟩ := qg_beq hs
    obtain ⟨t1, hs⟩ := qg_ble hs
    obtain ⟨iv, rfl, i1, i2⟩ := qR_int hi ti
    rw [qR_ref ha ta]
    rw [qif_ble] at hs
    by_cases hq : X ≤ a.2.1
    · rw [if_pos hq] at hs
      obtain ⟨t2, hs⟩ := qg_ble hs
      obtain ⟨t3, hs⟩ := qg_beq hs
      split at hs
      rename_i k c n f he
      obtain ⟨t4, hs⟩ := qg_beq hs
      obtain ⟨t5, hs⟩ := qg_beq hs
      obtain ⟨t6, hs⟩ := qg_ble hs
      cases hs
      obtain ⟨⟨t0, n0, u0⟩, ho, g1, g2, g3⟩ := qW_row hw (by omega) t2 he t4
      dsimp only at g1 g2 g3
      have ht0 : t0 = t := by omega
      subst ht0
      obtain ⟨k1, k2⟩ := qnat (x := iv) (n := i.2.1) (by omega) t1
      have hlt : i.2.1 - 2147483648 < n0 := by
        have h9 : Nat.succ (Nat.sub i.2.1 2147483648) ≤ n := t6
        rw [q_sb] at h9
        omega
      have hcond : ¬ (iv < 0 ∨ n0 ≤ i.2.1 - 2147483648) := fun h9 => h9.elim k2 (fun h8 => by omega)
      have hv := g3 _ hlt
      refine ⟨_, mval t0 u0 (i.2.1 - 2147483648) :: sa, rfl, ⟨hv, hs2⟩, fun e pc n9 a9 b9 k9 hy => ?_, fun e pc n9 a9 b9 k9 hy => ?_, fun e pc n9 a9 b9 k9 hy => ?_⟩
      · subst e
        simp only [mheap]
        rw [if_neg (show ¬ a.2.1 < E.length by omega), mrow_at (by omega) ho]
        dsimp only
        rw [k1, if_neg hcond, hy]
        rfl
      · subst e
        simp only [mheap]
        rw [mrow_at (by omega) ho]
        dsimp only
        rw [if_pos (show mTys[1]? = some .long from rfl), k1, if_neg hcond, hy]
        rfl
      · subst e
        simp only [mheap]
        rw [if_neg (show ¬ a.2.1 < E.length by omega), mrow_at (by omega) ho]
        dsimp only
        rw [show (mTys[3]? : Option FieldType) = some (.object "java/lang/Object") from rfl]
        dsimp only
        rw [k1, if_neg hcond, hy]
        rfl
    · rw [if_neg hq, qif_beq] at hs
      by_cases ht : t = 0
      · rw [if_pos ht] at hs
        obtain ⟨t2, hs⟩ := qg_beq hs
        obtain ⟨t3, hs⟩ := qg_beq hs
        obtain ⟨t4, hs⟩ := qg_ble hs
        cases hs
        obtain ⟨k1, k2⟩ := qnat (x := iv) (n := i.2.1) (by omega) t1
        have hlt : i.2.1 - 2147483648 < bx.1 := t4
        have hcond : ¬ (iv < 0 ∨ bx.1 ≤ i.2.1 - 2147483648) := fun h9 => h9.elim k2 (fun h8 => by omega)
        refine ⟨_, .int (fs (i.2.1 - 2147483648)) :: sa, rfl, ⟨hfb _ hlt, hs2⟩, fun e pc n9 a9 b9 k9 hy => ?_, fun e => by omega, fun e => by omega⟩
        simp only [mheap]
        rw [if_pos (show a.2.1 < E.length by omega), t2, hfs]
        rw [k1]
        show (if (iv < 0 ∨ bx.1 ≤ i.2.1 - 2147483648) then none else some (pc + 1, Value.int (fs (i.2.1 - 2147483648)) :: sa, h)) = _
        rw [if_neg hcond, hy]
      · rw [if_neg ht] at hs
        obtain ⟨t2, hs⟩ := qg_beq hs
        obtain ⟨t3, hs⟩ := qg_beq hs
        obtain ⟨t4, hs⟩ := qg_ble hs
        cases hs
        have k2 : ¬ iv < 0 := fun h9 => by
          have := qlt0.mp h9
          omega
        have k1 : iv.toNatClampNeg < 256 := by
          show iv.toInt.toNat < 256
          omega
        obtain ⟨q, g, f1, f2, f3⟩ := hfq _ k1
        have hcond : ¬ (iv < 0 ∨ 256 ≤ iv.toNatClampNeg) := fun h9 => h9.elim k2 (fun h8 => by omega)
        refine ⟨_, .ref q :: sa, rfl, ⟨⟨q, g, rfl, f2, f3⟩, hs2⟩, fun e => by omega, fun e => by omega, fun e pc n9 a9 b9 k9 hy => ?_⟩
        simp only [mheap]
        rw [if_pos (show a.2.1 < E.length by omega), t3, hfc]
        dsimp only
        rw [show (mETys[4]? : Option FieldType) = some (.object "java/lang/Integer") from rfl]
        dsimp only
        rw [if_neg hcond, f1, hy]
        rfl
  · cases hs
theorem mval_0 (u : List (Nat × Value)) (i j : Nat) (x : Int32) : mval 0 ((i, .int x) :: u) j = if i = j then .int x else mval 0 u j := by
  by_cases h : i = j
  · simp [mval, mupI, mup, h]
  · simp [mval, mupI, mup, h]
theorem mval_1 (u : List (Nat × Value)) (i j : Nat) (x : Int64) : mval 1 ((i, .long x) :: u) j = if i = j then .long x else mval 1 u j := by
  by_cases h : i = j
  · simp [mval, mupL, mup, h]
  · simp [mval, mupL, mup, h]
theorem mval_3 (u : List (Nat × Value)) (i j x : Nat) : mval 3 ((i, .ref x) :: u) j = if i = j then .ref x else mval 3 u j := by
  by_cases h : i = j
  · simp [mval, mupR, mup, h, va_rf]
  · simp [mval, mupR, mup, h]
theorem qcast0 : mcast 0 "java/lang/Object" = true := by decide +kernel
theorem qast_ok {E : mE} {X t y : Nat} {lv : qL} {st : List qV} {w : qW} {T : qT} {stc : List Value} {h : mH} (hs : qast X t y lv st w = some T) (hX : X = E.length) (hst : qS E st stc) (hw : qWr E w h) : ∃ (st' : List qV) (stc' : List Value) (w' : qW) (h' : mH), T = (y, lv, st', w') ∧ qS E st' stc' ∧ qWr E w' h' ∧ (t = 0 → ∀ pc n a b k : Nat, pc + 1 = y → mheap E (pc, .iastore, n, a, b, k) stc h = some (y, stc', h')) ∧ (t = 1 → ∀ pc n a b k : Nat, pc + 1 = y → mheap E (pc, .lastore, n, a, b, k) stc h = some (y, stc', h')) ∧ (t = 3 → ∀ pc n a b k : Nat, pc + 1 = y → mheap E (pc, .aastore, n, a, b, k) stc h = some (y, stc', h')) := by
  unfold qast at hs
  split at hs
  · rename_i v i a r
    obtain ⟨vv, sv, rfl, hv, hs0⟩ := qS_c hst
    obtain ⟨vi, si, rfl, hi, hs1⟩ := qS_c hs0
    obtain ⟨va, sa, rfl, ha, hs2⟩ := qS_c hs1
    obtain ⟨tv, hs⟩ := qg_some hs
    obtain ⟨ti, hs⟩ := qg_beq hs
    obtain ⟨t3, hs⟩ := qg_beq hs
    obtain ⟨ta, hs⟩ := qg_beq hs
    obtain ⟨t1, hs⟩ := qg_ble hs
    obtain ⟨hq, hs⟩ := qg_ble hs
    obtain ⟨t2, hs⟩ := qg_ble hs
    obtain ⟨iv, rfl, i1, i2⟩ := qR_int hi ti
    rw [qR_ref ha ta]
    split at hs
    rename_i k c n f he
    obtain ⟨t4, hs⟩ := qg_beq hs
    obtain ⟨t5, hs⟩ := qg_beq hs
    obtain ⟨t6, hs⟩ := qg_ble hs
    cases hs
    obtain ⟨⟨t0, n0, u0⟩, ho, g1, g2, g3⟩ := qW_row hw (by omega) t2 he t4
    dsimp only at g1 g2 g3
    have ht0 : t0 = t := by omega
    subst ht0
    obtain ⟨k1, k2⟩ := qnat (x := iv) (n := i.2.1) (by omega) t1
    have hlt : i.2.1 - 2147483648 < n0 := by
      have h9 : Nat.succ (Nat.sub i.2.1 2147483648) ≤ n := t6
      rw [q_sb] at h9
      omega
    have hcond : ¬ (iv < 0 ∨ n0 ≤ i.2.1 - 2147483648) := fun h9 => h9.elim k2 (fun h8 => by omega)
    have hnew : (∀ j, mval t0 ((i.2.1 - 2147483648, vv) :: u0) j = if i.2.1 - 2147483648 = j then vv else mval t0 u0 j) → qOr E (0, c, n, qfld f (Nat.sub i.2.1 2147483648) v) (.inl (t0, n0, (i.2.1 - 2147483648, vv) :: u0)) := by
      intro hmv
      refine ⟨rfl, g1, g2, fun j hj => ?_⟩
      show qR E (qif (Nat.beq j (Nat.sub i.2.1 2147483648)) v (f j)) (mval t0 ((i.2.1 - 2147483648, vv) :: u0) j)
      rw [qif_beq, hmv, q_sb]
      by_cases e : j = i.2.1 - 2147483648
      · rw [if_pos e, if_pos e.symm]; exact hv
      · rw [if_neg e, if_neg (fun e9 => e e9.symm)]; exact g3 j hj
    unfold qel at tv
    simp only [qif_beq] at tv
    by_cases e0 : t0 = 0
    · rw [if_pos e0] at tv
      obtain ⟨x, rfl, -⟩ := qR_int hv (Nat.eq_of_beq_eq_true tv)
      subst e0
      refine ⟨_, sa, _, _, rfl, hs2, qW_put hw (by omega) (hnew (fun j => mval_0 u0 _ j x)), fun e pc n9 a9 b9 k9 hy => ?_, fun e => by omega, fun e => by omega⟩
      simp only [mheap]
      rw [mrow_at (by omega) ho]
      dsimp only
      rw [k1, if_neg hcond, hy]
    · rw [if_neg e0] at tv
      by_cases e1 : t0 = 1
      · rw [if_pos e1] at tv
        have hvl := qR_long hv (Nat.eq_of_beq_eq_true tv)
        subst hvl
        subst e1
        refine ⟨_, sa, _, _, rfl, hs2, qW_put hw (by omega) (hnew (fun j => mval_1 u0 _ j _)), fun e => by omega, fun e pc n9 a9 b9 k9 hy => ?_, fun e => by omega⟩
        simp only [mheap]
        rw [mrow_at (by omega) ho]
        dsimp only
        rw [if_pos (show mTys[1]? = some .long from rfl), k1, if_neg hcond, hy]
      · rw [if_neg e1] at tv
        by_cases e3 : t0 = 3
        · rw [if_pos e3] at tv
          obtain ⟨q, g, rfl, f2, f3⟩ := qR_box hv (Nat.eq_of_beq_eq_true tv)
          subst e3
          refine ⟨_, sa, _, _, rfl, hs2, qW_put hw (by omega) (hnew (fun j => mval_3 u0 _ j q)), fun e => by omega, fun e => by omega, fun e pc n9 a9 b9 k9 hy => ?_⟩
          simp only [mheap]
          rw [mrow_at (by omega) ho, mobjE_out f2 f3]
          dsimp only
          rw [show (mTys[3]? : Option FieldType) = some (.object "java/lang/Object") from rfl]
          dsimp only
          rw [if_pos qcast0, k1, if_neg hcond, hy]
        · rw [if_neg e3] at tv; cases tv
  · cases hs
theorem qlen_ok {E : mE} {X y : Nat} {bx : qX} {lv : qL} {st : List qV} {w : qW} {T : qT} {stc : List Value} {h : mH} (hs : qlen X bx y lv st w = some T) (hE : qEok E X bx) (hst : qS E st stc) (hw : qWr E w h) : ∃ (st' : List qV) (stc' : List Value), T = (y, lv, st', w) ∧ qS E st' stc' ∧ ∀ pc n a b k : Nat, pc + 1 = y → mheap E (pc, .arraylength, n, a, b, k) stc h = some (y, stc', h) := by
  obtain ⟨hX, ⟨fs, hfs, hfb⟩, ⟨fe, hfe⟩, ⟨fc, hfc, hfq⟩⟩ := hE
  have h0l : 0 < E.length := (List.getElem?_eq_some_iff.mp hfs).1
  have h2l : 2 < E.length := (List.getElem?_eq_some_iff.mp hfe).1
  have hmk : ∀ n : Nat, n ≤ 2147483647 → qR E (0, Nat.add n 2147483648, Nat.add n 2147483648) (.int (Int32.ofNat n)) := fun n hn => by
    have e := qsmall (k := n) (by omega)
    exact qR_mkI (by rw [e, q_ad]; omega) (by rw [e, q_ad]; omega)
  unfold qlen at hs
  split at hs
  · rename_i a r
    obtain ⟨va, sa, rfl, ha, hs2⟩ := qS_c hst
    obtain ⟨ta, hs⟩ := qg_beq hs
    rw [qR_ref ha ta]
    rw [qif_ble] at hs
    by_cases hq : X ≤ a.2.1
    · rw [if_pos hq] at hs
      obtain ⟨t2, hs⟩ := qg_ble hs
      split at hs
      rename_i k c n f he
      obtain ⟨t4, hs⟩ := qg_beq hs
      obtain ⟨t5, hs⟩ := qg_ble hs
      obtain ⟨t6, hs⟩ := qg_ble hs
      cases hs
      obtain ⟨⟨t0, n0, u0⟩, ho, g1, g2, g3⟩ := qW_row hw (by omega) t2 he t4
      dsimp only at g1 g2 g3
      subst g1
      subst g2
      refine ⟨_, .int (Int32.ofNat n) :: sa, rfl, ⟨hmk n t6, hs2⟩, fun pc n9 a9 b9 k9 hy => ?_⟩
      simp only [mheap]
      rw [if_neg (show ¬ a.2.1 < E.length by omega), mget_at2 (by omega) ho]
      dsimp only
      obtain ⟨ty, hty⟩ : ∃ ty, mTys[c]? = some ty := by
        match c, t5 with
        | 0, _ => exact ⟨_, rfl⟩
        | 1, _ => exact ⟨_, rfl⟩
        | 2, _ => exact ⟨_, rfl⟩
        | 3, _ => exact ⟨_, rfl⟩
      rw [if_pos t5, hty, hy]
    · rw [if_neg hq, qif_beq] at hs
      by_cases h0 : a.2.1 = 0
      · rw [if_pos h0] at hs
        obtain ⟨t6, hs⟩ := qg_ble hs
        cases hs
        refine ⟨_, .int (Int32.ofNat bx.1) :: sa, rfl, ⟨hmk bx.1 t6, hs2⟩, fun pc n9 a9 b9 k9 hy => ?_⟩
        simp only [mheap]
        rw [if_pos (show a.2.1 < E.length by omega), h0, hfs]
        dsimp only
        rw [show (mTys[0]? : Option FieldType) = some .int from rfl, hy]
      · rw [if_neg h0] at hs
        obtain ⟨h2, hs⟩ := qg_beq hs
        cases hs
        refine ⟨_, .int (Int32.ofNat 0) :: sa, rfl, ⟨qR_mkI (by decide) (by decide), hs2⟩, fun pc n9 a9 b9 k9 hy => ?_⟩
        simp only [mheap]
        rw [if_pos (show a.2.1 < E.length by omega), h2, hfe]
        dsimp only
        rw [show (mTys[3]? : Option FieldType) = some (.object "java/lang/Object") from rfl, hy]
  · cases hs
theorem qdef_ok {E : mE} {a N j : Nat} {v : Value} (hf : (List.range N).all (fun j => decide (mfty a j ≠ .float)) = true) (hv : (mdef a N)[j]? = some v) : qR E (qdef a j) v := by
  unfold mdef at hv
  rw [List.getElem?_map] at hv
  obtain ⟨k, hk, hv⟩ := Option.map_eq_some_iff.mp hv
  obtain ⟨hlt, hk2⟩ := List.getElem?_eq_some_iff.mp hk
  rw [List.getElem_range] at hk2
  subst hk2
  rw [List.length_range] at hlt
  have h1 := of_decide_eq_true (List.all_eq_true.mp hf j (List.mem_range.mpr hlt))
  subst hv
  unfold qdef
  cases hty : mfty a j
  case float => exact absurd hty h1
  case long => exact qR_mkL (n := 0) (m := 0)
  case double => exact ⟨_, rfl⟩
  case object C => exact (show Value.null = Value.null from rfl)
  case array C => exact (show Value.null = Value.null from rfl)
  all_goals exact qR_mkI (by decide) (by decide)
theorem mdef_len (a N : Nat) : (mdef a N).length = N := by simp [mdef]
theorem qnew_ok {E : mE} {x y z : Nat} {lv : qL} {st : List qV} {w : qW} {T : qT} {stc : List Value} {h : mH} (hs : qnew x y z lv st w = some T) (hst : qS E st stc) (hw : qWr E w h) {cl : vw_C} (hcl : mCl[z]? = some cl) (hN : cl.2.2 = x) (hf : (List.range x).all (fun j => decide (mfty z j ≠ .float)) = true) : ∃ (st' : List qV) (stc' : List Value) (w' : qW) (h' : mH), T = (y, lv, st', w') ∧ qS E st' stc' ∧ qWr E w' h' ∧ ∀ pc idx n b k : Nat, pc + 3 = y → mheap E (pc, .new idx, n, z, b, k) stc h = some (y, stc', h') := by
  unfold qnew at hs
  cases hs
  subst hN
  refine ⟨_, .ref (E.length + h.1.length) :: stc, _, _, rfl, ⟨?_, hst⟩, qW_push hw (c := .inr (z, mdef z cl.2.2)) ⟨rfl, rfl, (mdef_len _ _).symm, fun j v hv => qdef_ok hf hv⟩, fun pc idx n b k hy => ?_⟩
  · rw [← hw.1]; exact qR_mkR
  · simp only [mheap]
    rw [hcl, hy]
theorem qdefR_ok {E : mE} (t j : Nat) : qR E (qdefR t) (mval t [] j) := by
  unfold qdefR
  simp only [qif_beq]
  match t with
  | 0 => exact qR_mkI (x := 0) (by decide) (by decide)
  | 1 => exact qR_mkL (n := 0) (m := 0)
  | 2 => exact ⟨_, rfl⟩
  | k + 3 => exact (show Value.null = Value.null from rfl)
theorem qnewa_ok {E : mE} {y z : Nat} {lv : qL} {st : List qV} {w : qW} {T : qT} {stc : List Value} {h : mH} (hs : qnewa y z lv st w = some T) (hst : qS E st stc) (hw : qWr E w h) : ∃ (n : Int32) (rc : List Value) (st' : List qV) (w' : qW), stc = .int n :: rc ∧ ¬ n < 0 ∧ n.toNatClampNeg * 8 ≤ 536870912 ∧ T = (y, lv, st', w') ∧ qS E st' (.ref (E.length + h.1.length) :: rc) ∧ qWr E w' (h.1 ++ [.inl (z, n.toNatClampNeg, [])], h.2.1 + 1, h.2.2 + n.toNatClampNeg) := by
  unfold qnewa at hs
  split at hs
  · rename_i a r
    obtain ⟨va, sa, rfl, ha, hs2⟩ := qS_c hst
    obtain ⟨ta, hs⟩ := qg_beq hs
    obtain ⟨t1, hs⟩ := qg_beq hs
    obtain ⟨t2, hs⟩ := qg_ble hs
    obtain ⟨t3, hs⟩ := qg_ble hs
    obtain ⟨iv, rfl, i1, i2⟩ := qR_int ha ta
    obtain ⟨k1, k2⟩ := qnat (x := iv) (n := a.2.1) (by omega) t2
    cases hs
    refine ⟨iv, sa, _, _, rfl, k2, by rw [k1]; omega, rfl, ⟨by rw [← hw.1]; exact qR_mkR, hs2⟩, ?_⟩
    rw [k1]
    exact qW_push hw ⟨rfl, rfl, rfl, fun j _ => qdefR_ok z j⟩
  · cases hs
theorem qmw {E : mE} {r : List qV} {rc : List Value} (hs : qS E r rc) (hl : r.length ≤ 4) : mwords rc ≤ 8 := by
  have h1 := mwords_le rc (fun v _ => cat_le v)
  have h2 := qS_len hs
  omega
theorem qgetc_ok {E : mE} {X x y : Nat} {lv : qL} {st : List qV} {w : qW} {T : qT} {stc : List Value} {h : mH} (hs : qgetc X x y lv st w = some T) (hX : X = E.length) (hst : qS E st stc) (hw : qWr E w h) {z : String × Nat} (hz : mMir[0]? = some z) (hz1 : z.1 = "[Ljava/lang/Object;" ∧ mTys[3]? = some (.object "java/lang/Object")) (hx : x = z.2) : ∃ (st' : List qV) (stc' : List Value), T = (y, lv, st', w) ∧ qS E st' stc' ∧ ∀ pc idx n b k : Nat, pc + 3 = y → mheap E (pc, .invokevirtual idx, n, 994, b, k) stc h = some (y, stc', h) := by
  unfold qgetc at hs
  split at hs
  · rename_i a r
    obtain ⟨va, sa, rfl, ha, hs2⟩ := qS_c hst
    obtain ⟨ta, hs⟩ := qg_beq hs
    obtain ⟨t1, hs⟩ := qg_ble hs
    obtain ⟨t2, hs⟩ := qg_ble hs
    split at hs
    rename_i k c n f he
    obtain ⟨t4, hs⟩ := qg_beq hs
    obtain ⟨t5, hs⟩ := qg_beq hs
    obtain ⟨t6, hs⟩ := qg_ble hs
    cases hs
    rw [qR_ref ha ta]
    obtain ⟨⟨t0, n0, u0⟩, ho, g1, g2, g3⟩ := qW_row hw (by omega) t2 he t4
    dsimp only at g1 g2 g3
    have h3 : t0 = 3 := by omega
    subst h3
    refine ⟨_, .ref x :: sa, rfl, ⟨qR_mkR, hs2⟩, fun pc idx n b k hy => ?_⟩
    simp only [mheap]
    rw [if_true, mrow_at (by omega) ho, hz]
    dsimp only
    rw [if_pos ⟨hz1.2, hz1.1, qmw hs2 t6⟩, hy, hx]
  · cases hs
theorem qall_ok (f : Nat → qV) (sp : Nat) : ∀ n : Nat, qall f sp n = true → ∀ i, i < n → (f (sp + i)).1 = 3 ∨ (f (sp + i)).1 = 2 := by
  intro n
  induction n with
  | zero => intro _ i hi; exact absurd hi (Nat.not_lt_zero i)
  | succ n ih =>
    intro h i hi
    have h1 : qif (qif (Nat.beq (f (Nat.add sp n)).1 3) true (Nat.beq (f (Nat.add sp n)).1 2)) (qall f sp n) false = true := h
    have h2 : qif (Nat.beq (f (Nat.add sp n)).1 3) true (Nat.beq (f (Nat.add sp n)).1 2) = true ∧ qall f sp n = true := by
      cases hb : qif (Nat.beq (f (Nat.add sp n)).1 3) true (Nat.beq (f (Nat.add sp n)).1 2)
      · rw [hb] at h1; cases h1
      · rw [hb] at h1; exact ⟨rfl, h1⟩
    by_cases e : i = n
    · subst e
      have h3 := h2.1
      rw [qif_beq] at h3
      by_cases e3 : (f (Nat.add sp i)).1 = 3
      · exact Or.inl e3
      · rw [if_neg e3] at h3
        exact Or.inr (Nat.eq_of_beq_eq_true h3)
    · exact ih h2.2 i (by omega)
theorem mcpW_val (u y : List (Nat × Value)) (sp dp n j : Nat) : mval 3 (mcpW u sp dp n ++ y) j = if dp ≤ j ∧ j < dp + n then mval 3 u (sp + (j - dp)) else mval 3 y j := by
  show va_rf (mupR (mcpW u sp dp n ++ y) j) = _
  unfold mupR mcpW
  rw [mup_app, mup_rng dp (fun i => va_rf (mupR u (sp + i)))]
  by_cases h : dp ≤ j ∧ j < dp + n
  · rw [if_pos h, if_pos h]
    dsimp only
    show _ = va_rf (mupR u (sp + (j - dp)))
    cases mupR u (sp + (j - dp)) <;> rfl
  · rw [if_neg h, if_neg h]
    rfl
theorem qcopy_el {E : mE} {fs fd : Nat → qV} {u y : List (Nat × Value)} {S D N n0 n9 j : Nat} (g3 : ∀ j, j < n0 → qR E (fs j) (mval 3 u j)) (e3 : ∀ j, j < n9 → qR E (fd j) (mval 3 y j)) (hS : S + N ≤ n0) (hj : j < n9) : qR E (qif (Nat.ble D j) (qif (Nat.ble (Nat.succ j) (Nat.add D N)) (fs (Nat.add S (Nat.sub j D))) (fd j)) (fd j)) (mval 3 (mcpW u S D N ++ y) j) := by
  rw [qif_ble, qif_ble, mcpW_val, q_ad, q_ad, q_sb]
  by_cases h1 : D ≤ j
  · rw [if_pos h1]
    by_cases h2 : Nat.succ j ≤ D + N
    · rw [if_pos h2, if_pos ⟨h1, h2⟩]
      exact g3 _ (by omega)
    · rw [if_neg h2, if_neg (fun h9 => h2 h9.2)]
      exact e3 j hj
  · rw [if_neg h1, if_neg (fun h9 => h1 h9.1)]
    exact e3 j hj
theorem qcopy1_ok {E : mE} {X y N D S d s : Nat} {lv : qL} {r : List qV} {w : qW} {T : qT} {ss : List Value} {h : mH} {iN iD iS : Int32} (hs : qcopy1 X y N D S d s lv r w = some T) (hX : X = E.length) (hs5 : qS E r ss) (hw : qWr E w h) (hty : mTys[3]? = some (.object "java/lang/Object")) (hca : mcast 0 "java/lang/Object" = true) (kN : iN.toNatClampNeg = N) (kD : iD.toNatClampNeg = D) (kS : iS.toNatClampNeg = S) (zN : ¬ iN < 0) (zD : ¬ iD < 0) (zS : ¬ iS < 0) : ∃ (w' : qW) (h' : mH), T = (y, lv, r, w') ∧ qWr E w' h' ∧ ∀ pc idx n b k : Nat, pc + 3 = y → mheap E (pc, .invokestatic idx, n, 993, b, k) (.int iN :: .int iD :: .ref d :: .int iS :: .ref s :: ss) h = some (y, ss, h') := by
  unfold qcopy1 at hs
  obtain ⟨b3, hs⟩ := qg_ble hs
  obtain ⟨b4, hs⟩ := qg_ble hs
  obtain ⟨b5, hs⟩ := qg_ble hs
  obtain ⟨b6, hs⟩ := qg_ble hs
  obtain ⟨b7, hs⟩ := qg_ble hs
  split at hs
  rename_i ks cs ns fs kd cd nd fd hes hed
  obtain ⟨c1, hs⟩ := qg_beq hs
  obtain ⟨c2, hs⟩ := qg_beq hs
  obtain ⟨c3, hs⟩ := qg_beq hs
  obtain ⟨c4, hs⟩ := qg_beq hs
  obtain ⟨c5, hs⟩ := qg_ble hs
  obtain ⟨c6, hs⟩ := qg_ble hs
  obtain ⟨c7, hs⟩ := qg_some hs
  cases hs
  simp only [q_ad] at c5 c6
  obtain ⟨⟨t0, n0, u0⟩, ho, g1, g2, g3⟩ := qW_row hw (by omega) b6 hes c1
  obtain ⟨⟨t9, n9, u9⟩, ho9, e1, e2, e3⟩ := qW_row hw (by omega) b5 hed c3
  dsimp only at g1 g2 g3 e1 e2 e3
  have h30 : t0 = 3 := by omega
  have h39 : t9 = 3 := by omega
  subst h30
  subst h39
  have hall := qall_ok _ _ _ c7
  have hok : (List.range N).all (mcpO E h.1 u0 S) = true := by
    rw [List.all_eq_true]
    intro i hi
    have hi2 := List.mem_range.mp hi
    have hr := g3 (S + i) (by omega)
    unfold mcpO
    rcases hall i hi2 with h9 | h9
    · obtain ⟨q, g, f1, f2, f3⟩ := qR_box hr h9
      have f1' : va_rf (mupR u0 (S + i)) = .ref q := f1
      cases hm : mupR u0 (S + i) with
      | none => rfl
      | some q2 =>
        rw [hm] at f1'
        cases f1'
        dsimp only
        rw [mobjE_out f2 f3]
        rfl
    · have f1' : va_rf (mupR u0 (S + i)) = .null := qR_null hr h9
      cases hm : mupR u0 (S + i) with
      | none => rfl
      | some q2 => rw [hm] at f1'; cases f1'
  refine ⟨_, (h.1.set (d - E.length) (.inl (3, n9, mcpW u0 S D N ++ u9)), h.2), rfl, qW_put hw (by omega) ⟨rfl, e1, e2, fun j hj => ?_⟩, fun pc idx n8 b8 k8 hy => ?_⟩
  · exact qcopy_el (S := S) (D := D) (N := N) g3 e3 (by rw [← g2]; exact c5) hj
  · simp only [mheap]
    rw [if_true, mrow_at (by omega) ho, mrow_at (by omega) ho9]
    dsimp only
    have hw8 := qmw hs5 b7
    rw [kN, kD, kS, if_neg (fun h9 => by
      rcases h9 with (h9 | h9 | h9) | (h9 | h9) | h9
      · exact zS h9
      · exact zD h9
      · exact zN h9
      · omega
      · omega
      · omega), if_pos ⟨hty, hca, hok⟩, hy]
theorem qnat2 {x : Int32} {n : Nat} (h1 : (n : Int) = x.toInt + 2147483648) (h2 : 2147483648 ≤ n) : x.toNatClampNeg = Nat.sub n 2147483648 ∧ ¬ x < 0 := by
  rw [q_sb]
  exact qnat h1 h2
theorem qcopy_ok {E : mE} {X y : Nat} {lv : qL} {st : List qV} {w : qW} {T : qT} {stc : List Value} {h : mH} (hs : qcopy X y lv st w = some T) (hX : X = E.length) (hst : qS E st stc) (hw : qWr E w h) (hty : mTys[3]? = some (.object "java/lang/Object")) (hca : mcast 0 "java/lang/Object" = true) : ∃ (st' : List qV) (stc' : List Value) (w' : qW) (h' : mH), T = (y, lv, st', w') ∧ qS E st' stc' ∧ qWr E w' h' ∧ ∀ pc idx n b k : Nat, pc + 3 = y → mheap E (pc, .invokestatic idx, n, 993, b, k) stc h = some (y, stc', h') := by
  unfold qcopy at hs
  split at hs
  · rename_i n dp d sp s r
    obtain ⟨vn, sn, rfl, hn, hs1⟩ := qS_c hst
    obtain ⟨vdp, sdp, rfl, hdp, hs2⟩ := qS_c hs1
    obtain ⟨vd, sd, rfl, hd, hs3⟩ := qS_c hs2
    obtain ⟨vsp, ssp, rfl, hsp, hs4⟩ := qS_c hs3
    obtain ⟨vs, ss, rfl, hsr, hs5⟩ := qS_c hs4
    obtain ⟨a1, hs⟩ := qg_beq hs
    obtain ⟨a2, hs⟩ := qg_beq hs
    obtain ⟨a3, hs⟩ := qg_beq hs
    obtain ⟨a4, hs⟩ := qg_beq hs
    obtain ⟨a5, hs⟩ := qg_beq hs
    obtain ⟨a6, hs⟩ := qg_beq hs
    obtain ⟨a7, hs⟩ := qg_ble hs
    obtain ⟨a8, hs⟩ := qg_ble hs
    obtain ⟨a9, hs⟩ := qg_ble hs
    obtain ⟨b1, hs⟩ := qg_beq hs
    obtain ⟨b2, hs⟩ := qg_beq hs
    obtain ⟨iN, rfl, n1, n2⟩ := qR_int hn a1
    obtain ⟨iD, rfl, d1, d2⟩ := qR_int hdp a2
    obtain ⟨iS, rfl, s1, s2⟩ := qR_int hsp a3
    have eN : (n.2.1 : Int) = iN.toInt + 2147483648 := by clear hs; omega
    have eD : (dp.2.1 : Int) = iD.toInt + 2147483648 := by clear hs; omega
    have eS : (sp.2.1 : Int) = iS.toInt + 2147483648 := by clear hs; omega
    obtain ⟨kN, zN⟩ := qnat2 eN a7
    obtain ⟨kD, zD⟩ := qnat2 eD a8
    obtain ⟨kS, zS⟩ := qnat2 eS a9
    rw [qR_ref hd b1, qR_ref hsr b2]
    obtain ⟨w', h', g1, g2, g3⟩ := qcopy1_ok hs hX hs5 hw hty hca kN kD kS zN zD zS
    exact ⟨r, ss, w', h', g1, hs5, g2, g3⟩
  · cases hs
