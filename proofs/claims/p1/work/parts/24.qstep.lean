/-! ===== a step of the abstract machine is a step of the small one ===== -/
theorem q_ifn {P Q : Prop} [Decidable P] [Decidable Q] {x y : Nat} (h : P ↔ ¬ Q) : (if P then x else y) = (if Q then y else x) := by
  by_cases hq : Q
  · rw [if_pos hq, if_neg (fun hp => h.mp hp hq)]
  · rw [if_neg hq, if_pos (h.mpr hq)]
theorem q0I : (0 : Int32).toInt = 0 := rfl
theorem q_lt0 {a : Int32} : a < 0 ↔ a.toInt < 0 := fa_lt a 0
theorem q_0le {a : Int32} : 0 ≤ a ↔ ¬ a.toInt < 0 := by
  rw [fa_le, q0I]
  omega
theorem q_0lt {a : Int32} : 0 < a ↔ 0 < a.toInt := fa_lt 0 a
theorem q_le0 {a : Int32} : a ≤ 0 ↔ ¬ 0 < a.toInt := by
  rw [fa_le, q0I]
  omega
theorem q_eq0 {a : Int32} : a = 0 ↔ a.toInt = 0 := fa_eq a 0
theorem q_le {a b : Int32} : a ≤ b ↔ ¬ b.toInt < a.toInt := by
  rw [fa_le]
  omega
theorem q_cong {α : Type} {x y : Nat} {b : α} (h : x = y) : some (x, b) = some (y, b) := by rw [h]
def qConc (E : mE) (nL : Nat) (e : mIns) (lvc : mLv) (stc : List Value) (h : mH) (T : qT) : Prop := ∃ (lvc' : mLv) (stc' : List Value) (h' : mH), ((mpure nL e lvc stc = some (T.1, lvc', stc') ∧ h' = h) ∨ (mpure nL e lvc stc = none ∧ lvc' = lvc ∧ mheap E e stc h = some (T.1, stc', h'))) ∧ qLr E T.2.1 lvc' ∧ qS E T.2.2.1 stc' ∧ qWr E T.2.2.2 h' ∧ minv e = false ∧ mterm e = false
theorem qpush_ok {y : Nat} {v : qV} {lv : qL} {st : List qV} {w : qW} {T : qT} (hs : qpush y v lv st w = some T) : T = (y, lv, v :: st, w) := by
  unfold qpush at hs
  cases hs
  rfl
set_option maxHeartbeats 4000000 in
theorem qstep_ok0 {E : mE} {X nL : Nat} {bx : qX} (hE : qEok E X bx) {e : mIns} {lv : qL} {st : List qV} {w : qW} {T : qT} (hs : qstep X bx nL (qenc e).1 (qenc e).2.1 (qenc e).2.2.1 (qenc e).2.2.2.1 (qenc e).2.2.2.2 e lv st w = some T) {lvc : mLv} {stc : List Value} {h : mH} (hl : qLr E lv lvc) (hst : qS E st stc) (hw : qWr E w h) : qConc E nL e lvc stc h T := by
  obtain ⟨pc, i, n, a, b, k⟩ := e
  have no : ∀ {op' x' y' z' u' : Nat} {e' : mIns}, op' = 99 ∨ (40 ≤ op' ∧ op' ≤ 46) → ∀ {T' : qT}, qstep X bx nL op' x' y' z' u' e' lv st w = some T' → False := by
    intro op' x' y' z' u' e' ho T' h9
    have h8 : (none : Option qT) = some T' := by
      rcases ho with rfl | ho
      · exact h9
      · have : op' = 40 ∨ op' = 41 ∨ op' = 42 ∨ op' = 43 ∨ op' = 44 ∨ op' = 45 ∨ op' = 46 := by omega
        rcases this with rfl | rfl | rfl | rfl | rfl | rfl | rfl <;> exact h9
    cases h8
  cases i
  case iconst m =>
    have hs2 := qpush_ok (y := pc + 1) (v := (0, qbias (Int32.ofInt m), qbias (Int32.ofInt m))) hs
    subst hs2
    exact ⟨lvc, _, h, Or.inl ⟨rfl, rfl⟩, hl, ⟨qbias_ok _, hst⟩, hw, rfl, rfl⟩
  case bipush m =>
    have hs2 := qpush_ok (y := pc + 2) (v := (0, qbias ((Int8.ofInt m).toInt32), qbias ((Int8.ofInt m).toInt32))) hs
    subst hs2
    exact ⟨lvc, _, h, Or.inl ⟨rfl, rfl⟩, hl, ⟨qbias_ok _, hst⟩, hw, rfl, rfl⟩
  case sipush m =>
    have hs2 := qpush_ok (y := pc + 3) (v := (0, qbias ((Int16.ofInt m).toInt32), qbias ((Int16.ofInt m).toInt32))) hs
    subst hs2
    exact ⟨lvc, _, h, Or.inl ⟨rfl, rfl⟩, hl, ⟨qbias_ok _, hst⟩, hw, rfl, rfl⟩
  case lconst m =>
    have hs2 := qpush_ok (y := pc + 1) (v := (5, (m : Nat), 0)) hs
    subst hs2
    exact ⟨lvc, _, h, Or.inl ⟨rfl, rfl⟩, hl, ⟨qR_mkL, hst⟩, hw, rfl, rfl⟩
  case dconst m =>
    by_cases h0 : (m : Nat) = 0
    · have he2 : qenc (pc, .dconst m, n, a, b, k) = (3, 0, pc + 1, 0, 0) := by simp only [qenc]; rw [if_pos h0]
      rw [he2] at hs
      have hs2 := qpush_ok (y := pc + 1) (v := (6, 0, 0)) hs
      subst hs2
      exact ⟨lvc, .double FP.dconst0 :: stc, h, Or.inl ⟨by simp only [mpure]; rw [if_pos h0], rfl⟩, hl, ⟨⟨_, rfl⟩, hst⟩, hw, rfl, rfl⟩
    · have he2 : qenc (pc, .dconst m, n, a, b, k) = (99, 0, 0, 0, 0) := by simp only [qenc]; rw [if_neg h0]
      rw [he2] at hs
      exact (no (Or.inl rfl) hs).elim
  case iload_n m =>
    obtain ⟨rfl, v, hv, hr, h9, -, -, -⟩ := qload_ok (x := (m : Nat)) (y := pc + 1) (z := 0) hs hl (Or.inl rfl)
    obtain ⟨i9, rfl⟩ := h9 rfl
    exact ⟨lvc, .int i9 :: stc, h, Or.inl ⟨by simp only [mpure]; rw [hv], rfl⟩, hl, ⟨hr, hst⟩, hw, rfl, rfl⟩
  case iload m =>
    obtain ⟨rfl, v, hv, hr, h9, -, -, -⟩ := qload_ok (x := m) (y := pc + 2) (z := 0) hs hl (Or.inl rfl)
    obtain ⟨i9, rfl⟩ := h9 rfl
    exact ⟨lvc, .int i9 :: stc, h, Or.inl ⟨by simp only [mpure]; rw [hv], rfl⟩, hl, ⟨hr, hst⟩, hw, rfl, rfl⟩
  case aload_n m =>
    obtain ⟨rfl, v, hv, hr, -, h9, -, -⟩ := qload_ok (x := (m : Nat)) (y := pc + 1) (z := 1) hs hl (Or.inr (Or.inl rfl))
    obtain ⟨i9, rfl⟩ := h9 rfl
    exact ⟨lvc, .ref i9 :: stc, h, Or.inl ⟨by simp only [mpure]; rw [hv], rfl⟩, hl, ⟨hr, hst⟩, hw, rfl, rfl⟩
  case aload m =>
    obtain ⟨rfl, v, hv, hr, -, h9, -, -⟩ := qload_ok (x := m) (y := pc + 2) (z := 1) hs hl (Or.inr (Or.inl rfl))
    obtain ⟨i9, rfl⟩ := h9 rfl
    exact ⟨lvc, .ref i9 :: stc, h, Or.inl ⟨by simp only [mpure]; rw [hv], rfl⟩, hl, ⟨hr, hst⟩, hw, rfl, rfl⟩
  case lload_n m =>
    obtain ⟨rfl, v, hv, hr, -, -, h9, -⟩ := qload_ok (x := (m : Nat)) (y := pc + 1) (z := 5) hs hl (Or.inr (Or.inr (Or.inl rfl)))
    obtain ⟨i9, rfl⟩ := h9 rfl
    exact ⟨lvc, .long i9 :: stc, h, Or.inl ⟨by simp only [mpure]; rw [hv], rfl⟩, hl, ⟨hr, hst⟩, hw, rfl, rfl⟩
  case lload m =>
    obtain ⟨rfl, v, hv, hr, -, -, h9, -⟩ := qload_ok (x := m) (y := pc + 2) (z := 5) hs hl (Or.inr (Or.inr (Or.inl rfl)))
    obtain ⟨i9, rfl⟩ := h9 rfl
    exact ⟨lvc, .long i9 :: stc, h, Or.inl ⟨by simp only [mpure]; rw [hv], rfl⟩, hl, ⟨hr, hst⟩, hw, rfl, rfl⟩
  case dload_n m =>
    obtain ⟨rfl, v, hv, hr, -, -, -, h9⟩ := qload_ok (x := (m : Nat)) (y := pc + 1) (z := 6) hs hl (Or.inr (Or.inr (Or.inr rfl)))
    obtain ⟨i9, rfl⟩ := h9 rfl
    exact ⟨lvc, .double i9 :: stc, h, Or.inl ⟨by simp only [mpure]; rw [hv], rfl⟩, hl, ⟨hr, hst⟩, hw, rfl, rfl⟩
  case dload m =>
    obtain ⟨rfl, v, hv, hr, -, -, -, h9⟩ := qload_ok (x := m) (y := pc + 2) (z := 6) hs hl (Or.inr (Or.inr (Or.inr rfl)))
    obtain ⟨i9, rfl⟩ := h9 rfl
    exact ⟨lvc, .double i9 :: stc, h, Or.inl ⟨by simp only [mpure]; rw [hv], rfl⟩, hl, ⟨hr, hst⟩, hw, rfl, rfl⟩
  case istore_n m =>
    obtain ⟨v, rc, lv2, r2, rfl, rfl, hq, h9, -, -, -⟩ := qstore_ok (x := (m : Nat)) (y := pc + 1) (z := 0) hs hl hst (Or.inl rfl)
    obtain ⟨⟨i9, rfl⟩, h8, h7⟩ := h9 rfl
    exact ⟨_, rc, h, Or.inl ⟨by simp only [mpure]; rw [if_pos h8], rfl⟩, h7, hq, hw, rfl, rfl⟩
  case istore m =>
    obtain ⟨v, rc, lv2, r2, rfl, rfl, hq, h9, -, -, -⟩ := qstore_ok (x := m) (y := pc + 2) (z := 0) hs hl hst (Or.inl rfl)
    obtain ⟨⟨i9, rfl⟩, h8, h7⟩ := h9 rfl
    exact ⟨_, rc, h, Or.inl ⟨by simp only [mpure]; rw [if_pos h8], rfl⟩, h7, hq, hw, rfl, rfl⟩
  case astore_n m =>
    obtain ⟨v, rc, lv2, r2, rfl, rfl, hq, -, h9, -, -⟩ := qstore_ok (x := (m : Nat)) (y := pc + 1) (z := 1) hs hl hst (Or.inr (Or.inl rfl))
    obtain ⟨⟨i9, rfl⟩, h8, h7⟩ := h9 rfl
    exact ⟨_, rc, h, Or.inl ⟨by simp only [mpure]; rw [if_pos h8], rfl⟩, h7, hq, hw, rfl, rfl⟩
  case astore m =>
    obtain ⟨v, rc, lv2, r2, rfl, rfl, hq, -, h9, -, -⟩ := qstore_ok (x := m) (y := pc + 2) (z := 1) hs hl hst (Or.inr (Or.inl rfl))
    obtain ⟨⟨i9, rfl⟩, h8, h7⟩ := h9 rfl
    exact ⟨_, rc, h, Or.inl ⟨by simp only [mpure]; rw [if_pos h8], rfl⟩, h7, hq, hw, rfl, rfl⟩
  case lstore_n m =>
    obtain ⟨v, rc, lv2, r2, rfl, rfl, hq, -, -, h9, -⟩ := qstore_ok (x := (m : Nat)) (y := pc + 1) (z := 5) hs hl hst (Or.inr (Or.inr (Or.inl rfl)))
    obtain ⟨⟨i9, rfl⟩, h8, h7⟩ := h9 rfl
    exact ⟨_, rc, h, Or.inl ⟨by simp only [mpure]; rw [if_pos h8], rfl⟩, h7, hq, hw, rfl, rfl⟩
  case lstore m =>
    obtain ⟨v, rc, lv2, r2, rfl, rfl, hq, -, -, h9, -⟩ := qstore_ok (x := m) (y := pc + 2) (z := 5) hs hl hst (Or.inr (Or.inr (Or.inl rfl)))
    obtain ⟨⟨i9, rfl⟩, h8, h7⟩ := h9 rfl
    exact ⟨_, rc, h, Or.inl ⟨by simp only [mpure]; rw [if_pos h8], rfl⟩, h7, hq, hw, rfl, rfl⟩
  case dstore_n m =>
    obtain ⟨v, rc, lv2, r2, rfl, rfl, hq, -, -, -, h9⟩ := qstore_ok (x := (m : Nat)) (y := pc + 1) (z := 6) hs hl hst (Or.inr (Or.inr (Or.inr rfl)))
    obtain ⟨⟨i9, rfl⟩, h8, h7⟩ := h9 rfl
    exact ⟨_, rc, h, Or.inl ⟨by simp only [mpure]; rw [if_pos h8], rfl⟩, h7, hq, hw, rfl, rfl⟩
  case dstore m =>
    obtain ⟨v, rc, lv2, r2, rfl, rfl, hq, -, -, -, h9⟩ := qstore_ok (x := m) (y := pc + 2) (z := 6) hs hl hst (Or.inr (Or.inr (Or.inr rfl)))
    obtain ⟨⟨i9, rfl⟩, h8, h7⟩ := h9 rfl
    exact ⟨_, rc, h, Or.inl ⟨by simp only [mpure]; rw [if_pos h8], rfl⟩, h7, hq, hw, rfl, rfl⟩
  case iinc m d =>
    obtain ⟨i9, lv2, hv, h8, rfl, h7⟩ := qiinc_ok (x := m) (y := pc + 3) hs hl
    exact ⟨_, stc, h, Or.inl ⟨by simp only [mpure]; rw [hv]; dsimp only; rw [if_pos h8], rfl⟩, h7, hst, hw, rfl, rfl⟩
  case iadd =>
    obtain ⟨b9, a9, r, r2, rfl, rfl, hq⟩ := qadd_ok (y := pc + 1) hs hst
    exact ⟨lvc, _, h, Or.inl ⟨rfl, rfl⟩, hl, hq, hw, rfl, rfl⟩
  case isub =>
    obtain ⟨b9, a9, r, r2, rfl, rfl, hq⟩ := qsub_ok (y := pc + 1) hs hst
    exact ⟨lvc, _, h, Or.inl ⟨rfl, rfl⟩, hl, hq, hw, rfl, rfl⟩
  case iand =>
    obtain ⟨b9, a9, r, r2, rfl, rfl, hq⟩ := qand_ok (y := pc + 1) hs hst
    exact ⟨lvc, _, h, Or.inl ⟨rfl, rfl⟩, hl, hq, hw, rfl, rfl⟩
  case ishr =>
    obtain ⟨b9, a9, r, r2, rfl, rfl, hq⟩ := qshr_ok (y := pc + 1) hs hst
    exact ⟨lvc, _, h, Or.inl ⟨rfl, rfl⟩, hl, hq, hw, rfl, rfl⟩
  case ladd =>
    obtain ⟨b9, a9, r, r2, rfl, rfl, hq⟩ := qladd_ok (y := pc + 1) hs hst
    exact ⟨lvc, _, h, Or.inl ⟨rfl, rfl⟩, hl, hq, hw, rfl, rfl⟩
  case lmul =>
    obtain ⟨b9, a9, r, r2, rfl, rfl, hq⟩ := qlmul_ok (y := pc + 1) hs hst
    exact ⟨lvc, _, h, Or.inl ⟨rfl, rfl⟩, hl, hq, hw, rfl, rfl⟩
  case lcmp =>
    obtain ⟨b9, a9, r, r2, rfl, rfl, hq⟩ := qlcmp_ok (y := pc + 1) hs hst
    exact ⟨lvc, _, h, Or.inl ⟨rfl, rfl⟩, hl, hq, hw, rfl, rfl⟩
  case idiv =>
    obtain ⟨b9, a9, r, r2, rfl, h0, rfl, hq⟩ := qdiv_ok (y := pc + 1) hs hst
    exact ⟨lvc, _, h, Or.inl ⟨by simp only [mpure]; rw [if_neg h0], rfl⟩, hl, hq, hw, rfl, rfl⟩
  case irem =>
    obtain ⟨b9, a9, r, r2, rfl, h0, rfl, hq⟩ := qrem_ok (y := pc + 1) hs hst
    exact ⟨lvc, _, h, Or.inl ⟨by simp only [mpure]; rw [if_neg h0], rfl⟩, hl, hq, hw, rfl, rfl⟩
  case i2l =>
    obtain ⟨a9, r, r2, rfl, rfl, hq⟩ := qi2l_ok (y := pc + 1) hs hst
    exact ⟨lvc, _, h, Or.inl ⟨rfl, rfl⟩, hl, hq, hw, rfl, rfl⟩
  case dup =>
    obtain ⟨v, r, r2, rfl, h0, rfl, hq⟩ := qdup_ok (y := pc + 1) hs hst
    exact ⟨lvc, _, h, Or.inl ⟨by simp only [mpure]; rw [if_pos h0], rfl⟩, hl, hq, hw, rfl, rfl⟩
  case pop =>
    obtain ⟨v, r, r2, rfl, h0, rfl, hq⟩ := qpop_ok (y := pc + 1) hs hst
    exact ⟨lvc, _, h, Or.inl ⟨by simp only [mpure]; rw [if_pos h0], rfl⟩, hl, hq, hw, rfl, rfl⟩
  case dup_x1 =>
    obtain ⟨v, u9, r, r2, rfl, h0, rfl, hq⟩ := qdupx_ok (y := pc + 1) hs hst
    exact ⟨lvc, _, h, Or.inl ⟨by simp only [mpure]; rw [if_pos h0], rfl⟩, hl, hq, hw, rfl, rfl⟩
  case goto off =>
    by_cases hc : mjmp pc off = true
    · have he2 : qenc (pc, .goto off, n, a, b, k) = (21, mtgt pc off, 0, 0, 0) := by simp only [qenc]; rw [if_pos hc]
      rw [he2] at hs
      have hs2 : some (mtgt pc off, lv, st, w) = some T := hs
      cases hs2
      exact ⟨lvc, stc, h, Or.inl ⟨by simp only [mpure]; rw [if_pos hc], rfl⟩, hl, hst, hw, rfl, rfl⟩
    · have he2 : qenc (pc, .goto off, n, a, b, k) = (99, 0, 0, 0, 0) := by simp only [qenc]; rw [if_neg hc]
      rw [he2] at hs
      exact (no (Or.inl rfl) hs).elim
  case ifCond cd off =>
    cases cd
    case eq =>
      by_cases hc : mjmp pc off = true
      · have he2 : qenc (pc, .ifCond .eq off, n, a, b, k) = (22, mtgt pc off, pc + 3, 2, 0) := by simp only [qenc]; rw [if_pos hc]
        rw [he2] at hs
        obtain ⟨a9, r, r2, t, rfl, rfl, hq, -, -, g⟩ := qifc_ok (x := mtgt pc off) (y := pc + 3) (z := 2) hs hst
        exact ⟨lvc, r, h, Or.inl ⟨by simp only [mpure]; rw [if_pos hc, g rfl]; exact q_cong (q_ifc q_eq0), rfl⟩, hl, hq, hw, rfl, rfl⟩
      · have he2 : qenc (pc, .ifCond .eq off, n, a, b, k) = (99, 0, 0, 0, 0) := by simp only [qenc]; rw [if_neg hc]
        rw [he2] at hs
        exact (no (Or.inl rfl) hs).elim
    case ne =>
      by_cases hc : mjmp pc off = true
      · have he2 : qenc (pc, .ifCond .ne off, n, a, b, k) = (22, pc + 3, mtgt pc off, 2, 0) := by simp only [qenc]; rw [if_pos hc]
        rw [he2] at hs
        obtain ⟨a9, r, r2, t, rfl, rfl, hq, -, -, g⟩ := qifc_ok (x := pc + 3) (y := mtgt pc off) (z := 2) hs hst
        exact ⟨lvc, r, h, Or.inl ⟨by simp only [mpure]; rw [if_pos hc, g rfl]; exact q_cong (q_ifc q_eq0), rfl⟩, hl, hq, hw, rfl, rfl⟩
      · have he2 : qenc (pc, .ifCond .ne off, n, a, b, k) = (99, 0, 0, 0, 0) := by simp only [qenc]; rw [if_neg hc]
        rw [he2] at hs
        exact (no (Or.inl rfl) hs).elim
    case lt =>
      by_cases hc : mjmp pc off = true
      · have he2 : qenc (pc, .ifCond .lt off, n, a, b, k) = (22, mtgt pc off, pc + 3, 0, 0) := by simp only [qenc]; rw [if_pos hc]
        rw [he2] at hs
        obtain ⟨a9, r, r2, t, rfl, rfl, hq, g, -, -⟩ := qifc_ok (x := mtgt pc off) (y := pc + 3) (z := 0) hs hst
        exact ⟨lvc, r, h, Or.inl ⟨by simp only [mpure]; rw [if_pos hc, g rfl]; exact q_cong (q_ifc q_lt0), rfl⟩, hl, hq, hw, rfl, rfl⟩
      · have he2 : qenc (pc, .ifCond .lt off, n, a, b, k) = (99, 0, 0, 0, 0) := by simp only [qenc]; rw [if_neg hc]
        rw [he2] at hs
        exact (no (Or.inl rfl) hs).elim
    case ge =>
      by_cases hc : mjmp pc off = true
      · have he2 : qenc (pc, .ifCond .ge off, n, a, b, k) = (22, pc + 3, mtgt pc off, 0, 0) := by simp only [qenc]; rw [if_pos hc]
        rw [he2] at hs
        obtain ⟨a9, r, r2, t, rfl, rfl, hq, g, -, -⟩ := qifc_ok (x := pc + 3) (y := mtgt pc off) (z := 0) hs hst
        exact ⟨lvc, r, h, Or.inl ⟨by simp only [mpure]; rw [if_pos hc, g rfl]; exact q_cong (q_ifn q_0le), rfl⟩, hl, hq, hw, rfl, rfl⟩
      · have he2 : qenc (pc, .ifCond .ge off, n, a, b, k) = (99, 0, 0, 0, 0) := by simp only [qenc]; rw [if_neg hc]
        rw [he2] at hs
        exact (no (Or.inl rfl) hs).elim
    case gt =>
      by_cases hc : mjmp pc off = true
      · have he2 : qenc (pc, .ifCond .gt off, n, a, b, k) = (22, mtgt pc off, pc + 3, 1, 0) := by simp only [qenc]; rw [if_pos hc]
        rw [he2] at hs
        obtain ⟨a9, r, r2, t, rfl, rfl, hq, -, g, -⟩ := qifc_ok (x := mtgt pc off) (y := pc + 3) (z := 1) hs hst
        exact ⟨lvc, r, h, Or.inl ⟨by simp only [mpure]; rw [if_pos hc, g rfl]; exact q_cong (q_ifc q_0lt), rfl⟩, hl, hq, hw, rfl, rfl⟩
      · have he2 : qenc (pc, .ifCond .gt off, n, a, b, k) = (99, 0, 0, 0, 0) := by simp only [qenc]; rw [if_neg hc]
        rw [he2] at hs
        exact (no (Or.inl rfl) hs).elim
    case le =>
      by_cases hc : mjmp pc off = true
      · have he2 : qenc (pc, .ifCond .le off, n, a, b, k) = (22, pc + 3, mtgt pc off, 1, 0) := by simp only [qenc]; rw [if_pos hc]
        rw [he2] at hs
        obtain ⟨a9, r, r2, t, rfl, rfl, hq, -, g, -⟩ := qifc_ok (x := pc + 3) (y := mtgt pc off) (z := 1) hs hst
        exact ⟨lvc, r, h, Or.inl ⟨by simp only [mpure]; rw [if_pos hc, g rfl]; exact q_cong (q_ifn q_le0), rfl⟩, hl, hq, hw, rfl, rfl⟩
      · have he2 : qenc (pc, .ifCond .le off, n, a, b, k) = (99, 0, 0, 0, 0) := by simp only [qenc]; rw [if_neg hc]
        rw [he2] at hs
        exact (no (Or.inl rfl) hs).elim
  case if_icmp cd off =>
    cases cd
    case eq =>
      by_cases hc : mjmp pc off = true
      · have he2 : qenc (pc, .if_icmp .eq off, n, a, b, k) = (23, mtgt pc off, pc + 3, 2, 0) := by simp only [qenc]; rw [if_pos hc]
        rw [he2] at hs
        obtain ⟨b9, a9, r, r2, t, rfl, rfl, hq, -, -, g⟩ := qicmp_ok (x := mtgt pc off) (y := pc + 3) (z := 2) hs hst
        exact ⟨lvc, r, h, Or.inl ⟨by simp only [mpure]; rw [if_pos hc, g rfl]; exact q_cong (q_ifc (fa_eq _ _)), rfl⟩, hl, hq, hw, rfl, rfl⟩
      · have he2 : qenc (pc, .if_icmp .eq off, n, a, b, k) = (99, 0, 0, 0, 0) := by simp only [qenc]; rw [if_neg hc]
        rw [he2] at hs
        exact (no (Or.inl rfl) hs).elim
    case ne =>
      by_cases hc : mjmp pc off = true
      · have he2 : qenc (pc, .if_icmp .ne off, n, a, b, k) = (23, pc + 3, mtgt pc off, 2, 0) := by simp only [qenc]; rw [if_pos hc]
        rw [he2] at hs
        obtain ⟨b9, a9, r, r2, t, rfl, rfl, hq, -, -, g⟩ := qicmp_ok (x := pc + 3) (y := mtgt pc off) (z := 2) hs hst
        exact ⟨lvc, r, h, Or.inl ⟨by simp only [mpure]; rw [if_pos hc, g rfl]; exact q_cong (q_ifc (fa_eq _ _)), rfl⟩, hl, hq, hw, rfl, rfl⟩
      · have he2 : qenc (pc, .if_icmp .ne off, n, a, b, k) = (99, 0, 0, 0, 0) := by simp only [qenc]; rw [if_neg hc]
        rw [he2] at hs
        exact (no (Or.inl rfl) hs).elim
    case lt =>
      by_cases hc : mjmp pc off = true
      · have he2 : qenc (pc, .if_icmp .lt off, n, a, b, k) = (23, mtgt pc off, pc + 3, 0, 0) := by simp only [qenc]; rw [if_pos hc]
        rw [he2] at hs
        obtain ⟨b9, a9, r, r2, t, rfl, rfl, hq, g, -, -⟩ := qicmp_ok (x := mtgt pc off) (y := pc + 3) (z := 0) hs hst
        exact ⟨lvc, r, h, Or.inl ⟨by simp only [mpure]; rw [if_pos hc, g rfl]; exact q_cong (q_ifc (fa_lt _ _)), rfl⟩, hl, hq, hw, rfl, rfl⟩
      · have he2 : qenc (pc, .if_icmp .lt off, n, a, b, k) = (99, 0, 0, 0, 0) := by simp only [qenc]; rw [if_neg hc]
        rw [he2] at hs
        exact (no (Or.inl rfl) hs).elim
    case ge =>
      by_cases hc : mjmp pc off = true
      · have he2 : qenc (pc, .if_icmp .ge off, n, a, b, k) = (23, pc + 3, mtgt pc off, 0, 0) := by simp only [qenc]; rw [if_pos hc]
        rw [he2] at hs
        obtain ⟨b9, a9, r, r2, t, rfl, rfl, hq, g, -, -⟩ := qicmp_ok (x := pc + 3) (y := mtgt pc off) (z := 0) hs hst
        exact ⟨lvc, r, h, Or.inl ⟨by simp only [mpure]; rw [if_pos hc, g rfl]; exact q_cong (q_ifn q_le), rfl⟩, hl, hq, hw, rfl, rfl⟩
      · have he2 : qenc (pc, .if_icmp .ge off, n, a, b, k) = (99, 0, 0, 0, 0) := by simp only [qenc]; rw [if_neg hc]
        rw [he2] at hs
        exact (no (Or.inl rfl) hs).elim
    case gt =>
      by_cases hc : mjmp pc off = true
      · have he2 : qenc (pc, .if_icmp .gt off, n, a, b, k) = (23, mtgt pc off, pc + 3, 1, 0) := by simp only [qenc]; rw [if_pos hc]
        rw [he2] at hs
        obtain ⟨b9, a9, r, r2, t, rfl, rfl, hq, -, g, -⟩ := qicmp_ok (x := mtgt pc off) (y := pc + 3) (z := 1) hs hst
        exact ⟨lvc, r, h, Or.inl ⟨by simp only [mpure]; rw [if_pos hc, g rfl]; exact q_cong (q_ifc (fa_lt _ _)), rfl⟩, hl, hq, hw, rfl, rfl⟩
      · have he2 : qenc (pc, .if_icmp .gt off, n, a, b, k) = (99, 0, 0, 0, 0) := by simp only [qenc]; rw [if_neg hc]
        rw [he2] at hs
        exact (no (Or.inl rfl) hs).elim
    case le =>
      by_cases hc : mjmp pc off = true
      · have he2 : qenc (pc, .if_icmp .le off, n, a, b, k) = (23, pc + 3, mtgt pc off, 1, 0) := by simp only [qenc]; rw [if_pos hc]
        rw [he2] at hs
        obtain ⟨b9, a9, r, r2, t, rfl, rfl, hq, -, g, -⟩ := qicmp_ok (x := pc + 3) (y := mtgt pc off) (z := 1) hs hst
        exact ⟨lvc, r, h, Or.inl ⟨by simp only [mpure]; rw [if_pos hc, g rfl]; exact q_cong (q_ifn q_le), rfl⟩, hl, hq, hw, rfl, rfl⟩
      · have he2 : qenc (pc, .if_icmp .le off, n, a, b, k) = (99, 0, 0, 0, 0) := by simp only [qenc]; rw [if_neg hc]
        rw [he2] at hs
        exact (no (Or.inl rfl) hs).elim
  case if_acmp cd off =>
    cases cd
    case eq =>
      by_cases hc : mjmp pc off = true
      · have he2 : qenc (pc, .if_acmp .eq off, n, a, b, k) = (24, mtgt pc off, 0, 0, 0) := by simp only [qenc]; rw [if_pos hc]
        rw [he2] at hs
        obtain ⟨q, r, r2, rfl, rfl, hq⟩ := qacmp_ok (x := mtgt pc off) hs hst
        exact ⟨lvc, r, h, Or.inl ⟨by simp only [mpure]; rw [if_pos ⟨trivial, hc⟩], rfl⟩, hl, hq, hw, rfl, rfl⟩
      · have he2 : qenc (pc, .if_acmp .eq off, n, a, b, k) = (99, 0, 0, 0, 0) := by simp only [qenc]; rw [if_neg hc]
        rw [he2] at hs
        exact (no (Or.inl rfl) hs).elim
    case ne =>
      by_cases hc : mjmp pc off = true
      · have he2 : qenc (pc, .if_acmp .ne off, n, a, b, k) = (24, pc + 3, 0, 0, 0) := by simp only [qenc]; rw [if_pos hc]
        rw [he2] at hs
        obtain ⟨q, r, r2, rfl, rfl, hq⟩ := qacmp_ok (x := pc + 3) hs hst
        exact ⟨lvc, r, h, Or.inl ⟨by simp only [mpure]; rw [if_pos ⟨trivial, hc⟩], rfl⟩, hl, hq, hw, rfl, rfl⟩
      · have he2 : qenc (pc, .if_acmp .ne off, n, a, b, k) = (99, 0, 0, 0, 0) := by simp only [qenc]; rw [if_neg hc]
        rw [he2] at hs
        exact (no (Or.inl rfl) hs).elim
  case tableswitch dflt lo hi offs =>
    obtain ⟨a9, r, r2, t, rfl, rfl, hq, ht⟩ := qswitch_ok hs hst
    refine ⟨lvc, r, h, Or.inl ⟨?_, rfl⟩, hl, hq, hw, rfl, rfl⟩
    simp only [mpure] at ht ⊢
    split at ht
    · rename_i h0
      rw [if_pos h0]
      split at ht
      · rename_i h1
        rw [if_pos h1]
        cases ht
        rfl
      · cases ht
    · rename_i h0
      rw [if_neg h0]
      split at ht
      · rename_i off ho
        try rw [ho]
        try dsimp only
        split at ht
        · rename_i h1
          rw [if_pos h1]
          cases ht
          rfl
        · cases ht
      · cases ht
  case lookupswitch dflt ps =>
    obtain ⟨a9, r, r2, t, rfl, rfl, hq, ht⟩ := qswitch_ok hs hst
    refine ⟨lvc, r, h, Or.inl ⟨?_, rfl⟩, hl, hq, hw, rfl, rfl⟩
    simp only [mpure] at ht ⊢
    split at ht
    · rename_i h0
      rw [if_pos h0]
      split at ht
      · rename_i h1
        rw [if_pos h1]
        cases ht
        rfl
      · cases ht
    · cases ht
  case getfield idx =>
    by_cases hc : (mCl[a]?).isSome = true
    · have he2 : qenc (pc, .getfield idx, n, a, b, k) = (27, b, pc + 3, a, 0) := by simp only [qenc]; rw [if_pos hc]
      rw [he2] at hs
      obtain ⟨st2, stc2, rfl, g1, g2⟩ := qgetf_ok (x := b) (y := pc + 3) (z := a) hs hE.1 hst hw hc
      exact ⟨lvc, stc2, h, Or.inr ⟨rfl, rfl, g2 pc idx n k rfl⟩, hl, g1, hw, rfl, rfl⟩
    · have he2 : qenc (pc, .getfield idx, n, a, b, k) = (99, 0, 0, 0, 0) := by simp only [qenc]; rw [if_neg hc]
      rw [he2] at hs
      exact (no (Or.inl rfl) hs).elim
  case putfield idx =>
    by_cases hc : (mCl[a]?).isSome = true
    · have he2 : qenc (pc, .putfield idx, n, a, b, k) = (28, b, pc + 3, a, qfk (mfty a b)) := by simp only [qenc]; rw [if_pos hc]
      rw [he2] at hs
      obtain ⟨st2, stc2, w2, h2, rfl, g1, g2, g3⟩ := qputf_ok (x := b) (y := pc + 3) (z := a) hs hE.1 hst hw hc rfl
      exact ⟨lvc, stc2, h2, Or.inr ⟨rfl, rfl, g3 pc idx n k rfl⟩, hl, g1, g2, rfl, rfl⟩
    · have he2 : qenc (pc, .putfield idx, n, a, b, k) = (99, 0, 0, 0, 0) := by simp only [qenc]; rw [if_neg hc]
      rw [he2] at hs
      exact (no (Or.inl rfl) hs).elim
  case iaload =>
    obtain ⟨st2, stc2, rfl, g1, g, -, -⟩ := qald_ok (t := 0) (y := pc + 1) hs hE hst hw
    exact ⟨lvc, stc2, h, Or.inr ⟨rfl, rfl, g rfl pc n a b k rfl⟩, hl, g1, hw, rfl, rfl⟩
  case laload =>
    obtain ⟨st2, stc2, rfl, g1, -, g, -⟩ := qald_ok (t := 1) (y := pc + 1) hs hE hst hw
    exact ⟨lvc, stc2, h, Or.inr ⟨rfl, rfl, g rfl pc n a b k rfl⟩, hl, g1, hw, rfl, rfl⟩
  case aaload =>
    obtain ⟨st2, stc2, rfl, g1, -, -, g⟩ := qald_ok (t := 3) (y := pc + 1) hs hE hst hw
    exact ⟨lvc, stc2, h, Or.inr ⟨rfl, rfl, g rfl pc n a b k rfl⟩, hl, g1, hw, rfl, rfl⟩
  case iastore =>
    obtain ⟨st2, stc2, w2, h2, rfl, g1, g2, g, -, -⟩ := qast_ok (t := 0) (y := pc + 1) hs hE.1 hst hw
    exact ⟨lvc, stc2, h2, Or.inr ⟨rfl, rfl, g rfl pc n a b k rfl⟩, hl, g1, g2, rfl, rfl⟩
  case lastore =>
    obtain ⟨st2, stc2, w2, h2, rfl, g1, g2, -, g, -⟩ := qast_ok (t := 1) (y := pc + 1) hs hE.1 hst hw
    exact ⟨lvc, stc2, h2, Or.inr ⟨rfl, rfl, g rfl pc n a b k rfl⟩, hl, g1, g2, rfl, rfl⟩
  case aastore =>
    obtain ⟨st2, stc2, w2, h2, rfl, g1, g2, -, -, g⟩ := qast_ok (t := 3) (y := pc + 1) hs hE.1 hst hw
    exact ⟨lvc, stc2, h2, Or.inr ⟨rfl, rfl, g rfl pc n a b k rfl⟩, hl, g1, g2, rfl, rfl⟩
  case arraylength =>
    obtain ⟨st2, stc2, rfl, g1, g2⟩ := qlen_ok (y := pc + 1) hs hE hst hw
    exact ⟨lvc, stc2, h, Or.inr ⟨rfl, rfl, g2 pc n a b k rfl⟩, hl, g1, hw, rfl, rfl⟩
  case new idx =>
    by_cases h5 : a = 995
    · have he2 : qenc (pc, .new idx, n, a, b, k) = (46, b, 0, 0, 0) := by simp only [qenc]; rw [if_pos h5]
      rw [he2] at hs
      exact (no (Or.inr ⟨by simp [qenc], by simp [qenc]⟩) hs).elim
    · cases hcl : mCl[a]? with
      | none =>
        have he2 : qenc (pc, .new idx, n, a, b, k) = (99, 0, 0, 0, 0) := by simp only [qenc]; rw [if_neg h5, hcl]
        rw [he2] at hs
        exact (no (Or.inl rfl) hs).elim
      | some cl =>
        by_cases hf : (List.range cl.2.2).all (fun j => decide (mfty a j ≠ .float)) = true
        · have he2 : qenc (pc, .new idx, n, a, b, k) = (32, cl.2.2, pc + 3, a, 0) := by simp only [qenc]; rw [if_neg h5, hcl]; dsimp only; rw [if_pos hf]
          rw [he2] at hs
          obtain ⟨st2, stc2, w2, h2, rfl, g1, g2, g3⟩ := qnew_ok (x := cl.2.2) (y := pc + 3) (z := a) hs hst hw hcl rfl hf
          exact ⟨lvc, stc2, h2, Or.inr ⟨rfl, rfl, g3 pc idx n b k rfl⟩, hl, g1, g2, rfl, decide_eq_false h5⟩
        · have he2 : qenc (pc, .new idx, n, a, b, k) = (99, 0, 0, 0, 0) := by simp only [qenc]; rw [if_neg h5, hcl]; dsimp only; rw [if_neg hf]
          rw [he2] at hs
          exact (no (Or.inl rfl) hs).elim
  case newarray ty =>
    by_cases hc : a ≤ 2 ∧ mTys[a]? = some (newarray.typeOf ty)
    · have he2 : qenc (pc, .newarray ty, n, a, b, k) = (33, 0, pc + 2, a, 0) := by simp only [qenc]; rw [if_pos hc]
      rw [he2] at hs
      obtain ⟨m, rc, st2, w2, rfl, k1, k2, rfl, g1, g2⟩ := qnewa_ok (y := pc + 2) (z := a) hs hst hw
      exact ⟨lvc, _, _, Or.inr ⟨rfl, rfl, by simp only [mheap]; rw [if_neg k1, if_pos ⟨k2, hc.1⟩, if_pos hc.2]⟩, hl, g1, g2, rfl, rfl⟩
    · have he2 : qenc (pc, .newarray ty, n, a, b, k) = (99, 0, 0, 0, 0) := by simp only [qenc]; rw [if_neg hc]
      rw [he2] at hs
      exact (no (Or.inl rfl) hs).elim
  case anewarray idx =>
    by_cases hc : a = 3 ∧ mTys[3]? = some (.object "java/lang/Object") ∧ Cond.arrayOver (.object "java/lang/Object") ∈ mXw
    · have he2 : qenc (pc, .anewarray idx, n, a, b, k) = (33, 0, pc + 3, 3, 0) := by simp only [qenc]; rw [if_pos hc]
      rw [he2] at hs
      obtain ⟨m, rc, st2, w2, rfl, k1, k2, rfl, g1, g2⟩ := qnewa_ok (y := pc + 3) (z := 3) hs hst hw
      obtain ⟨ha3, hc2, hc3⟩ := hc
      subst ha3
      exact ⟨lvc, _, _, Or.inr ⟨rfl, rfl, by simp only [mheap]; rw [if_neg k1, if_pos ⟨k2, trivial⟩, hc2]; dsimp only; rw [if_pos hc3]⟩, hl, g1, g2, rfl, rfl⟩
    · have he2 : qenc (pc, .anewarray idx, n, a, b, k) = (99, 0, 0, 0, 0) := by simp only [qenc]; rw [if_neg hc]
      rw [he2] at hs
      exact (no (Or.inl rfl) hs).elim
  case ldc idx =>
    by_cases h0 : n = 0
    · have he2 : qenc (pc, .ldc idx, n, a, b, k) = (1, qbias (Int32.ofNat a), pc + 2, 0, 0) := by simp only [qenc]; rw [if_pos h0]
      rw [he2] at hs
      have hs2 := qpush_ok (y := pc + 2) (v := (0, qbias (Int32.ofNat a), qbias (Int32.ofNat a))) hs
      subst hs2
      exact ⟨lvc, .int (Int32.ofNat a) :: stc, h, Or.inr ⟨rfl, rfl, by simp only [mheap]; rw [if_pos h0]⟩, hl, ⟨qbias_ok _, hst⟩, hw, rfl, rfl⟩
    · by_cases h1 : n = 1
      · cases hz : mMir[a]? with
        | none =>
          have he2 : qenc (pc, .ldc idx, n, a, b, k) = (99, 0, 0, 0, 0) := by simp only [qenc]; rw [if_neg h0, if_pos h1, hz]
          rw [he2] at hs
          exact (no (Or.inl rfl) hs).elim
        | some q =>
          have he2 : qenc (pc, .ldc idx, n, a, b, k) = (36, q.2, pc + 2, 0, 0) := by simp only [qenc]; rw [if_neg h0, if_pos h1, hz]
          rw [he2] at hs
          have hs2 := qpush_ok (y := pc + 2) (v := (1, q.2, 0)) hs
          subst hs2
          exact ⟨lvc, .ref q.2 :: stc, h, Or.inr ⟨rfl, rfl, by simp only [mheap]; rw [if_neg h0, if_pos h1, hz]⟩, hl, ⟨qR_mkR, hst⟩, hw, rfl, rfl⟩
      · have he2 : qenc (pc, .ldc idx, n, a, b, k) = (99, 0, 0, 0, 0) := by simp only [qenc]; rw [if_neg h0, if_neg h1]
        rw [he2] at hs
        exact (no (Or.inl rfl) hs).elim
  case ldc2_w idx =>
    by_cases hc : n = 0
    · have he2 : qenc (pc, .ldc2_w idx, n, a, b, k) = (2, a, pc + 3, 0, 0) := by simp only [qenc]; rw [if_pos hc]
      rw [he2] at hs
      have hs2 := qpush_ok (y := pc + 3) (v := (5, a, 0)) hs
      subst hs2
      exact ⟨lvc, .long (Int64.ofNat a) :: stc, h, Or.inr ⟨rfl, rfl, by simp only [mheap]; rw [if_pos hc]⟩, hl, ⟨qR_mkL, hst⟩, hw, rfl, rfl⟩
    · have he2 : qenc (pc, .ldc2_w idx, n, a, b, k) = (99, 0, 0, 0, 0) := by simp only [qenc]; rw [if_neg hc]
      rw [he2] at hs
      exact (no (Or.inl rfl) hs).elim
  case getstatic idx =>
    by_cases h0 : n = 0
    · cases hz : mStat[a]? with
      | none =>
        have he2 : qenc (pc, .getstatic idx, n, a, b, k) = (99, 0, 0, 0, 0) := by simp only [qenc]; rw [if_pos h0, hz]
        rw [he2] at hs
        exact (no (Or.inl rfl) hs).elim
      | some q =>
        obtain ⟨q1, q2, q3, q4⟩ := q
        cases q4
        case int i9 =>
          have he2 : qenc (pc, .getstatic idx, n, a, b, k) = (1, qbias i9, pc + 3, 0, 0) := by simp only [qenc]; rw [if_pos h0, hz]
          rw [he2] at hs
          have hs2 := qpush_ok (y := pc + 3) (v := (0, qbias i9, qbias i9)) hs
          subst hs2
          exact ⟨lvc, .int i9 :: stc, h, Or.inr ⟨rfl, rfl, by simp only [mheap]; rw [hz]; dsimp only; rw [if_pos h0]⟩, hl, ⟨qbias_ok _, hst⟩, hw, rfl, rfl⟩
        case ref i9 =>
          have he2 : qenc (pc, .getstatic idx, n, a, b, k) = (36, i9, pc + 3, 0, 0) := by simp only [qenc]; rw [if_pos h0, hz]
          rw [he2] at hs
          have hs2 := qpush_ok (y := pc + 3) (v := (1, i9, 0)) hs
          subst hs2
          exact ⟨lvc, .ref i9 :: stc, h, Or.inr ⟨rfl, rfl, by simp only [mheap]; rw [hz]; dsimp only; rw [if_pos h0]⟩, hl, ⟨qR_mkR, hst⟩, hw, rfl, rfl⟩
        all_goals
          have he2 : qenc (pc, .getstatic idx, n, a, b, k) = (99, 0, 0, 0, 0) := by simp only [qenc]; rw [if_pos h0, hz]
          rw [he2] at hs
          exact (no (Or.inl rfl) hs).elim
    · have he2 : qenc (pc, .getstatic idx, n, a, b, k) = (99, 0, 0, 0, 0) := by simp only [qenc]; rw [if_neg h0]
      rw [he2] at hs
      exact (no (Or.inl rfl) hs).elim
  case invokevirtual idx =>
    by_cases h5 : a = 994
    · cases hz : mMir[0]? with
      | none =>
        have he2 : qenc (pc, .invokevirtual idx, n, a, b, k) = (99, 0, 0, 0, 0) := by simp only [qenc]; rw [if_pos h5, hz]
        rw [he2] at hs
        exact (no (Or.inl rfl) hs).elim
      | some q =>
        by_cases hc : q.1 = "[Ljava/lang/Object;" ∧ mTys[3]? = some (.object "java/lang/Object")
        · have he2 : qenc (pc, .invokevirtual idx, n, a, b, k) = (38, q.2, pc + 3, 0, 0) := by simp only [qenc]; rw [if_pos h5, hz]; dsimp only; rw [if_pos hc]
          rw [he2] at hs
          obtain ⟨st2, stc2, rfl, g1, g2⟩ := qgetc_ok (x := q.2) (y := pc + 3) hs hE.1 hst hw hz hc rfl
          subst h5
          exact ⟨lvc, stc2, h, Or.inr ⟨rfl, rfl, g2 pc idx n b k rfl⟩, hl, g1, hw, rfl, rfl⟩
        · have he2 : qenc (pc, .invokevirtual idx, n, a, b, k) = (99, 0, 0, 0, 0) := by simp only [qenc]; rw [if_pos h5, hz]; dsimp only; rw [if_neg hc]
          rw [he2] at hs
          exact (no (Or.inl rfl) hs).elim
    · have he2 : qenc (pc, .invokevirtual idx, n, a, b, k) = (40, a, pc + 3, 0, 2) := by simp only [qenc]; rw [if_neg h5]
      rw [he2] at hs
      exact (no (Or.inr ⟨by simp [qenc], by simp [qenc]⟩) hs).elim
  case invokespecial idx =>
    by_cases h5 : a = 998
    · have he2 : qenc (pc, .invokespecial idx, n, a, b, k) = (41, 0, pc + 3, 0, 0) := by simp only [qenc]; rw [if_pos h5]
      rw [he2] at hs
      exact (no (Or.inr ⟨by simp [qenc], by simp [qenc]⟩) hs).elim
    · have he2 : qenc (pc, .invokespecial idx, n, a, b, k) = (40, a, pc + 3, 0, 1) := by simp only [qenc]; rw [if_neg h5]
      rw [he2] at hs
      exact (no (Or.inr ⟨by simp [qenc], by simp [qenc]⟩) hs).elim
  case invokestatic idx =>
    by_cases h5 : a = 993
    · by_cases hc : mTys[3]? = some (.object "java/lang/Object") ∧ mcast 0 "java/lang/Object" = true
      · have he2 : qenc (pc, .invokestatic idx, n, a, b, k) = (37, 0, pc + 3, 0, 0) := by simp only [qenc]; rw [if_pos h5, if_pos hc]
        rw [he2] at hs
        obtain ⟨st2, stc2, w2, h2, rfl, g1, g2, g3⟩ := qcopy_ok (y := pc + 3) hs hE.1 hst hw hc.1 hc.2
        subst h5
        exact ⟨lvc, stc2, h2, Or.inr ⟨rfl, rfl, g3 pc idx n b k rfl⟩, hl, g1, g2, rfl, rfl⟩
      · have he2 : qenc (pc, .invokestatic idx, n, a, b, k) = (99, 0, 0, 0, 0) := by simp only [qenc]; rw [if_pos h5, if_neg hc]
        rw [he2] at hs
        exact (no (Or.inl rfl) hs).elim
    · by_cases h6 : a = 997
      · have he2 : qenc (pc, .invokestatic idx, n, a, b, k) = (42, 0, pc + 3, 0, 0) := by simp only [qenc]; rw [if_neg h5, if_pos h6]
        rw [he2] at hs
        exact (no (Or.inr ⟨by simp [qenc], by simp [qenc]⟩) hs).elim
      · by_cases h7 : a = 996
        · have he2 : qenc (pc, .invokestatic idx, n, a, b, k) = (43, 0, pc + 3, 0, 0) := by simp only [qenc]; rw [if_neg h5, if_neg h6, if_pos h7]
          rw [he2] at hs
          exact (no (Or.inr ⟨by simp [qenc], by simp [qenc]⟩) hs).elim
        · have he2 : qenc (pc, .invokestatic idx, n, a, b, k) = (40, a, pc + 3, 0, 0) := by simp only [qenc]; rw [if_neg h5, if_neg h6, if_neg h7]
          rw [he2] at hs
          exact (no (Or.inr ⟨by simp [qenc], by simp [qenc]⟩) hs).elim
  case ireturn =>
    exact (no (Or.inr ⟨by simp [qenc], by simp [qenc]⟩) hs).elim
  case areturn =>
    exact (no (Or.inr ⟨by simp [qenc], by simp [qenc]⟩) hs).elim
  case lreturn =>
    exact (no (Or.inr ⟨by simp [qenc], by simp [qenc]⟩) hs).elim
  case dreturn =>
    exact (no (Or.inr ⟨by simp [qenc], by simp [qenc]⟩) hs).elim
  case return_ =>
    exact (no (Or.inr ⟨by simp [qenc], by simp [qenc]⟩) hs).elim
  all_goals exact (no (Or.inl rfl) hs).elim
theorem qstep_ok {E : mE} {X nL : Nat} {bx : qX} (hE : qEok E X bx) {e : mIns} {op x y z u : Nat} (he : qenc e = (op, x, y, z, u)) {lv : qL} {st : List qV} {w : qW} {T : qT} (hs : qstep X bx nL op x y z u e lv st w = some T) {lvc : mLv} {stc : List Value} {h : mH} (hl : qLr E lv lvc) (hst : qS E st stc) (hw : qWr E w h) : qConc E nL e lvc stc h T := qstep_ok0 hE (by rw [he]; exact hs) hl hst hw
