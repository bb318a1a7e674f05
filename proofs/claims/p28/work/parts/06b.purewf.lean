/-! ===== a pure instruction keeps what is not beyond the list's end ===== -/
theorem mlv_wf {n : Nat} {lv : mLv} (h : wfLv n lv) {i : Nat} {v : Value} (hm : mlv lv i = some v) : wfV n v := h (i, v) (mlv_mem hm)
theorem set1_wf {n : Nat} {lv : mLv} (h : wfLv n lv) {i : Nat} {v : Value} (hv : wfV n v) : wfLv n (mset1 lv i v) := by
  intro q hq
  rcases List.mem_cons.mp hq with e1 | e1
  · rw [e1]; exact hv
  · exact h q (List.mem_filter.mp e1).1
theorem set2_wf {n : Nat} {lv : mLv} (h : wfLv n lv) {i : Nat} {v : Value} (hv : wfV n v) : wfLv n (mset2 lv i v) := by
  intro q hq
  rcases List.mem_cons.mp hq with e1 | e1
  · rw [e1]; exact hv
  · exact h q (List.mem_filter.mp e1).1
theorem wfL.c {n : Nat} {st : List Value} {v : Value} (hv : wfV n v) (h : wfL n st) : wfL n (v :: st) := by
  intro q hq
  rcases List.mem_cons.mp hq with e1 | e1
  · rw [e1]; exact hv
  · exact h q e1
theorem wfL.t {n : Nat} {st : List Value} {v : Value} (h : wfL n (v :: st)) : wfL n st := fun q hq => h q (List.mem_cons_of_mem _ hq)
theorem wfL.h {n : Nat} {st : List Value} {v : Value} (h : wfL n (v :: st)) : wfV n v := h v List.mem_cons_self
set_option maxHeartbeats 4000000 in
theorem pure_wf {n nL : Nat} {i : mIns} {lv lv' : mLv} {st st' : List Value} {pc' : Nat} (hp : mpure nL i lv st = some (pc', lv', st')) (h1 : wfLv n lv) (h2 : wfL n st) : wfLv n lv' ∧ wfL n st' := by
  obtain ⟨pc, i, n9, a, b, d⟩ := i
  cases i
  case iconst n => simp only [mpure] at hp; cases hp; exact ⟨h1, h2.c trivial⟩
  case bipush n => simp only [mpure] at hp; cases hp; exact ⟨h1, h2.c trivial⟩
  case sipush n => simp only [mpure] at hp; cases hp; exact ⟨h1, h2.c trivial⟩
  case lconst n => simp only [mpure] at hp; cases hp; exact ⟨h1, h2.c trivial⟩
  case dconst n =>
    simp only [mpure] at hp; split at hp
    · cases hp; exact ⟨h1, h2.c trivial⟩
    · cases hp
  case iload_n k =>
    simp only [mpure] at hp; split at hp
    · rename_i h0; cases hp; exact ⟨h1, h2.c (mlv_wf h1 h0)⟩
    · cases hp
  case iload k =>
    simp only [mpure] at hp; split at hp
    · rename_i h0; cases hp; exact ⟨h1, h2.c (mlv_wf h1 h0)⟩
    · cases hp
  case istore_n k =>
    simp only [mpure] at hp; split at hp
    · split at hp
      · cases hp; exact ⟨set1_wf h1 h2.h, h2.t⟩
      · cases hp
    · cases hp
  case istore k =>
    simp only [mpure] at hp; split at hp
    · split at hp
      · cases hp; exact ⟨set1_wf h1 h2.h, h2.t⟩
      · cases hp
    · cases hp
  case lload_n k =>
    simp only [mpure] at hp; split at hp
    · rename_i h0; cases hp; exact ⟨h1, h2.c (mlv_wf h1 h0)⟩
    · cases hp
  case lload k =>
    simp only [mpure] at hp; split at hp
    · rename_i h0; cases hp; exact ⟨h1, h2.c (mlv_wf h1 h0)⟩
    · cases hp
  case lstore_n k =>
    simp only [mpure] at hp; split at hp
    · split at hp
      · cases hp; exact ⟨set2_wf h1 h2.h, h2.t⟩
      · cases hp
    · cases hp
  case lstore k =>
    simp only [mpure] at hp; split at hp
    · split at hp
      · cases hp; exact ⟨set2_wf h1 h2.h, h2.t⟩
      · cases hp
    · cases hp
  case aload_n k =>
    simp only [mpure] at hp; split at hp
    · rename_i h0; cases hp; exact ⟨h1, h2.c (mlv_wf h1 h0)⟩
    · cases hp
  case aload k =>
    simp only [mpure] at hp; split at hp
    · rename_i h0; cases hp; exact ⟨h1, h2.c (mlv_wf h1 h0)⟩
    · cases hp
  case astore_n k =>
    simp only [mpure] at hp; split at hp
    · split at hp
      · cases hp; exact ⟨set1_wf h1 h2.h, h2.t⟩
      · cases hp
    · cases hp
  case astore k =>
    simp only [mpure] at hp; split at hp
    · split at hp
      · cases hp; exact ⟨set1_wf h1 h2.h, h2.t⟩
      · cases hp
    · cases hp
  case dload_n k =>
    simp only [mpure] at hp; split at hp
    · rename_i h0; cases hp; exact ⟨h1, h2.c (mlv_wf h1 h0)⟩
    · cases hp
  case dload k =>
    simp only [mpure] at hp; split at hp
    · rename_i h0; cases hp; exact ⟨h1, h2.c (mlv_wf h1 h0)⟩
    · cases hp
  case dstore_n k =>
    simp only [mpure] at hp; split at hp
    · split at hp
      · cases hp; exact ⟨set2_wf h1 h2.h, h2.t⟩
      · cases hp
    · cases hp
  case dstore k =>
    simp only [mpure] at hp; split at hp
    · split at hp
      · cases hp; exact ⟨set2_wf h1 h2.h, h2.t⟩
      · cases hp
    · cases hp
  case iinc k n =>
    simp only [mpure] at hp; split at hp
    · split at hp
      · cases hp; exact ⟨set1_wf h1 trivial, h2⟩
      · cases hp
    · cases hp
  case iadd =>
    simp only [mpure] at hp; split at hp
    · cases hp; exact ⟨h1, h2.t.t.c trivial⟩
    · cases hp
  case isub =>
    simp only [mpure] at hp; split at hp
    · cases hp; exact ⟨h1, h2.t.t.c trivial⟩
    · cases hp
  case imul =>
    simp only [mpure] at hp; split at hp
    · cases hp; exact ⟨h1, h2.t.t.c trivial⟩
    · cases hp
  case iand =>
    simp only [mpure] at hp; split at hp
    · cases hp; exact ⟨h1, h2.t.t.c trivial⟩
    · cases hp
  case ladd =>
    simp only [mpure] at hp; split at hp
    · cases hp; exact ⟨h1, h2.t.t.c trivial⟩
    · cases hp
  case lmul =>
    simp only [mpure] at hp; split at hp
    · cases hp; exact ⟨h1, h2.t.t.c trivial⟩
    · cases hp
  case ishr =>
    simp only [mpure] at hp; split at hp
    · cases hp; exact ⟨h1, h2.t.t.c trivial⟩
    · cases hp
  case dcmp op =>
    simp only [mpure] at hp; split at hp
    · cases hp; exact ⟨h1, h2.t.t.c trivial⟩
    · cases hp
  case lcmp =>
    simp only [mpure] at hp; split at hp
    · cases hp; exact ⟨h1, h2.t.t.c trivial⟩
    · cases hp
  case ineg =>
    simp only [mpure] at hp; split at hp
    · cases hp; exact ⟨h1, h2.t.c trivial⟩
    · cases hp
  case i2d =>
    simp only [mpure] at hp; split at hp
    · cases hp; exact ⟨h1, h2.t.c trivial⟩
    · cases hp
  case l2d =>
    simp only [mpure] at hp; split at hp
    · cases hp; exact ⟨h1, h2.t.c trivial⟩
    · cases hp
  case i2l =>
    simp only [mpure] at hp; split at hp
    · cases hp; exact ⟨h1, h2.t.c trivial⟩
    · cases hp
  case idiv =>
    simp only [mpure] at hp; split at hp
    · split at hp
      · cases hp
      · cases hp; exact ⟨h1, h2.t.t.c trivial⟩
    · cases hp
  case irem =>
    simp only [mpure] at hp; split at hp
    · split at hp
      · cases hp
      · cases hp; exact ⟨h1, h2.t.t.c trivial⟩
    · cases hp
  case ddiv =>
    simp only [mpure] at hp; split at hp
    · split at hp
      · cases hp; exact ⟨h1, h2.t.t.c trivial⟩
      · cases hp
    · cases hp
  case dup =>
    simp only [mpure] at hp; split at hp
    · split at hp
      · cases hp; exact ⟨h1, h2.c h2.h⟩
      · cases hp
    · cases hp
  case pop =>
    simp only [mpure] at hp; split at hp
    · split at hp
      · cases hp; exact ⟨h1, h2.t⟩
      · cases hp
    · cases hp
  case aconst_null => simp only [mpure] at hp; cases hp; exact ⟨h1, h2.c trivial⟩
  case dup_x1 =>
    simp only [mpure] at hp; split at hp
    · split at hp
      · cases hp; exact ⟨h1, ((h2.t.t.c h2.h).c h2.t.h).c h2.h⟩
      · cases hp
    · cases hp
  case dup2 =>
    simp only [mpure] at hp; split at hp
    · split at hp
      · cases hp; exact ⟨h1, (h2.c h2.t.h).c h2.h⟩
      · cases hp
    · cases hp
  case if_acmp cd off => cases cd <;> (simp only [mpure] at hp; split at hp; (· split at hp; (· cases hp; exact ⟨h1, h2.t.t⟩); (· cases hp)); (· cases hp))
  case goto off =>
    simp only [mpure] at hp; split at hp
    · cases hp; exact ⟨h1, h2⟩
    · cases hp
  case ifCond cd off => cases cd <;> (simp only [mpure] at hp; split at hp; (· split at hp; (· cases hp; exact ⟨h1, h2.t⟩); (· cases hp)); (· cases hp))
  case if_icmp cd off => cases cd <;> (simp only [mpure] at hp; split at hp; (· split at hp; (· cases hp; exact ⟨h1, h2.t.t⟩); (· cases hp)); (· cases hp))
  case tableswitch dflt lo hi offs =>
    simp only [mpure] at hp; split at hp
    · split at hp
      · split at hp
        · cases hp; exact ⟨h1, h2.t⟩
        · cases hp
      · split at hp
        · split at hp
          · cases hp; exact ⟨h1, h2.t⟩
          · cases hp
        · cases hp
    · cases hp
  case lookupswitch dflt ps =>
    simp only [mpure] at hp; split at hp
    · split at hp
      · split at hp
        · cases hp; exact ⟨h1, h2.t⟩
        · cases hp
      · cases hp
    · cases hp
  all_goals (simp only [mpure] at hp; cases hp)
