/-! ===== what the Statement gives at the law's entry, as the small machine wants it ===== -/
def nF : List Cond := flatC (Jvm.Cond.and given_1 narrow_1)
def nDays : Term := Term.static "Tallow$Kinds" "DAYS_AHEAD" "[I"
set_option maxRecDepth 100000 in
theorem nF_has : (([.arrayOf nDays .int, .eq (.length nDays) (.int 13), .eq (.elem nDays (.int 0)) (.int 0), .eq (.elem nDays (.int 1)) (.int 31), .eq (.elem nDays (.int 2)) (.int 59), .eq (.elem nDays (.int 3)) (.int 90), .eq (.elem nDays (.int 4)) (.int 120), .eq (.elem nDays (.int 5)) (.int 151), .eq (.elem nDays (.int 6)) (.int 181), .eq (.elem nDays (.int 7)) (.int 212), .eq (.elem nDays (.int 8)) (.int 243), .eq (.elem nDays (.int 9)) (.int 273), .eq (.elem nDays (.int 10)) (.int 304), .eq (.elem nDays (.int 11)) (.int 334), .eq (.elem nDays (.int 12)) (.int 365), .isRef (.static "java/lang/Throwable" "UNASSIGNED_STACK" "[Ljava/lang/StackTraceElement;"), .isRef (.static "java/lang/Throwable" "SUPPRESSED_SENTINEL" "Ljava/util/List;")] : List Cond)).all (fun w => decide (w ∈ nF)) = true := by decide +kernel
set_option maxRecDepth 100000 in
theorem nXw_ok : mXw.all (fun w => decide (w ∈ lw_tbl)) = true := by decide +kernel
def nIfk (z : String × MethodName × MethodName) : Bool := decide (Cond.declares z.2.1 ∈ lw_tbl) && (decide (Cond.interfaceMethod z.2.1.cls z.2.1.cls z.2.1.name z.2.1.desc ∈ lw_tbl) && (decide (Cond.publicMethod z.2.2 ∈ lw_tbl) && (decide (Cond.unhidden z.1 z.2.1.name z.2.1.desc ∈ lw_tbl) && decide (Cond.castable z.1 z.2.1.cls ∈ lw_tbl))))
set_option maxRecDepth 100000 in
theorem nIfs_ok : mIfs.all nIfk = true := by decide +kernel
set_option maxRecDepth 100000 in
theorem nStat_ok : mStat.all (fun z => decide (Cond.laysStatic z.1 z.2.1 z.2.2.1 ∈ lw_tbl) && decide (Cond.initialized z.1 ∈ lw_tbl)) = true := by decide +kernel
theorem mXk_tab {w : Cond} (h : mXk w = true) {A : Array Value} {U : State} (hb : w.before A U = true) : va_Nw w U := by
  unfold mXk at h
  split at h
  · exact va_Nw.of rfl hb
  · exact va_Nw.of rfl hb
  · exact va_Nw.of rfl hb
  · exact va_Nw.of rfl hb
  · exact hb
  · cases h
section NP
variable {s : State} {args : Array Value}
theorem law_K (hts : ∀ w ∈ lw_tbl, w.before args s = true) : ∃ (D : va_G) (cy : Nat → ClassId), va_K D mCl (mT cy) s := by
  have hts2 : ∀ w ∈ mTBL, w.before args s = true := fun w hw => hts w (List.mem_filter.mp hw).1
  have h1 : ∀ c : Nat, ∃ z : ClassId × (Nat → Nat), ∀ q, mCl[c]? = some q → u_Kn s q.1 q.2.1 q.2.2 z.1 z.2 := by
    intro c
    cases hc : mCl[c]? with
    | none => exact ⟨((0 : Nat), fun _ => 0), fun q hq => by cases hq⟩
    | some q =>
      obtain ⟨a1, a2, a3, a4, a5⟩ := mCl_ok hc
      obtain ⟨cC, iS, h⟩ := u_known hts2 a1 (hts2 _ a4)
      exact ⟨(cC, iS), fun q' hq => by cases hq; exact h⟩
  obtain ⟨f, hf⟩ := Classical.axiomOfChoice h1
  have h2 : ∀ k : Nat, ∃ z : ClassId, ∀ ty, mTys[k]? = some ty → ArrOfT s z ty ∧ va_RA s z ty := by
    intro k
    cases hk : mTys[k]? with
    | none => exact ⟨(0 : Nat), fun q hq => by cases hq⟩
    | some ty =>
      match k, hk with
      | 0, hk =>
        cases hk
        obtain ⟨c, k9, comp, b1, b2, b3⟩ := Cond.arrayClass_spec (hts2 _ (mTys_ok 0 .int (by decide) rfl))
        refine ⟨c, fun ty' hy => ?_⟩
        cases hy
        exact ⟨fun n z => ⟨fun k h => (by cases h), k9, b2, comp, b3⟩, b1⟩
      | k + 1, hk => exact absurd hk (by simp [mTys])
  obtain ⟨g, hg⟩ := Classical.axiomOfChoice h2
  refine ⟨(fun c => (f c).1, fun c => (f c).2), g, fun c q hq => hf c q hq, fun k q hq => ?_⟩
  unfold mT at hq
  rw [List.getElem?_mapIdx] at hq
  obtain ⟨ty, h3, h4⟩ := Option.map_eq_some_iff.mp hq
  subst h4
  exact hg k ty h3
theorem law_N (hts : ∀ w ∈ lw_tbl, w.before args s = true) : mNs s := by
  refine ⟨fun w hw => ?_, fun z hz => ?_⟩
  · exact mXk_tab (List.all_eq_true.mp mXw_is w hw) (hts w (of_decide_eq_true (List.all_eq_true.mp nXw_ok w hw)))
  · have h1 := List.all_eq_true.mp nIfs_ok z hz
    simp only [nIfk, Bool.and_eq_true, decide_eq_true_eq] at h1
    obtain ⟨a1, a2, a3, a4, a5⟩ := h1
    exact va_Fw.of (hts _ a1) (hts _ a2) (hts _ a3) (hts _ a4) (hts _ a5)
theorem nF_in (hn : ∀ c ∈ nF, c.before args s = true) {w : Cond} (hw : w ∈ ([.arrayOf nDays .int, .eq (.length nDays) (.int 13), .eq (.elem nDays (.int 0)) (.int 0), .eq (.elem nDays (.int 1)) (.int 31), .eq (.elem nDays (.int 2)) (.int 59), .eq (.elem nDays (.int 3)) (.int 90), .eq (.elem nDays (.int 4)) (.int 120), .eq (.elem nDays (.int 5)) (.int 151), .eq (.elem nDays (.int 6)) (.int 181), .eq (.elem nDays (.int 7)) (.int 212), .eq (.elem nDays (.int 8)) (.int 243), .eq (.elem nDays (.int 9)) (.int 273), .eq (.elem nDays (.int 10)) (.int 304), .eq (.elem nDays (.int 11)) (.int 334), .eq (.elem nDays (.int 12)) (.int 365), .isRef (.static "java/lang/Throwable" "UNASSIGNED_STACK" "[Ljava/lang/StackTraceElement;"), .isRef (.static "java/lang/Throwable" "SUPPRESSED_SENTINEL" "Ljava/util/List;")] : List Cond)) : w.before args s = true := hn w (of_decide_eq_true (List.all_eq_true.mp nF_has w hw))
theorem law_E (hts : ∀ w ∈ lw_tbl, w.before args s = true) (hn : ∀ c ∈ nF, c.before args s = true) {b L : Nat} {xs : Nat → Int32} (hX : va_X b L xs s s.heap) (hb : b < s.heap.size) (D : va_G) : ∃ ad : Nat → Nat, mEx D (qE L xs) ad (fun q => s.heap.size ≤ q) s s.heap ∧ ad 0 = b := by
  have hA : ∀ a : Nat, a < s.heap.size → ¬ s.heap.size ≤ a := fun a h1 h2 => by omega
  have hel : ∀ j : Nat, j < 13 → (Term.elem nDays (.int (Int32.ofNat j))).eval args s none [] s = some (.int (dk j)) := by
    intro j hj
    match j, hj with
    | 0, _ => exact va_eqt (z := 0) (nF_in hn (w := .eq (.elem nDays (.int 0)) (.int 0)) (by simp))
    | 1, _ => exact va_eqt (z := 31) (nF_in hn (w := .eq (.elem nDays (.int 1)) (.int 31)) (by simp))
    | 2, _ => exact va_eqt (z := 59) (nF_in hn (w := .eq (.elem nDays (.int 2)) (.int 59)) (by simp))
    | 3, _ => exact va_eqt (z := 90) (nF_in hn (w := .eq (.elem nDays (.int 3)) (.int 90)) (by simp))
    | 4, _ => exact va_eqt (z := 120) (nF_in hn (w := .eq (.elem nDays (.int 4)) (.int 120)) (by simp))
    | 5, _ => exact va_eqt (z := 151) (nF_in hn (w := .eq (.elem nDays (.int 5)) (.int 151)) (by simp))
    | 6, _ => exact va_eqt (z := 181) (nF_in hn (w := .eq (.elem nDays (.int 6)) (.int 181)) (by simp))
    | 7, _ => exact va_eqt (z := 212) (nF_in hn (w := .eq (.elem nDays (.int 7)) (.int 212)) (by simp))
    | 8, _ => exact va_eqt (z := 243) (nF_in hn (w := .eq (.elem nDays (.int 8)) (.int 243)) (by simp))
    | 9, _ => exact va_eqt (z := 273) (nF_in hn (w := .eq (.elem nDays (.int 9)) (.int 273)) (by simp))
    | 10, _ => exact va_eqt (z := 304) (nF_in hn (w := .eq (.elem nDays (.int 10)) (.int 304)) (by simp))
    | 11, _ => exact va_eqt (z := 334) (nF_in hn (w := .eq (.elem nDays (.int 11)) (.int 334)) (by simp))
    | 12, _ => exact va_eqt (z := 365) (nF_in hn (w := .eq (.elem nDays (.int 12)) (.int 365)) (by simp))
    | k + 13, hj => exact absurd hj (by omega)
  obtain ⟨td, htd, hTd⟩ := va_Tof (tm := nDays) (N := 13) (f := fun j => .int (dk j)) (by decide) (nF_in hn (w := .arrayOf nDays .int) (by simp)) (va_eqt (z := 13) (nF_in hn (w := .eq (.length nDays) (.int 13)) (by simp))) hel hA
  have hst : ∀ z ∈ mStat, ∀ v : Value, (Term.static z.1 z.2.1 z.2.2.1).eval args s none [] s = some v → va_Z z.1 z.2.1 z.2.2.1 v (fun q => s.heap.size ≤ q) s s.heap := by
    intro z hz v hv
    have h1 := List.all_eq_true.mp nStat_ok z hz
    simp only [Bool.and_eq_true, decide_eq_true_eq] at h1
    exact va_Zof (hts _ h1.1) (hts _ h1.2) hv hA
  refine ⟨fun i => match i with
    | 0 => b
    | _ => td, ⟨fun q o ho => ?_, fun z hz => ?_, fun z hz => ?_⟩, rfl⟩
  · match q, ho with
    | 0, ho =>
      cases ho
      intro ty hty
      cases hty
      obtain ⟨scr, h1, h2, h3, h4, h5⟩ := hX
      exact ⟨scr, h1, h2, h3, Nat.le_of_eq h4.symm, by rw [h4], fun j hj => h5 j hj, hA b hb⟩
    | 1, ho =>
      cases ho
      intro ty hty
      cases hty
      exact hTd
    | k + 2, ho => cases ho
  · have h4 : z = ("Tallow$Kinds", "DAYS_AHEAD", "[I", .ref 1) := by simpa [mStat] using hz
    subst h4
    exact hst _ hz _ htd
  · cases hz
theorem qE_w (L : Nat) (xs : Nat → Int32) : mEw (qE L xs) := by
  refine ⟨fun o ho => ?_, fun z hz => ?_, fun z hz => ?_⟩
  · unfold qE at ho
    simp only [List.mem_cons, List.not_mem_nil, or_false] at ho
    rcases ho with rfl | rfl
    · trivial
    · trivial
  · have h4 : z = ("Tallow$Kinds", "DAYS_AHEAD", "[I", .ref 1) := by simpa [mStat] using hz
    subst h4
    show (1 : Nat) < 2
    decide
  · cases hz
end NP
