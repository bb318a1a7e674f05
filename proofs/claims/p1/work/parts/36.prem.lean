/-! ===== what the Statement gives at the law's entry, as the small machine wants it ===== -/
def nF : List Cond := flatC (Jvm.Cond.and given_1 narrow_1)
def nCache : Term := Term.static "java/lang/Integer$IntegerCache" "cache" "[Ljava/lang/Integer;"
def nEmpty : Term := Term.static "java/util/ArrayList" "DEFAULTCAPACITY_EMPTY_ELEMENTDATA" "[Ljava/lang/Object;"
def nDays : Term := Term.static "Tallow$Kinds" "DAYS_AHEAD" "[I"
set_option maxRecDepth 100000 in
theorem nF_has : (([.arrayOf nCache (.object "java/lang/Integer"), .eq (.length nCache) (.int 256), .all nCache (.and (.exactly (.elem nCache (.index 0)) "java/lang/Integer") (.eq (.field (.elem nCache (.index 0)) "java/lang/Integer" "value" "I") (.sub (.index 0) (.int 128)))), .arrayOf nEmpty (.object "java/lang/Object"), .eq (.length nEmpty) (.int 0), .eq (.length nDays) (.int 13), .eq (.static "java/lang/Integer$IntegerCache" "high" "I") (.int 127), .isRef (.mirror "[Ljava/lang/Object;"), .isRef (.static "java/lang/Throwable" "UNASSIGNED_STACK" "[Ljava/lang/StackTraceElement;"), .isRef (.static "java/lang/Throwable" "SUPPRESSED_SENTINEL" "Ljava/util/List;")] : List Cond)).all (fun w => decide (w ∈ nF)) = true := by decide +kernel
def nThk (t : Nat × Nat × String) : Bool := match mXcls[t.1]? with
  | some r => decide (Cond.stringRef r.1 t.2.1 t.2.2 ∈ lw_tbl) && decide (Cond.exactly (Term.string r.1 t.2.1) "java/lang/String" ∈ nF)
  | none => true
set_option maxRecDepth 100000 in
theorem nThr_ok : mThr.all nThk = true := by decide +kernel
set_option maxRecDepth 100000 in
theorem nNc_ok : mNc.all (fun q => decide (Cond.not (.castable q.1 q.2) ∈ nF)) = true := by decide +kernel
set_option maxRecDepth 100000 in
theorem nXb_ok : mXcls.all (fun r => (mXb r).all (fun w => decide (w ∈ lw_tbl))) = true := by decide +kernel
set_option maxRecDepth 100000 in
theorem nXw_ok : mXw.all (fun w => decide (w ∈ lw_tbl)) = true := by decide +kernel
def nIfk (z : String × MethodName × MethodName) : Bool := decide (Cond.declares z.2.1 ∈ lw_tbl) && (decide (Cond.interfaceMethod z.2.1.cls z.2.1.cls z.2.1.name z.2.1.desc ∈ lw_tbl) && (decide (Cond.publicMethod z.2.2 ∈ lw_tbl) && (decide (Cond.unhidden z.1 z.2.1.name z.2.1.desc ∈ lw_tbl) && decide (Cond.castable z.1 z.2.1.cls ∈ lw_tbl))))
set_option maxRecDepth 100000 in
theorem nIfs_ok : mIfs.all nIfk = true := by decide +kernel
set_option maxRecDepth 100000 in
theorem nStat_ok : mStat.all (fun z => decide (Cond.laysStatic z.1 z.2.1 z.2.2.1 ∈ lw_tbl) && decide (Cond.initialized z.1 ∈ lw_tbl)) = true := by decide +kernel
set_option maxRecDepth 100000 in
theorem nThrow_ok : ([.laysStatic Bundle.tN "UNASSIGNED_STACK" Bundle.steD, .laysStatic Bundle.tN "SUPPRESSED_SENTINEL" Bundle.listD, .initialized Bundle.tN] : List Cond).all (fun w => decide (w ∈ lw_tbl)) = true := by decide +kernel
set_option maxRecDepth 100000 in
theorem nOver_ok : Cond.arrayOver (.object "java/lang/Object") ∈ lw_tbl := by decide +kernel
theorem mXk_tab {w : Cond} (h : mXk w = true) {A : Array Value} {U : State} (hb : w.before A U = true) : va_Nw w U := by
  unfold mXk at h
  split at h
  · exact va_Nw.of rfl hb
  · exact va_Nw.of rfl hb
  · exact va_Nw.of rfl hb
  · exact va_Nw.of rfl hb
  · exact hb
  · cases h
section NP
variable {s : State} {args : Array Value}
theorem law_K (hts : ∀ w ∈ lw_tbl, w.before args s = true) : ∃ (D : va_G) (cy : Nat → ClassId), va_K D mCl (mT cy) s := by
  have hts2 : ∀ w ∈ mTBL, w.before args s = true := fun w hw => hts w (List.mem_filter.mp hw).1
  have h1 : ∀ c : Nat, ∃ z : ClassId × (Nat → Nat), ∀ q, mCl[c]? = some q → u_Kn s q.1 q.2.1 q.2.2 z.1 z.2 := by
    intro c
    cases hc : mCl[c]? with
    | none => exact ⟨((0 : Nat), fun _ => 0), fun q hq => by cases hq⟩
    | some q =>
      obtain ⟨a1, a2, a3, a4, a5⟩ := mCl_ok hc
      obtain ⟨cC, iS, h⟩ := u_known hts2 a1 (hts2 _ a4)
      exact ⟨(cC, iS), fun q' hq => by cases hq; exact h⟩
  obtain ⟨f, hf⟩ := Classical.axiomOfChoice h1
  have h2 : ∀ k : Nat, ∃ z : ClassId, ∀ ty, mTys[k]? = some ty → ArrOfT s z ty ∧ va_RA s z ty := by
    intro k
    cases hk : mTys[k]? with
    | none => exact ⟨(0 : Nat), fun q hq => by cases hq⟩
    | some ty =>
      by_cases h3 : k ≤ 2
      · obtain ⟨c, k9, comp, b1, b2, b3⟩ := Cond.arrayClass_spec (hts2 _ (mTys_ok k ty h3 hk))
        refine ⟨c, fun ty' hy => ?_⟩
        cases hy
        refine ⟨fun n z => ⟨fun k h => (by cases h), k9, b2, comp, b3⟩, ?_⟩
        match k, h3, hk with
        | 0, _, hk => cases hk; exact b1
        | 1, _, hk => cases hk; exact b1
        | 2, _, hk => cases hk; exact b1
      · match k, h3, hk with
        | 3, _, hk =>
          cases hk
          obtain ⟨comp, c, k9, b1, b2, b3, b4, b5⟩ := Cond.arrayOver_spec (hts _ nOver_ok)
          refine ⟨c, fun ty' hy => ?_⟩
          cases hy
          exact ⟨fun n z => ⟨fun k h => (by cases h), k9, b3, comp, b4⟩, k9, comp, b3, b4, b1, b5⟩
        | k + 4, _, hk => exact absurd hk (by simp [mTys])
  obtain ⟨g, hg⟩ := Classical.axiomOfChoice h2
  refine ⟨(fun c => (f c).1, fun c => (f c).2), g, fun c q hq => hf c q hq, fun k q hq => ?_⟩
  unfold mT at hq
  rw [List.getElem?_mapIdx] at hq
  obtain ⟨ty, h3, h4⟩ := Option.map_eq_some_iff.mp hq
  subst h4
  exact hg k ty h3
theorem law_N (hts : ∀ w ∈ lw_tbl, w.before args s = true) : mNs s := by
  refine ⟨fun w hw => ?_, fun z hz => ?_⟩
  · exact mXk_tab (List.all_eq_true.mp mXw_is w hw) (hts w (of_decide_eq_true (List.all_eq_true.mp nXw_ok w hw)))
  · have h1 := List.all_eq_true.mp nIfs_ok z hz
    simp only [nIfk, Bool.and_eq_true, decide_eq_true_eq] at h1
    obtain ⟨a1, a2, a3, a4, a5⟩ := h1
    exact va_Fw.of (hts _ a1) (hts _ a2) (hts _ a3) (hts _ a4) (hts _ a5)
theorem nF_in (hn : ∀ c ∈ nF, c.before args s = true) {w : Cond} (hw : w ∈ ([.arrayOf nCache (.object "java/lang/Integer"), .eq (.length nCache) (.int 256), .all nCache (.and (.exactly (.elem nCache (.index 0)) "java/lang/Integer") (.eq (.field (.elem nCache (.index 0)) "java/lang/Integer" "value" "I") (.sub (.index 0) (.int 128)))), .arrayOf nEmpty (.object "java/lang/Object"), .eq (.length nEmpty) (.int 0), .eq (.length nDays) (.int 13), .eq (.static "java/lang/Integer$IntegerCache" "high" "I") (.int 127), .isRef (.mirror "[Ljava/lang/Object;"), .isRef (.static "java/lang/Throwable" "UNASSIGNED_STACK" "[Ljava/lang/StackTraceElement;"), .isRef (.static "java/lang/Throwable" "SUPPRESSED_SENTINEL" "Ljava/util/List;")] : List Cond)) : w.before args s = true := hn w (of_decide_eq_true (List.all_eq_true.mp nF_has w hw))
theorem law_X (hts : ∀ w ∈ lw_tbl, w.before args s = true) (hn : ∀ c ∈ nF, c.before args s = true) : mXs (fun q => s.heap.size ≤ q) s := by
  have hA : ∀ a : Nat, a < s.heap.size → ¬ s.heap.size ≤ a := fun a h1 h2 => by omega
  refine ⟨fun x t r ht hr => ?_, fun r hr w hw => ?_, ?_, ?_⟩
  · have h1 := List.all_eq_true.mp nThr_ok t (List.mem_of_getElem? ht)
    simp only [nThk, hr, Bool.and_eq_true, decide_eq_true_eq] at h1
    obtain ⟨a, c, cA, kA, q1, -⟩ := Cond.exactly_spec (hn _ h1.2)
    have q2 : (Term.string r.1 t.2.1).eval args s none [] s = some (.ref a) := q1
    exact ⟨a, vk_R.of (hts _ h1.1) q2⟩
  · have h1 := List.all_eq_true.mp mXk3_ok r hr
    have h2 := List.all_eq_true.mp h1 w hw
    exact va_Nw.of (mXbk_tab h2) (hts w (of_decide_eq_true (List.all_eq_true.mp (List.all_eq_true.mp nXb_ok r hr) w hw)))
  · have h1 := List.all_eq_true.mp nThrow_ok
    exact vx_Zqof (hts _ (of_decide_eq_true (h1 _ (List.mem_cons_self)))) (hts _ (of_decide_eq_true (h1 _ (List.mem_cons_of_mem _ (List.mem_cons_of_mem _ List.mem_cons_self))))) (nF_in hn (by simp [Bundle.tN, Bundle.steD])) hA
  · have h1 := List.all_eq_true.mp nThrow_ok
    exact vx_Zqof (hts _ (of_decide_eq_true (h1 _ (List.mem_cons_of_mem _ List.mem_cons_self)))) (hts _ (of_decide_eq_true (h1 _ (List.mem_cons_of_mem _ (List.mem_cons_of_mem _ List.mem_cons_self))))) (nF_in hn (by simp [Bundle.tN, Bundle.listD])) hA
theorem law_C (hn : ∀ c ∈ nF, c.before args s = true) : ∀ q ∈ mNc, va_Nc q.1 q.2 s := fun q hq => va_Nc.of (hn _ (of_decide_eq_true (List.all_eq_true.mp nNc_ok q hq)))
/-- the outer things: the script, Kinds.DAYS_AHEAD, ArrayList's empty row, the cache of Integers, a class object; the Integers -/
def qE (L : Nat) (xs : Nat → Int32) : mE := [.inl (0, L, .inl xs), .inr (9999, []), .inl (3, 0, .inr (.inr (.inr (.inr (fun _ => none))))), .inl (4, 256, .inr (.inr (.inr (.inr (fun j => if j < 256 then some (5 + j) else none))))), .inr (9999, [])] ++ (List.range 256).map (fun _ => .inr (0, []))
theorem qE_len (L : Nat) (xs : Nat → Int32) : (qE L xs).length = 261 := by simp [qE]
theorem qE_box (L : Nat) (xs : Nat → Int32) {k : Nat} (hk : k < 256) : (qE L xs)[5 + k]? = some (.inr (0, [])) := by
  unfold qE
  rw [List.getElem?_append_right (by simp)]
  simp [hk]
theorem va_T_cong {ty : FieldType} {t N : Nat} {f g : Nat → Value} {A : Nat → Prop} {U : State} {H : Heap} (h : va_T ty t N f A U H) (hfg : ∀ j, j < N → f j = g j) : va_T ty t N g A U H := by
  obtain ⟨cell, h1, h2, h3, h4, h5, h6, h7⟩ := h
  exact ⟨cell, h1, h2, h3, h4, h5, fun j hj => by rw [← hfg j hj]; exact h6 j hj, h7⟩
theorem nCl0 {r : vw_C} (h : mCl[0]? = some r) : r.1 = "java/lang/Integer" := by
  have h1 : mCl[0]? = some (RJ6, TJ6, 1) := rfl
  rw [h1] at h
  cases h
  rfl
theorem law_E (hts : ∀ w ∈ lw_tbl, w.before args s = true) (hn : ∀ c ∈ nF, c.before args s = true) {b L : Nat} {xs : Nat → Int32} (hX : va_X b L xs s s.heap) (hb : b < s.heap.size) (D : va_G) : ∃ ad : Nat → Nat, mEx D (qE L xs) ad (fun q => s.heap.size ≤ q) s s.heap ∧ ad 0 = b := by
  have hA : ∀ a : Nat, a < s.heap.size → ¬ s.heap.size ≤ a := fun a h1 h2 => by omega
  have hlenC : (Term.length nCache).eval args s none [] s = some (.int (Int32.ofNat 256)) := va_eqt (z := 256) (nF_in hn (by simp))
  obtain ⟨adI, ⟨hO, -⟩, hel⟩ := vb_Cof (st := nCache) rfl hlenC (nF_in hn (by simp)) hA
  obtain ⟨tc, htc, hTc⟩ := va_Tof (tm := nCache) (N := 256) (f := fun j => .ref (adI j)) (by decide) (nF_in hn (w := .arrayOf nCache (.object "java/lang/Integer")) (by simp)) hlenC hel hA
  obtain ⟨te, hte, hTe⟩ := va_Tof (tm := nEmpty) (N := 0) (f := fun _ => .null) (by decide) (nF_in hn (w := .arrayOf nEmpty (.object "java/lang/Object")) (by simp)) (va_eqt (z := 0) (nF_in hn (by simp))) (fun j hj => absurd hj (Nat.not_lt_zero j)) hA
  obtain ⟨td, celld, htd, -, -⟩ := Term.length_spec (va_eqt (z := 13) (nF_in hn (w := .eq (.length nDays) (.int 13)) (by simp)))
  obtain ⟨mi, hmi⟩ := va_Mi.of (nF_in hn (w := .isRef (.mirror "[Ljava/lang/Object;")) (by simp))
  have hst : ∀ z ∈ mStat, ∀ v : Value, (Term.static z.1 z.2.1 z.2.2.1).eval args s none [] s = some v → va_Z z.1 z.2.1 z.2.2.1 v (fun q => s.heap.size ≤ q) s s.heap := by
    intro z hz v hv
    have h1 := List.all_eq_true.mp nStat_ok z hz
    simp only [Bool.and_eq_true, decide_eq_true_eq] at h1
    exact va_Zof (hts _ h1.1) (hts _ h1.2) hv hA
  refine ⟨fun i => match i with
    | 0 => b
    | 1 => td
    | 2 => te
    | 3 => tc
    | 4 => mi
    | k + 5 => adI k, ⟨fun q o ho => ?_, fun z hz => ?_, fun z hz => ?_⟩, rfl⟩
  · have hq : q < 261 := by
      have h1 := (List.getElem?_eq_some_iff.mp ho).1
      rwa [qE_len] at h1
    match q, hq, ho with
    | 0, _, ho =>
      cases ho
      intro ty hty
      cases hty
      obtain ⟨scr, h1, h2, h3, h4, h5⟩ := hX
      exact ⟨scr, h1, h2, h3, Nat.le_of_eq h4.symm, by rw [h4], fun j hj => h5 j hj, hA b hb⟩
    | 1, _, ho =>
      cases ho
      intro r hr
      rw [show mCl[9999]? = none by decide +kernel] at hr
      cases hr
    | 2, _, ho =>
      cases ho
      intro ty hty
      cases hty
      exact va_T_cong hTe (fun j hj => absurd hj (Nat.not_lt_zero j))
    | 3, _, ho =>
      cases ho
      intro ty hty
      cases hty
      refine va_T_cong hTc (fun j hj => ?_)
      dsimp only
      rw [if_pos hj]
      show _ = Value.ref _
      congr 1
      rw [Nat.add_comm]
    | 4, _, ho =>
      cases ho
      intro r hr
      rw [show mCl[9999]? = none by decide +kernel] at hr
      cases hr
    | k + 5, hk, ho =>
      rw [Nat.add_comm k 5, qE_box L xs (by omega)] at ho
      cases ho
      intro r hr
      refine Or.inl ⟨rfl, ?_⟩
      rw [nCl0 hr]
      exact hO k (by omega)
  · have h4 : z = ("Tallow$Kinds", "DAYS_AHEAD", "[I", .ref 1) ∨ z = ("java/lang/Integer$IntegerCache", "high", "I", .int 127) ∨ z = ("java/lang/Integer$IntegerCache", "cache", "[Ljava/lang/Integer;", .ref 3) ∨ z = ("java/util/ArrayList", "DEFAULTCAPACITY_EMPTY_ELEMENTDATA", "[Ljava/lang/Object;", .ref 2) := by
      simpa [mStat] using hz
    rcases h4 with rfl | rfl | rfl | rfl
    · exact hst _ hz _ htd
    · exact hst _ hz _ (va_eqi (nF_in hn (by simp)))
    · exact hst _ hz _ htc
    · exact hst _ hz _ hte
  · have h4 : z = ("[Ljava/lang/Object;", 4) := by simpa [mMir] using hz
    subst h4
    exact hmi
theorem qE_w (L : Nat) (xs : Nat → Int32) : mEw (qE L xs) := by
  refine ⟨fun o ho => ?_, fun z hz => ?_, fun z hz => ?_⟩
  · rw [qE_len]
    unfold qE at ho
    rcases List.mem_append.mp ho with h1 | h1
    · simp only [List.mem_cons, List.not_mem_nil, or_false] at h1
      rcases h1 with rfl | rfl | rfl | rfl | rfl
      · trivial
      · exact fun v hv => by cases hv
      · exact fun i q hq => by cases hq
      · intro i q hq
        dsimp only at hq
        split at hq
        · cases hq; omega
        · cases hq
      · exact fun v hv => by cases hv
    · obtain ⟨k, -, rfl⟩ := List.mem_map.mp h1
      exact fun v hv => by cases hv
  · rw [qE_len]
    have h4 : z = ("Tallow$Kinds", "DAYS_AHEAD", "[I", .ref 1) ∨ z = ("java/lang/Integer$IntegerCache", "high", "I", .int 127) ∨ z = ("java/lang/Integer$IntegerCache", "cache", "[Ljava/lang/Integer;", .ref 3) ∨ z = ("java/util/ArrayList", "DEFAULTCAPACITY_EMPTY_ELEMENTDATA", "[Ljava/lang/Object;", .ref 2) := by
      simpa [mStat] using hz
    rcases h4 with rfl | rfl | rfl | rfl
    · show (1 : Nat) < 261; decide
    · trivial
    · show (3 : Nat) < 261; decide
    · show (2 : Nat) < 261; decide
  · rw [qE_len]
    have h4 : z = ("[Ljava/lang/Object;", 4) := by simpa [mMir] using hz
    subst h4
    show (4 : Nat) < 261
    decide
theorem qE_ok {L : Nat} {xs : Nat → Int32} {bx : qX} (hL : bx.1 = L) (hb : ∀ i, i < L → qR (qE L xs) (bx.2 i) (.int (xs i))) : qEok (qE L xs) 261 bx := by
  subst hL
  refine ⟨(qE_len _ _).symm, ⟨xs, rfl, hb⟩, ⟨_, rfl⟩, ⟨_, rfl, fun i hi => ⟨5 + i, [], if_pos hi, by rw [qE_len]; omega, qE_box _ _ hi⟩⟩⟩
end NP
