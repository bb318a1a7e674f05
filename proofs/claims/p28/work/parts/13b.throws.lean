/-! ===== a run that ends where an exception is made and thrown is a contract that throws ===== -/
abbrev mXr : Type := String × String × Nat × Nat × Nat × Nat
def mXnm : List String := ["java/lang/RuntimeException", "java/lang/Exception"]
def mXl : List Cond := mXsub.filterMap (fun k => lw_tbl[k]?)
theorem mXl_in {w : Cond} (h : w ∈ mXl) (hg : goodWord w = true) : w ∈ mTBL := by
  obtain ⟨k, -, hk⟩ := List.mem_filterMap.mp h
  exact mTBL_of hk hg
def mXat (r : mXr) : List Cond := vx_atS r.1 r.2.2.2.1 r.2.1 mXnm
/-- those that a call moves by rows of their own -/
def mXb (r : mXr) : List Cond := (mXat r).filter (fun w => !goodWord w)
def mXbk (w : Cond) : Bool := match w with
  | .castable _ _ => true
  | .declares _ => true
  | _ => false
def mXk1 (r : mXr) : Bool := decide (lw_tbl[r.2.2.2.2.1]? = some (.classLink r.1 r.2.2.1 r.2.1)) && decide (lw_tbl[r.2.2.2.2.2]? = some (.initialized r.2.1))
def mXk2 (r : mXr) : Bool := ((mXat r).filter goodWord).all (fun w => decide (w ∈ mXl))
def mXk3 (r : mXr) : Bool := (mXb r).all mXbk
def mXk4 (r : mXr) : Bool := (mXat r).all vx_ot && Bundle.fit r.2.1
set_option maxRecDepth 100000 in
theorem mXk1_ok : mXcls.all mXk1 = true := by decide +kernel
set_option maxRecDepth 100000 in
theorem mXk2_ok : mXcls.all mXk2 = true := by decide +kernel
set_option maxRecDepth 100000 in
theorem mXk3_ok : mXcls.all mXk3 = true := by decide +kernel
set_option maxRecDepth 100000 in
theorem mXk4_ok : mXcls.all mXk4 = true := by decide +kernel
theorem mXnm_ok : ∀ n ∈ mXnm, Bundle.fit n = true := by decide +kernel
theorem mXbk_tab {w : Cond} (h : mXbk w = true) : w.onTables = true := by
  unfold mXbk at h
  split at h
  · rfl
  · rfl
  · cases h
/-- what stands behind an exception's 'new' -/
def mXseq (j : Nat) (y : mMth) (e : mIns) : Bool := match e.2.1 with
  | .new ik => if e.2.2.2.1 = 995 then (match mThr[e.2.2.2.2.1]? with
    | some t => (match mXcls[t.1]? with
      | some r => decide (y.2.2.2.2.1 = r.1 ∧ ik = r.2.2.1 ∧ 6 ≤ y.2.2.2.2.2.1 ∧ 82 ≤ y.2.2.2.2.2.2) && (decide ((mlook (mcode j) (e.1 + 3)).map (fun z => z.2.1) = some .dup) && (decide ((mlook (mcode j) (e.1 + 4)).map (fun z => z.2.1) = some (.ldc t.2.1)) && (decide ((mlook (mcode j) (e.1 + 6)).map (fun z => z.2.1) = some (.invokespecial r.2.2.2.1)) && decide ((mlook (mcode j) (e.1 + 9)).map (fun z => z.2.1) = some .athrow))))
      | none => false)
    | none => false) else true
  | _ => true
def mXm (j : Nat) : Bool := match mmeth j with
  | some y => (mcode j).all (mXseq j y)
  | none => true
set_option maxRecDepth 100000 in
theorem mXm_ok : (List.range 200).all mXm = true := by decide +kernel
theorem mXm_all {j : Nat} {y : mMth} (h : mmeth j = some y) : mXm j = true := by
  have h1 : j < mMeths.length := (List.getElem?_eq_some_iff.mp h).1
  have h2 : mMeths.length ≤ 200 := by decide +kernel
  exact List.all_eq_true.mp mXm_ok j (List.mem_range.mpr (Nat.lt_of_lt_of_le h1 h2))
theorem mdec_at {j pc : Nat} {y : mMth} (hy : mmeth j = some y) {i : Instr} (h : (mlook (mcode j) pc).map (fun z => z.2.1) = some i) : ∃ n : Nat, decode y.2.1 pc = .ok (i, mlen i n) := by
  obtain ⟨e, he, hi⟩ := Option.map_eq_some_iff.mp h
  have h1 := (mIns_ok hy he).2.2
  rw [(mlook_mem he).2, hi] at h1
  exact ⟨_, h1⟩
/-- the strings and the statics that throws read -/
def mXs (A : Nat → Prop) (s : State) : Prop := (∀ (x : Nat) (t : Nat × Nat × String) (r : mXr), mThr[x]? = some t → mXcls[t.1]? = some r → ∃ sa : Nat, vk_R r.1 t.2.1 t.2.2 sa s) ∧ (∀ r ∈ mXcls, ∀ w ∈ mXb r, va_Nw w s) ∧ vx_Zq Bundle.tN "UNASSIGNED_STACK" Bundle.steD A s s.heap ∧ vx_Zq Bundle.tN "SUPPRESSED_SENTINEL" Bundle.listD A s s.heap
/-- where a method has thrown -/
def mXC (D : va_G) (cy : Nat → ClassId) (E : mE) (ad : Nat → Nat) (h : List mO) (sz : Nat) (h' : List mO) (X : String) : String → State → State → Prop := fun X9 st t =>
  X9 = X ∧ (∃ ad' : Nat → Nat, agr (E.length + h.length) ad ad' ∧ va_P D mCl (mW cy ad' E.length h') t.heap ∧ va_D (va_A (mW cy ad E.length h) sz) (mW cy ad' E.length h')) ∧ (h.length ≤ h'.length ∧ wfH E.length h') ∧ va_F (va_A (mW cy ad E.length h) sz) st t
set_option maxHeartbeats 4000000 in
theorem met_of_throw {l : Launch} (htr : l.stackTraces = false) {D : va_G} {cy : Nat → ClassId} {E : mE} {call : Nat → mS → Option mS} (hEw : mEw E) (hcall : mCallOk l D cy E call) {n k x : Nat} {y : mMth} {q : Nat × Nat × Nat × Nat × Bool × Nat} {as : List Value} {h : List mO} {S1 : mS} {tx : Nat × Nat × String} {r : mXr}
    (hy : mmeth k = some y) (hq : mPos[k]? = some q) (hq1 : q.1 ≠ 99999) (hlen : (lg_sl as).length ≤ y.2.2.1) (hwa : wfL (E.length + h.length) as) (hwh : wfH E.length h) (hrun : mrunF E call n (ment k as h) = some S1) (ht : mthrown S1 = some x) (hst : S1.1.2.2.2 = []) (hx : mThr[x]? = some tx) (hr : mXcls[tx.1]? = some r) (ad : Nat → Nat) (sz : Nat) :
    vx_Met l y.1 (mws y) (mrm y (S1.2.2.1 + 1) (S1.2.2.2 + 6)) (fun a s => mPc D cy E ad as h sz a s ∧ mXs (va_A (mW cy ad E.length h) sz) s) (fun _ _ _ _ => False) (mXC D cy E ad h sz S1.2.1 r.2.1) (S1.2.2.1 + 1) (S1.2.2.2 + 6) (va_A (mW cy ad E.length h) sz) := by
  obtain ⟨b1, b2, b3, b4, b5, b6, b7⟩ := mMeth_ok hy hq hq1
  refine vx_ofW (cc := y.2.1) (maxL := y.2.2.1) (ret := y.2.2.2.1) b5 rfl ?_
  intro p e s m args below meth c s₁ B hml hno hv0
  obtain ⟨hv, hX⟩ := hv0
  obtain ⟨rfl, hsz, hP, hK, hD0, hE, hN⟩ := hv
  have hts0 := atoms_spec (ws := mws y) B.pre
  have hts : ∀ w ∈ mTBL, w.before (as.map (trV ad)).toArray s = true := fun w hw => hts0 w (List.mem_cons_of_mem _ hw)
  have hown : s.vm.findClass y.1.cls = some m.cls := findClass_of_methodNamed B.named
  have hnm : meth.name = y.1.name := (name_of_methodNamed B.named B.method).1
  have hlocks := B.notSynchronized
  subst hsz
  have hD := hD0.self (sz := s.heap.size)
  have hA : ∀ q : Nat, s.heap.size ≤ q → va_A (mW cy ad E.length h) s.heap.size q := fun q hq9 => Or.inr hq9
  have hl := lv_entry (as.map (trV ad)) (n := y.2.2.1) (by rw [lg_sl_tr]; exact hlen)
  rw [lg_entry_eq]
  generalize (lg_sl (as.map (trV ad)) ++ List.replicate (y.2.2.1 - (lg_sl (as.map (trV ad))).length) Slot.unset).toArray = ls at hl ⊢
  rw [lv_args_tr] at hl
  refine sim_run (R := (headSpec (mws y) (mrm y (S1.2.2.1 + 1) (S1.2.2.2 + 6))).room) (A := va_A (mW cy ad E.length h) s.heap.size) hEw hcall B.exec B.bytes hml hts (b7 ▸ hown) hnm (Nat.le_refl _) (Nat.le_refl _) hK hA hN n _ S1 hrun hy (Nat.le_succ _) (Nat.le_add_right _ 6) s.heap [] ls ad hE hP hD va_S.rf hwh (lv_args_wf hwa 0) (fun v hv => by cases hv) hl ?_
  intro ad' H' locs' ls' e' hag hP' hD' hS' hw' hws' hlen' hj he' ht' hl'
  have hjk : S1.1.1 = k := hj
  have hsq := List.all_eq_true.mp (show (mcode k).all (mXseq k y) = true by
    have h9 := mXm_all hy
    unfold mXm at h9
    rw [hy] at h9
    exact h9) e' (mlook_mem (by rw [← hjk]; exact he')).1
  obtain ⟨-, -, hd⟩ := mIns_ok (by rw [hjk]; exact hy) he'
  have hpc : e'.1 = S1.1.2.1 := (mlook_mem he').2
  unfold mthrown at ht
  rw [he'] at ht
  dsimp only at ht
  obtain ⟨⟨j1, pc1, lv1, st1⟩, h1, nc1, ns1⟩ := S1
  obtain ⟨pc2, i2, n2, a2, bb2, k2⟩ := e'
  dsimp only at *
  subst hpc
  subst hst
  subst hjk
  split at ht
  · rename_i ik
    split at ht
    · rename_i h995
      cases ht
      unfold mXseq at hsq
      dsimp only at hsq
      rw [if_pos h995, hx] at hsq
      dsimp only at hsq
      rw [hr] at hsq
      simp only [Bool.and_eq_true, decide_eq_true_eq] at hsq
      obtain ⟨⟨g1, g2, g3, g4⟩, g5, g6, g7, g8⟩ := hsq
      obtain ⟨n3, d3⟩ := mdec_at hy g5
      obtain ⟨n4, d4⟩ := mdec_at hy g6
      obtain ⟨n6, d6⟩ := mdec_at hy g7
      obtain ⟨n9, d9⟩ := mdec_at hy g8
      subst g2
      have hrm : r ∈ mXcls := List.mem_of_getElem? hr
      obtain ⟨x1, x2, x3, x4⟩ := hX
      obtain ⟨sa, hsa⟩ := x1 _ _ _ hx hr
      have k1 := List.all_eq_true.mp mXk1_ok r hrm
      have k2 := List.all_eq_true.mp mXk2_ok r hrm
      have k3 := List.all_eq_true.mp mXk3_ok r hrm
      have k4 := List.all_eq_true.mp mXk4_ok r hrm
      simp only [mXk1, Bool.and_eq_true, decide_eq_true_eq] at k1
      simp only [mXk4, Bool.and_eq_true] at k4
      have hat : ∀ w ∈ vx_atS r.1 r.2.2.2.1 r.2.1 mXnm, w.before (as.map (trV ad)).toArray s = true := by
        intro w hw
        by_cases g : goodWord w = true
        · exact hts w (mXl_in (of_decide_eq_true (List.all_eq_true.mp k2 w (List.mem_filter.mpr ⟨hw, g⟩))) g)
        · have g' : (!goodWord w) = true := by
            cases hgw : goodWord w
            · rfl
            · exact absurd hgw g
          have hwb : w ∈ mXb r := List.mem_filter.mpr ⟨hw, g'⟩
          exact va_Nw.use (mXbk_tab (List.all_eq_true.mp k3 w hwb)) (x2 r hrm w hwb)
      have hgood : ∀ w ∈ Cond.classLink r.1 r.2.2.1 r.2.1 :: Cond.initialized r.2.1 :: vx_atS r.1 r.2.2.2.1 r.2.1 mXnm, vx_ot w = true := by
        intro w hw
        rcases List.mem_cons.mp hw with e1 | e1
        · subst e1; rfl
        · rcases List.mem_cons.mp e1 with e2 | e2
          · subst e2; rfl
          · exact List.all_eq_true.mp k4.1 w e2
      refine vx_throwS (text := tx.2.2) (names := mXnm) (sa := sa) (A := va_A (mW cy ad E.length h) s.heap.size) B.exec B.bytes htr (own := r.1) (by rw [← g1, b7]; exact hown) k4.2 mXnm_ok (hts _ (mTBL_of k1.1 rfl)) (hts _ (mTBL_of k1.2 rfl)) hsa hat hgood x3 x4 hS' (hl'.1.trans hml.symm) hd d3 d4 d6 d9 (fun x hx9 => (hno x hx9).elim) (show 2 + 3 < y.2.2.2.2.2.1 by omega) (show 0 + (13 * (2 + 1) + 43) ≤ y.2.2.2.2.2.2 by omega) (Nat.le_refl _) (Nat.le_refl _) hlocks ?_ hS'.2.2 (Nat.le_refl _) (Nat.le_refl _)
      intro t hvm hsize hkept
      refine ⟨rfl, ⟨ad', hag, hP'.kept (fun k9 q9 hk9 => hkept q9.1 (hP' k9 q9 hk9).lt), hD'⟩, ⟨hlen', hw'⟩, ?_, ?_⟩
      · exact Nat.le_trans hS'.1 hsize
      · intro q9 h1 h2
        rw [hkept q9 (Nat.lt_of_lt_of_le h1 hS'.1)]
        exact hS'.2.1 q9 h1 h2
    · exact hfalse ht
  · exact hfalse ht
