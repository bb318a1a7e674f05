/-! ===== methods with handlers ===== -/
def mdrop1 (l : mLv) (i : Nat) : mLv := l.filter (fun q => !(q.1 == i) && !(q.1 + 1 == i && q.2.category == 2))
theorem trL_drop {ad : Nat → Nat} {l : mLv} {i : Nat} : trL ad (mdrop1 l i) = (trL ad l).filter (fun q => !(q.1 == i) && !(q.1 + 1 == i && q.2.category == 2)) := (List.cons.inj (trL_set1 ad l i .null)).2.symm
def mhof (j : Nat) : Option (Nat × List (Nat × Nat × Nat × Nat)) := (mHds.find? (fun q => q.1 == j)).map (fun q => q.2)
def mcov (pc : Nat) (z : Nat × Nat × Nat × Nat) : Bool := decide (z.1 ≤ pc) && decide (pc < z.2.1)
def mhname (own : String) (i : Nat) : Option (String × Nat) := (mHnm.find? (fun q => decide (q.1 = own) && decide (q.2.1 = i))).map (fun q => q.2.2)
/-- the handler of an exception -/
def mhnd (own : String) (pc : Nat) (X : String) : List (Nat × Nat × Nat × Nat) → Option Nat
  | [] => none
  | z :: r => if mcov pc z = true then (match mhname own z.2.2.2 with
      | some nm => if nm.1 = X then some z.2.2.1 else (if (X, nm.1) ∈ mNc then mhnd own pc X r else none)
      | none => none) else mhnd own pc X r
/-- where a call's throw is caught: the place behind the handler's first instruction, which keeps what was caught, and in which local -/
def mcatch (j : Nat) (e : mIns) (S1 : mS) : Option (Nat × Nat) := match e.2.1, mthrown S1, mmeth j, mhof j with
  | .invokevirtual _, some z, some y, some hd => (match mThr[z]? with
    | some tx => (match mXcls[tx.1]? with
      | some r => if S1.1.2.2.2.isEmpty = true then (match mhnd y.2.2.2.2.1 e.1 r.2.1 hd.2 with
        | some hp => (match mlook (mcode j) hp with
          | some eh => (match eh.2.1 with
            | .astore_n k => if (k : Nat) < y.2.2.1 then some (hp + 1, (k : Nat)) else none
            | .astore k => if k < y.2.2.1 then some (hp + 2, k) else none
            | _ => none)
          | none => none)
        | none => none) else none
      | none => none)
    | none => none)
  | _, _, _, _ => none
theorem mcatch_ok {j : Nat} {e : mIns} {S1 : mS} {c : Nat × Nat} (h : mcatch j e S1 = some c) : ∃ (idx z : Nat) (tx : Nat × Nat × String) (r : mXr) (y : mMth) (hd : Nat × List (Nat × Nat × Nat × Nat)) (hp : Nat) (eh : mIns), e.2.1 = .invokevirtual idx ∧ mthrown S1 = some z ∧ S1.1.2.2.2 = [] ∧ mThr[z]? = some tx ∧ mXcls[tx.1]? = some r ∧ mmeth j = some y ∧ mhof j = some hd ∧ mhnd y.2.2.2.2.1 e.1 r.2.1 hd.2 = some hp ∧ mlook (mcode j) hp = some eh ∧ ((∃ k : Fin 4, eh.2.1 = .astore_n k ∧ (k : Nat) = c.2 ∧ c.1 = hp + 1) ∨ (eh.2.1 = .astore c.2 ∧ c.1 = hp + 2)) ∧ c.2 < y.2.2.1 := by
  unfold mcatch at h
  split at h
  · rename_i idx z y hd h1 h2 h3 h4
    split at h
    · rename_i tx h5
      split at h
      · rename_i r h6
        split at h
        · rename_i h7
          split at h
          · rename_i hp h8
            split at h
            · rename_i eh h9
              split at h
              · rename_i k h10
                split at h
                · rename_i h11
                  cases h
                  exact ⟨idx, z, tx, r, y, hd, hp, eh, h1, h2, List.isEmpty_iff.mp h7, h5, h6, h3, h4, h8, h9, Or.inl ⟨k, h10, rfl, rfl⟩, h11⟩
                · cases h
              · rename_i k h10
                split at h
                · rename_i h11
                  cases h
                  exact ⟨idx, z, tx, r, y, hd, hp, eh, h1, h2, List.isEmpty_iff.mp h7, h5, h6, h3, h4, h8, h9, Or.inr ⟨h10, rfl⟩, h11⟩
                · cases h
              · cases h
            · cases h
          · cases h
        · cases h
      · cases h
    · cases h
  · cases h
def mXk5 (r : mXr) : Bool := decide (Cond.castable r.2.1 r.2.1 ∈ mXb r)
set_option maxRecDepth 100000 in
theorem mXk5_ok : mXcls.all mXk5 = true := by decide +kernel
def mHk (q : String × Nat × String × Nat) : Bool := decide (q.2.1 ≠ 0) && decide (lw_tbl[q.2.2.2]? = some (.classLink q.1 q.2.1 q.2.2.1))
set_option maxRecDepth 100000 in
theorem mHk_ok : mHnm.all mHk = true := by decide +kernel
theorem mhname_ok {own : String} {i : Nat} {nm : String × Nat} (h : mhname own i = some nm) : Cond.classLink own i nm.1 ∈ mTBL ∧ i ≠ 0 := by
  unfold mhname at h
  obtain ⟨q, hq, hn⟩ := Option.map_eq_some_iff.mp h
  have h1 := List.find?_some hq
  have h2 := List.all_eq_true.mp mHk_ok q (List.mem_of_find?_eq_some hq)
  simp only [Bool.and_eq_true, decide_eq_true_eq] at h1
  simp only [mHk, Bool.and_eq_true, decide_eq_true_eq] at h2
  obtain ⟨a1, a2⟩ := h1
  subst a1
  subst a2
  subst hn
  exact ⟨mTBL_of h2.2 rfl, h2.1⟩
theorem mhnd_ok {own : String} {pc : Nat} {X : String} : ∀ (hh : List (Nat × Nat × Nat × Nat)) (hp : Nat), mhnd own pc X hh = some hp → ∃ (pre : List ExceptionTableEntry) (x : ExceptionTableEntry) (suf : List ExceptionTableEntry) (nm : String × Nat), tableOf hh = pre ++ x :: suf ∧ x.handlerPc = hp ∧ covers x pc = true ∧ mhname own x.catchType = some nm ∧ nm.1 = X ∧ ∀ z ∈ pre, covers z pc = false ∨ ∃ nz : String × Nat, mhname own z.catchType = some nz ∧ (X, nz.1) ∈ mNc := by
  intro hh
  induction hh with
  | nil => intro hp h; cases h
  | cons z r ih =>
    intro hp h
    unfold mhnd at h
    split at h
    · rename_i hc
      split at h
      · rename_i nm hnm
        split at h
        · rename_i hX
          cases h
          exact ⟨[], ⟨z.1, z.2.1, z.2.2.1, z.2.2.2⟩, tableOf r, nm, rfl, rfl, hc, hnm, hX, fun _ h9 => absurd h9 List.not_mem_nil⟩
        · split at h
          · rename_i hin
            obtain ⟨pre, x, suf, nm2, h1, h2, h3, h4, h5, h6⟩ := ih hp h
            refine ⟨⟨z.1, z.2.1, z.2.2.1, z.2.2.2⟩ :: pre, x, suf, nm2, congrArg (fun t => (⟨z.1, z.2.1, z.2.2.1, z.2.2.2⟩ : ExceptionTableEntry) :: t) h1, h2, h3, h4, h5, ?_⟩
            intro w hw
            rcases List.mem_cons.mp hw with e | e
            · subst e; exact Or.inr ⟨nm, hnm, hin⟩
            · exact h6 w e
          · cases h
      · cases h
    · rename_i hc
      obtain ⟨pre, x, suf, nm2, h1, h2, h3, h4, h5, h6⟩ := ih hp h
      refine ⟨⟨z.1, z.2.1, z.2.2.1, z.2.2.2⟩ :: pre, x, suf, nm2, congrArg (fun t => (⟨z.1, z.2.1, z.2.2.1, z.2.2.2⟩ : ExceptionTableEntry) :: t) h1, h2, h3, h4, h5, ?_⟩
      intro w hw
      rcases List.mem_cons.mp hw with e | e
      · subst e
        refine Or.inl ?_
        have h9 : ¬ covers (⟨z.1, z.2.1, z.2.2.1, z.2.2.2⟩ : ExceptionTableEntry) pc = true := hc
        exact Bool.eq_false_iff.mpr h9
      · exact h6 w e
/-- runs of methods with handlers: what they call throws, or returns -/
def mrunX (E : mE) (call : Nat → mS → Option mS) : Nat → mS → Option mS
  | 0, _ => none
  | n + 1, S => match mlook (mcode S.1.1) S.1.2.1 with
    | none => none
    | some e => if mterm e = true then some S else (if minv e = true then (if 990 < e.2.2.2.1 then (match mspec S.1.1 e S.1.2.2.2 with
        | none => none
        | some r => mrunX E call n ((S.1.1, r.1, S.1.2.2.1, r.2), S.2)) else (match mcallee E e S.1.2.2.2 S.2.1 with
        | none => none
        | some r => if mfits S.1.1 r.1 = true then (match call n (ment r.1 r.2.1 S.2.1) with
          | none => none
          | some S1 => (match mretv S1 with
            | some v => mrunX E call n ((S.1.1, e.1 + 3, S.1.2.2.1, v.toList ++ r.2.2), (S1.2.1, S.2.2.1 + S1.2.2.1, S.2.2.2 + S1.2.2.2))
            | none => (match mcatch S.1.1 e S1 with
              | none => none
              | some cx => mrunX E call n ((S.1.1, cx.1, mdrop1 S.1.2.2.1 cx.2, []), (S1.2.1, S.2.2.1 + (S1.2.2.1 + 1), S.2.2.2 + (S1.2.2.2 + 6)))))) else none)) else (match mstep E e S with
        | none => none
        | some S1 => mrunX E call n S1))
theorem mrunX_mono {E : mE} {call : Nat → mS → Option mS} : ∀ (n : Nat) (S S' : mS), mrunX E call n S = some S' → S.2.2.1 ≤ S'.2.2.1 ∧ S.2.2.2 ≤ S'.2.2.2 := by
  intro n
  induction n with
  | zero => intro S S' h; cases h
  | succ n ih =>
    intro S S' h
    unfold mrunX at h
    split at h
    · exact hfalse h
    · rename_i e he; split at h
      · cases h; exact ⟨Nat.le_refl _, Nat.le_refl _⟩
      · split at h
        · split at h
          · split at h
            · exact hfalse h
            · have h1 := ih _ _ h
              exact h1
          · split at h
            · exact hfalse h
            · split at h
              · split at h
                · exact hfalse h
                · split at h
                  · have h1 := ih _ _ h
                    dsimp only at h1
                    exact ⟨by omega, by omega⟩
                  · split at h
                    · exact hfalse h
                    · have h1 := ih _ _ h
                      dsimp only at h1
                      exact ⟨by omega, by omega⟩
              · exact hfalse h
        · split at h
          · exact hfalse h
          · rename_i S1 hS1
            have h1 := ih _ _ h
            have h2 : S.2.2.1 ≤ S1.2.2.1 ∧ S.2.2.2 ≤ S1.2.2.2 := by
              unfold mstep at hS1
              split at hS1
              · split at hS1
                · cases hS1; exact ⟨Nat.le_refl _, Nat.le_refl _⟩
                · split at hS1
                  · rename_i r hr; cases hS1; exact mheap_mono hr
                  · exact hfalse hS1
              · exact hfalse hS1
            exact ⟨Nat.le_trans h2.1 h1.1, Nat.le_trans h2.2 h1.2⟩
section MRX
variable {p : Program} {l : Launch} {e : Env} {R : Room} {s : State} {m : MethodId} {args : Array Value} {below : List Frame} {meth : Method} {c : Code} {Q : State → Prop}
set_option maxHeartbeats 4000000 in
theorem sim_runX {D : va_G} {cy : Nat → ClassId} {E : mE} {call : Nat → mS → Option mS} (htr : l.stackTraces = false) (hEw : mEw E) (hcall : mCallOk l D cy E call) {j0 : Nat} {hd0 : Nat × List (Nat × Nat × Nat × Nat)} (hho : mhof j0 = some hd0) (htb : c.exceptionTable.toList = tableOf hd0.2) {A : Nat → Prop} {y : mMth} (hx : p.tables.exec = Jvm.exec) (hb : c.code = y.2.1) (hml : c.maxLocals = y.2.2.1) (hts : ∀ w ∈ mTBL, w.before args s = true) (hown : s.vm.findClass y.2.2.2.2.1 = some m.cls) (hnm : meth.name = y.1.name) (hR1 : y.2.2.2.2.2.1 ≤ R.frames) (hR2 : y.2.2.2.2.2.2 ≤ R.locals)
    (hK : va_K D mCl (mT cy) s) (hA : ∀ q, s.heap.size ≤ q → A q) (hN : mNs s) (hXs : mXs A s) (hNc : ∀ q ∈ mNc, va_Nc q.1 q.2 s) : ∀ (n : Nat) (S S' : mS), mrunX E (mrunF E call) n S = some S' → S.1.1 = j0 → mmeth S.1.1 = some y → S'.2.2.1 ≤ R.cells → S'.2.2.2 ≤ R.slots → ∀ (H : Heap) (locs : List Loc) (ls : Array Slot) (ad : Nat → Nat), mEx D E ad A s s.heap → va_P D mCl (mW cy ad E.length S.2.1) H → va_D A (mW cy ad E.length S.2.1) → va_S A s.heap H locs → wfH E.length S.2.1 → wfLv (E.length + S.2.1.length) S.1.2.2.1 → wfL (E.length + S.2.1.length) S.1.2.2.2 → lv_has ls y.2.2.1 (trL ad S.1.2.2.1) →
    (∀ (ad' : Nat → Nat) (H' : Heap) (locs' : List Loc) (ls' : Array Slot) (e' : mIns), agr (E.length + S.2.1.length) ad ad' → va_P D mCl (mW cy ad' E.length S'.2.1) H' → va_D A (mW cy ad' E.length S'.2.1) → va_S A s.heap H' locs' → wfH E.length S'.2.1 → wfL (E.length + S'.2.1.length) S'.1.2.2.2 → S.2.1.length ≤ S'.2.1.length → S'.1.1 = S.1.1 → mlook (mcode S'.1.1) S'.1.2.1 = some e' → mterm e' = true → lv_has ls' y.2.2.1 (trL ad' S'.1.2.2.1) → W p l e R s m args below meth c H' locs' S'.2.2.1 S'.2.2.2 Q (F0 m S'.1.2.1 ls' (S'.1.2.2.2.map (trV ad')))) →
    W p l e R s m args below meth c H locs S.2.2.1 S.2.2.2 Q (F0 m S.1.2.1 ls (S.1.2.2.2.map (trV ad))) := by
  intro n
  induction n with
  | zero => intro S S' h; cases h
  | succ n ih =>
    intro S S' h hj0 hy hc9 hs9 H locs ls ad hE hP hD hS hw hwl hws hl land
    obtain ⟨⟨j, pc, lv, st⟩, h0, nc, ns⟩ := S
    dsimp only at *
    have hmono := mrunX_mono _ _ _ h
    dsimp only at hmono
    unfold mrunX at h
    split at h
    · exact hfalse h
    · rename_i i hi
      dsimp only at hi h
      obtain ⟨k1, k2, k3⟩ := mIns_ok hy hi
      have hpc : i.1 = pc := (mlook_mem hi).2
      subst hpc
      split at h
      · rename_i ht
        cases h
        exact land ad H locs ls i agr.rf hP hD hS hw hws (Nat.le_refl _) rfl hi ht hl
      · split at h
        · split at h
          · rename_i h990
            split at h
            · exact hfalse h
            · rename_i r hr
              obtain ⟨pc2, st2⟩ := r
              exact spec_ok hx hb (hml.trans hl.1.symm) hts hown hy hR1 hR2 (Nat.le_trans hmono.1 hc9) (Nat.le_trans hmono.2 hs9) k1 k3 hr hws (fun hws2 => ih _ _ h hj0 hy hc9 hs9 H locs ls ad hE hP hD hS hw hwl hws2 hl land)
          · rename_i h990
            split at h
            · exact hfalse h
            · rename_i r hr
              obtain ⟨k, as, rest⟩ := r
              split at h
              · rename_i hf
                split at h
                · exact hfalse h
                · rename_i S1 hS1
                  split at h
                  · rename_i v hv
                    have hm2 := mrunX_mono _ _ _ h
                    dsimp only at hm2
                    obtain ⟨hwr, a, hrun⟩ := m_run (met_of_run hEw hcall) hx hb hml hts hown hl.1 k1 k3 hK hP hD hS hA hE hN hw hws (by omega) hy hR1 hR2 hr hf hS1 hv ⟨Nat.le_trans hm2.1 hc9, Nat.le_trans hm2.2 hs9⟩
                    refine m_back hw hrun hS (m_AA hD hS hA) (fun ad' H1 locs1 hag hP1 hD1 hS1' hlen hw1 hwv => ?_)
                    have hk := ih _ _ h hj0 hy hc9 hs9 H1 locs1 ls ad' (hE.agr hEw (fun q hq => hag q (by omega))) hP1 hD1 hS1' hw1 (hwl.up (by dsimp only; omega)) (by
                      intro x hx9
                      rcases List.mem_append.mp hx9 with e1 | e1
                      · cases v with
                        | none => cases e1
                        | some z =>
                          rw [List.mem_singleton.mp (show x ∈ [z] from e1)]
                          exact hwv z rfl
                      · exact (hwr x e1).up (by dsimp only; omega)) (by rw [trL_agr hwl hag]; exact hl)
                      (fun ad2 H2 locs2 ls2 e2 g1 g2 g3 g4 g5 g6 g7 g8 g9 g10 g11 => land ad2 H2 locs2 ls2 e2 (hag.tr (by dsimp only; omega) g1) g2 g3 g4 g5 g6 (Nat.le_trans hlen g7) g8 g9 g10 g11)
                    dsimp only at hk
                    rw [List.map_append, map_agr hwr hag] at hk
                    have hv9 : v.toList.map (trV ad') = (v.map (trV ad')).toList := by cases v <;> rfl
                    rw [hv9] at hk
                    exact hk
                  · split at h
                    · exact hfalse h
                    · rename_i cx hcx
                      obtain ⟨pc9, k9⟩ := cx
                      have hm2 := mrunX_mono _ _ _ h
                      dsimp only at hm2
                      obtain ⟨idx, z, tx, r9, y9, hd9, hp, eh, q1, q2, q3, q4, q5, q6, q7, q8, q9, q10, q11⟩ := mcatch_ok hcx
                      rw [hj0, hho] at q7
                      cases q7
                      rw [hy] at q6
                      cases q6
                      have hrm : r9 ∈ mXcls := List.mem_of_getElem? q5
                      obtain ⟨pre, xt, suf, nm, p1, p2, p3, p4, p5, p6⟩ := mhnd_ok _ _ q8
                      subst p2
                      have hdh : decode y.2.1 eh.1 = .ok (eh.2.1, mlen eh.2.1 eh.2.2.1) := (mIns_ok hy q9).2.2
                      rw [(mlook_mem q9).2] at hdh
                      refine m_thrown htr hEw hcall hx hb hml hts hown hl.1 k1 k3 q1 hK hP hD hS hA hE hN hXs hw hws hy hR1 hR2 hr hf hS1 q2 q3 q4 q5 ⟨Nat.le_trans hm2.1 hc9, Nat.le_trans hm2.2 hs9⟩ (fun ad' H1 locs1 qa ce hag hP1 hD1 hS1' hlen hw1 hcell hcv hcl hwr => ?_)
                      refine vx_catch hown pre xt suf (htb.trans p1) (fun z hz => ?_) p3 (mhname_ok p4).2 (hts _ (mhname_ok p4).1) ?_ hcell hcv hcl ?_
                      · rcases p6 z hz with e1 | ⟨nz, e1, e2⟩
                        · exact Or.inl e1
                        · exact Or.inr ⟨(mhname_ok e1).2, nz.1, hts _ (mhname_ok e1).1, hNc _ e2⟩
                      · rw [p5]
                        exact va_Nw.use rfl (hXs.2.1 r9 hrm _ (of_decide_eq_true (List.all_eq_true.mp mXk5_ok r9 hrm)))
                      · have hl2 : lv_has ls y.2.2.1 (trL ad' lv) := by rw [trL_agr hwl hag]; exact hl
                        have hgo : ∀ ls' : Array Slot, lv_has ls' y.2.2.1 ((k9, Value.ref qa) :: (trL ad' lv).filter (fun q => !(q.1 == k9) && !(q.1 + 1 == k9 && q.2.category == 2))) → W p l e R s m args below meth c H1 locs1 (nc + (S1.2.2.1 + 1)) (ns + (S1.2.2.2 + 6)) Q (F0 m pc9 ls' []) := by
                          intro ls' hl'
                          exact ih _ _ h hj0 hy hc9 hs9 H1 locs1 ls' ad' (hE.agr hEw (fun q hq => hag q (by omega))) hP1 hD1 hS1' hw1 (fun q hq => (hwl.up (by dsimp only; omega)) q (List.mem_filter.mp hq).1) (fun v hv => by cases hv) ⟨hl'.1, hl'.2.1, fun q hq => hl'.2.2 q (List.mem_cons_of_mem _ (by rw [← trL_drop]; exact hq))⟩
                            (fun ad2 H2 locs2 ls2 e2 g1 g2 g3 g4 g5 g6 g7 g8 g9 g10 g11 => land ad2 H2 locs2 ls2 e2 (hag.tr (by dsimp only; omega) g1) g2 g3 g4 g5 g6 (Nat.le_trans hlen g7) g8 g9 g10 g11)
                        rcases q10 with ⟨kf, f1, f2, f3⟩ | ⟨f1, f3⟩
                        · subst f3
                          rw [f1] at hdh
                          exact lv_astore_n hx hb hdh f2 hl2 q11 rfl hgo
                        · subst f3
                          rw [f1] at hdh
                          exact lv_astore hx hb hdh hl2 q11 rfl hgo
              · exact hfalse h
        · split at h
          · exact hfalse h
          · rename_i S1 hS1
            have hm2 := mrunX_mono _ _ _ h
            unfold mstep at hS1
            dsimp only at hS1
            rw [hy] at hS1
            dsimp only at hS1
            split at hS1
            · rename_i r hr
              cases hS1
              obtain ⟨pc2, lv2, st2⟩ := r
              obtain ⟨w1, w2⟩ := pure_wf hr hwl hws
              exact sd_pure hx hb hr k3 hl (fun ls' hl' => ih _ _ h hj0 hy hc9 hs9 H locs ls' ad hE hP hD hS hw w1 w2 hl' land)
            · split at hS1
              · rename_i r hr
                cases hS1
                obtain ⟨pc2, st2, h2⟩ := r
                dsimp only at hm2
                refine sd_heap (h := (h0, nc, ns)) (init := decide (y.1.name = "<init>")) hx hb hts hown (fun hh => hnm.trans (of_decide_eq_true hh)) hEw k2 k3 hK hP hD hS hA hE hw hws hr ⟨Nat.le_trans hm2.1 hc9, Nat.le_trans hm2.2 hs9⟩ (fun t9 ty ht9 hty => hts _ (mTys_ok t9 ty ht9 hty)) hN (hml.trans hl.1.symm) (fun hn9 => ⟨Nat.le_trans (mIns_room hy hi hn9).1 hR1, Nat.le_trans (mIns_room hy hi hn9).2 hR2⟩) (fun ad' H' locs' hag hP' hD' hS' hw' hws' hlen => ?_)
                exact ih _ _ h hj0 hy hc9 hs9 H' locs' ls ad' (hE.agr hEw (fun q hq => hag q (by omega))) hP' hD' hS' hw' (hwl.up (by dsimp only at hlen ⊢; omega)) hws' (by rw [trL_agr hwl hag]; exact hl)
                  (fun ad2 H2 locs2 ls2 e2 g1 g2 g3 g4 g5 g6 g7 g8 g9 g10 g11 => land ad2 H2 locs2 ls2 e2 (hag.tr (by dsimp only at hlen ⊢; omega) g1) g2 g3 g4 g5 g6 (Nat.le_trans hlen g7) g8 g9 g10 g11)
              · exact hfalse hS1
end MRX
def mHdk (q : Nat × Nat × List (Nat × Nat × Nat × Nat)) : Bool := match mmeth q.1 with
  | some y => decide (lw_tbl[q.2.1]? = some (.codeWith y.1 y.2.1 y.2.2.1 y.2.2.2.1 q.2.2)) && (plainName y.1.cls && decide (y.2.2.2.2.1 = y.1.cls))
  | none => true
set_option maxRecDepth 100000 in
theorem mHdk_ok : mHds.all mHdk = true := by decide +kernel
theorem mhof_in {k : Nat} {hd0 : Nat × List (Nat × Nat × Nat × Nat)} (h : mhof k = some hd0) : (k, hd0) ∈ mHds := by
  unfold mhof at h
  obtain ⟨q, hq, hn⟩ := Option.map_eq_some_iff.mp h
  have h1 := List.find?_some hq
  have h2 := List.mem_of_find?_eq_some hq
  have h3 : q.1 = k := beq_iff_eq.mp h1
  obtain ⟨q1, q2⟩ := q
  dsimp only at h3 hn
  rw [← h3, ← hn]
  exact h2
theorem mhof_ok {k : Nat} {hd0 : Nat × List (Nat × Nat × Nat × Nat)} {y : mMth} (h : mhof k = some hd0) (hy : mmeth k = some y) : plainName y.1.cls = true ∧ y.2.2.2.2.1 = y.1.cls := by
  have h1 := List.all_eq_true.mp mHdk_ok _ (mhof_in h)
  simp only [mHdk, hy, Bool.and_eq_true, decide_eq_true_eq] at h1
  exact ⟨h1.2.1, h1.2.2⟩
def mwsX (y : mMth) (hh : List (Nat × Nat × Nat × Nat)) : List Cond := Cond.codeWith y.1 y.2.1 y.2.2.1 y.2.2.2.1 hh :: mTBL
def mPcX (D : va_G) (cy : Nat → ClassId) (E : mE) (ad : Nat → Nat) (as : List Value) (h : List mO) (sz : Nat) : Array Value → State → Prop := fun a s => mPc D cy E ad as h sz a s ∧ mXs (va_A (mW cy ad E.length h) sz) s ∧ ∀ q ∈ mNc, va_Nc q.1 q.2 s
set_option maxHeartbeats 4000000 in
theorem met_of_runX {l : Launch} (htr : l.stackTraces = false) {D : va_G} {cy : Nat → ClassId} {E : mE} {call : Nat → mS → Option mS} (hEw : mEw E) (hcall : mCallOk l D cy E call) {n k : Nat} {y : mMth} {hd0 : Nat × List (Nat × Nat × Nat × Nat)} {as : List Value} {h : List mO} {S1 : mS} {v : Option Value} (hy : mmeth k = some y) (hho : mhof k = some hd0) (hlen : (lg_sl as).length ≤ y.2.2.1) (hwa : wfL (E.length + h.length) as) (hwh : wfH E.length h) (hrun : mrunX E (mrunF E call) n (ment k as h) = some S1) (hret : mretv S1 = some v) (ad : Nat → Nat) (sz : Nat) :
    Met l y.1 (mwsX y hd0.2) (mrm y S1.2.2.1 S1.2.2.2) (mPcX D cy E ad as h sz) (mQc D cy E ad h sz S1.2.1 v) S1.2.2.1 S1.2.2.2 (va_A (mW cy ad E.length h) sz) := by
  obtain ⟨b5, b7⟩ := mhof_ok hho hy
  refine va_MetW (hh := hd0.2) (cc := y.2.1) (maxL := y.2.2.1) (ret := y.2.2.2.1) b5 rfl ?_
  intro p e s m args below meth c s₁ B hml hv
  obtain ⟨⟨rfl, hsz, hP, hK, hD0, hE, hN⟩, hXs, hNc⟩ := hv
  have hts0 := atoms_spec (ws := mwsX y hd0.2) B.pre
  have hts : ∀ w ∈ mTBL, w.before (as.map (trV ad)).toArray s = true := fun w hw => hts0 w (List.mem_cons_of_mem _ hw)
  have hown : s.vm.findClass y.1.cls = some m.cls := findClass_of_methodNamed B.named
  have hnm : meth.name = y.1.name := (name_of_methodNamed B.named B.method).1
  have hlocks := B.notSynchronized
  have hr := B.returns
  subst hsz
  have hD := hD0.self (sz := s.heap.size)
  have hA : ∀ q : Nat, s.heap.size ≤ q → va_A (mW cy ad E.length h) s.heap.size q := fun q hq9 => Or.inr hq9
  have hl := lv_entry (as.map (trV ad)) (n := y.2.2.1) (by rw [lg_sl_tr]; exact hlen)
  rw [lg_entry_eq]
  generalize (lg_sl (as.map (trV ad)) ++ List.replicate (y.2.2.1 - (lg_sl (as.map (trV ad))).length) Slot.unset).toArray = ls at hl ⊢
  rw [lv_args_tr] at hl
  have htb : c.exceptionTable.toList = tableOf hd0.2 := vx_table (x := y.1) B (hts0 _ List.mem_cons_self)
  refine sim_runX (j0 := k) (R := (headSpec (mwsX y hd0.2) (mrm y S1.2.2.1 S1.2.2.2)).room) (A := va_A (mW cy ad E.length h) s.heap.size) htr hEw hcall hho htb B.exec B.bytes hml hts (b7 ▸ hown) hnm (Nat.le_refl _) (Nat.le_refl _) hK hA hN hXs hNc n _ S1 hrun rfl hy (Nat.le_refl _) (Nat.le_refl _) s.heap [] ls ad hE hP hD va_S.rf hwh (lv_args_wf hwa 0) (fun v hv => by cases hv) hl ?_
  intro ad' H' locs' ls' e' hag hP' hD' hS' hw' hws' hlen' hj he' ht' hl'
  have hjk : S1.1.1 = k := hj
  obtain ⟨-, -, hd⟩ := mIns_ok (by rw [hjk]; exact hy) he'
  have hpc : e'.1 = S1.1.2.1 := (mlook_mem he').2
  rw [hpc] at hd
  unfold mretv at hret
  rw [he', hjk, hy] at hret
  dsimp only at hret
  obtain ⟨⟨j1, pc1, lv1, st1⟩, h1, nc1, ns1⟩ := S1
  obtain ⟨pc2, i2, n2, a2, bb2, k2⟩ := e'
  obtain ⟨y1, y2, y3, y4, y5⟩ := y
  dsimp only at *
  have hq9 : ∀ v9 : Option Value, (∀ x, v9 = some x → wfV (E.length + h1.length) x) → ∀ t : State, t.heap = H' → s.WarmedH t.vm → mQc D cy E ad h s.heap.size h1 v9 (as.map (trV ad)).toArray s (.returned (v9.map (trV ad'))) t := by
    intro v9 hwv t ht hW
    exact ⟨⟨ad', hag, rfl, by rw [ht]; exact hP', hD'⟩, ⟨hlen', hw', hwv⟩, hS'.F ht⟩
  split at hret
  · rename_i x ty
    split at hret
    · rename_i hn; cases hret
      exact W.zret B.exec B.bytes hr hn (hq9 (some (.int x)) (fun z hz => by cases hz; trivial)) hS'.2.2 hd
    · exact hfalse hret
  · rename_i x
    cases hret
    exact W.lret B.exec B.bytes hr (hq9 (some (.long x)) (fun z hz => by cases hz; trivial)) hS'.2.2 hd
  · rename_i x
    cases hret
    exact W.dret B.exec B.bytes hr (hq9 (some (.double x)) (fun z hz => by cases hz; trivial)) hS'.2.2 hd
  · rename_i x o
    cases hret
    exact W.aret B.exec B.bytes hr (Or.inl ⟨_, rfl⟩) (Or.inr ⟨_, rfl⟩) (hq9 (some (.ref x)) (fun z hz => by cases hz; exact hws'.h)) hS'.2.2 hd
  · rename_i x o
    cases hret
    exact W.aret B.exec B.bytes hr (Or.inr ⟨_, rfl⟩) (Or.inr ⟨_, rfl⟩) (hq9 (some (.ref x)) (fun z hz => by cases hz; exact hws'.h)) hS'.2.2 hd
  · cases hret
    exact W.vret B.exec B.bytes hr (hq9 none (fun z hz => by cases hz)) hS'.2.2 hd
  · exact hfalse hret
