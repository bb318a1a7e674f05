/-! ===== the law's level: static calls of methods with handlers, and all other calls ===== -/
def mHdf (q : Nat × Nat × List (Nat × Nat × Nat × Nat)) : Bool := match mmeth q.1, mPos[q.1]? with
  | some y, some z => decide (lw_tbl[q.2.1]? = some (.codeWith y.1 y.2.1 y.2.2.1 y.2.2.2.1 q.2.2)) && (decide (lw_tbl[z.2.1]? = some (.static y.1)) && (decide (lw_tbl[z.2.2.2.1]? = some (.initialized y.1.cls)) && decide (y.1.cls ≠ "java/lang/invoke/MethodHandle" ∧ y.1.cls ≠ "java/lang/invoke/VarHandle" ∧ (parseMethodDescriptor y.1.desc).map (fun d => d.parameters.length) = some z.2.2.2.2.2)))
  | _, _ => true
set_option maxRecDepth 100000 in
theorem mHdf_ok : mHds.all mHdf = true := by decide +kernel
theorem mhof_f {k : Nat} {hd0 : Nat × List (Nat × Nat × Nat × Nat)} {y : mMth} {z : Nat × Nat × Nat × Nat × Bool × Nat} (h : mhof k = some hd0) (hy : mmeth k = some y) (hz : mPos[k]? = some z) : Cond.codeWith y.1 y.2.1 y.2.2.1 y.2.2.2.1 hd0.2 ∈ mTBL ∧ Cond.static y.1 ∈ mTBL ∧ Cond.initialized y.1.cls ∈ mTBL ∧ (y.1.cls ≠ "java/lang/invoke/MethodHandle" ∧ y.1.cls ≠ "java/lang/invoke/VarHandle" ∧ (parseMethodDescriptor y.1.desc).map (fun d => d.parameters.length) = some z.2.2.2.2.2) := by
  have h1 := List.all_eq_true.mp mHdf_ok _ (mhof_in h)
  simp only [mHdf, hy, hz, Bool.and_eq_true, decide_eq_true_eq] at h1
  obtain ⟨a1, a2, a3, a4⟩ := h1
  exact ⟨mTBL_of a1 rfl, mTBL_of a2 rfl, mTBL_of a3 rfl, a4⟩
theorem mwsX_in {big : List Cond} (hb : ∀ w ∈ mTBL, w ∈ big) {y : mMth} {hh : List (Nat × Nat × Nat × Nat)} (hc : Cond.codeWith y.1 y.2.1 y.2.2.1 y.2.2.2.1 hh ∈ mTBL) : GoodIn big (mwsX y hh) := by
  intro w hw
  rcases List.mem_cons.mp hw with e1 | e1
  · subst e1
    exact ⟨hb _ hc, good_of_word (List.mem_filter.mp hc).2⟩
  · exact ⟨hb _ e1, good_of_word (List.mem_filter.mp e1).2⟩
theorem mPcX_blind {D : va_G} {cy : Nat → ClassId} {E : mE} {ad : Nat → Nat} {as : List Value} {h : List mO} {sz : Nat} : FrameBlind (mPcX D cy E ad as h sz) := by
  intro a U g mk hq
  obtain ⟨q1, q2, q3⟩ := hq
  have h1 := mXs_blind (D := D) (cy := cy) (E := E) (ad := ad) (as := as) (h := h) (sz := sz) (A := va_A (mW cy ad E.length h) sz) a U g mk ⟨q1, q2⟩
  exact ⟨h1.1, h1.2, fun z hz => va_Nc.moved (u := U) (U := U.calling g mk a) (Vm.Alike.refl U.vm) (q3 z hz)⟩
def mcalleeX (e : mIns) (st : List Value) : Option (Nat × List Value × List Value) := match e.2.1, mPos[e.2.2.2.1]?, mmeth e.2.2.2.1 with
  | .invokestatic _, some q, some y => if (mhof e.2.2.2.1).isSome = true ∧ e.2.2.1 = 0 ∧ q.2.2.2.2.2 ≤ st.length ∧ mwords (st.drop q.2.2.2.2.2) ≤ 8 ∧ (lg_sl (st.take q.2.2.2.2.2).reverse).length ≤ y.2.2.1 then some (e.2.2.2.1, (st.take q.2.2.2.2.2).reverse, st.drop q.2.2.2.2.2) else none
  | _, _, _ => none
/-- runs of the law -/
def mrunL (E : mE) (c0 : Nat → mS → Option mS) : Nat → mS → Option mS
  | 0, _ => none
  | n + 1, S => match mlook (mcode S.1.1) S.1.2.1 with
    | none => none
    | some e => if mterm e = true then some S else (if minv e = true then (if 990 < e.2.2.2.1 then (match mspec S.1.1 e S.1.2.2.2 with
        | none => none
        | some r => mrunL E c0 n ((S.1.1, r.1, S.1.2.2.1, r.2), S.2)) else (match mcalleeX e S.1.2.2.2 with
        | some r => if mfits S.1.1 r.1 = true then (match mrunX E (mrunF E c0) n (ment r.1 r.2.1 S.2.1) with
          | none => none
          | some S1 => (match mretv S1 with
            | none => none
            | some v => mrunL E c0 n ((S.1.1, e.1 + 3, S.1.2.2.1, v.toList ++ r.2.2), (S1.2.1, S.2.2.1 + S1.2.2.1, S.2.2.2 + S1.2.2.2)))) else none
        | none => (match mcallee E e S.1.2.2.2 S.2.1 with
          | none => none
          | some r => if mfits S.1.1 r.1 = true then (match mrunF E c0 n (ment r.1 r.2.1 S.2.1) with
            | none => none
            | some S1 => (match mretv S1 with
              | none => none
              | some v => mrunL E c0 n ((S.1.1, e.1 + 3, S.1.2.2.1, v.toList ++ r.2.2), (S1.2.1, S.2.2.1 + S1.2.2.1, S.2.2.2 + S1.2.2.2)))) else none))) else (match mstep E e S with
        | none => none
        | some S1 => mrunL E c0 n S1))
theorem mrunL_mono {E : mE} {c0 : Nat → mS → Option mS} : ∀ (n : Nat) (S S' : mS), mrunL E c0 n S = some S' → S.2.2.1 ≤ S'.2.2.1 ∧ S.2.2.2 ≤ S'.2.2.2 := by
  intro n
  induction n with
  | zero => intro S S' h; cases h
  | succ n ih =>
    intro S S' h
    unfold mrunL at h
    split at h
    · exact hfalse h
    · rename_i e he; split at h
      · cases h; exact ⟨Nat.le_refl _, Nat.le_refl _⟩
      · split at h
        · split at h
          · split at h
            · exact hfalse h
            · have h1 := ih _ _ h
              exact h1
          · split at h
            · split at h
              · split at h
                · exact hfalse h
                · split at h
                  · exact hfalse h
                  · have h1 := ih _ _ h
                    dsimp only at h1
                    exact ⟨by omega, by omega⟩
              · exact hfalse h
            · split at h
              · exact hfalse h
              · split at h
                · split at h
                  · exact hfalse h
                  · split at h
                    · exact hfalse h
                    · have h1 := ih _ _ h
                      dsimp only at h1
                      exact ⟨by omega, by omega⟩
                · exact hfalse h
        · split at h
          · exact hfalse h
          · rename_i S1 hS1
            have h1 := ih _ _ h
            have h2 : S.2.2.1 ≤ S1.2.2.1 ∧ S.2.2.2 ≤ S1.2.2.2 := by
              unfold mstep at hS1
              split at hS1
              · split at hS1
                · cases hS1; exact ⟨Nat.le_refl _, Nat.le_refl _⟩
                · split at hS1
                  · rename_i r hr; cases hS1; exact mheap_mono hr
                  · exact hfalse hS1
              · exact hfalse hS1
            exact ⟨Nat.le_trans h2.1 h1.1, Nat.le_trans h2.2 h1.2⟩
section MRL
variable {p : Program} {l : Launch} {e : Env} {R : Room} {s : State} {m : MethodId} {args : Array Value} {below : List Frame} {meth : Method} {c : Code} {Q : State → Prop}
set_option maxHeartbeats 4000000 in
/-- a static call of a method with handlers -/
theorem m_runX {H : Heap} {locs : List Loc} {cells slots : Nat} {cc : ByteArray} {nL : Nat} (htr : l.stackTraces = false) {D : va_G} {cy : Nat → ClassId} {E : mE} {call : Nat → mS → Option mS} (hEw : mEw E) (hcall : mCallOk l D cy E call) (hx : p.tables.exec = Jvm.exec) (hb : c.code = cc) (hml : c.maxLocals = nL) (hts : ∀ w ∈ mTBL, w.before args s = true) {own : String} (hown : s.vm.findClass own = some m.cls)
    {ad : Nat → Nat} {A : Nat → Prop} {i : mIns} {st : List Value} {h : List mO} {ls : Array Slot} {x : mMth} {j k n : Nat} {as rest : List Value} {S1 : mS} {v : Option Value} (hsz : ls.size = nL) (hck : mchkI own i = true) (hd : decode cc i.1 = .ok (i.2.1, mlen i.2.1 i.2.2.1))
    (hK : va_K D mCl (mT cy) s) (hP : va_P D mCl (mW cy ad E.length h) H) (hD : va_D A (mW cy ad E.length h)) (hS : va_S A s.heap H locs) (hA : ∀ q, s.heap.size ≤ q → A q) (hE : mEx D E ad A s s.heap) (hN : mNs s) (hXs : mXs A s) (hNc : ∀ q ∈ mNc, va_Nc q.1 q.2 s) (hw : wfH E.length h) (hws : wfL (E.length + h.length) st)
    (hi : i.2.2.2.1 ≤ 990) (hx0 : mmeth j = some x) (hR1 : x.2.2.2.2.2.1 ≤ R.frames) (hR2 : x.2.2.2.2.2.2 ≤ R.locals)
    (hc : mcalleeX i st = some (k, as, rest)) (hf : mfits j k = true) (hrun : mrunX E (mrunF E call) n (ment k as h) = some S1) (hret : mretv S1 = some v) (hR : cells + S1.2.2.1 ≤ R.cells ∧ slots + S1.2.2.2 ≤ R.slots) :
    wfL (E.length + h.length) rest ∧ ∃ a : Array Value, va_Run p l e R s m args below meth c H locs cells slots S1.2.2.1 S1.2.2.2 (F0 m i.1 ls (st.map (trV ad))) (rest.map (trV ad)) (mQc D cy E ad h H.size S1.2.1 v a) (va_A (mW cy ad E.length h) H.size) := by
  have hin : ∀ w ∈ mTBL, w ∈ mTBL := fun _ h9 => h9
  unfold mcalleeX at hc
  split at hc
  · rename_i idx q y hi9 hq hy
    split at hc
    · rename_i hcond; obtain ⟨c1, c2, hlen, c3, c4⟩ := hcond
      obtain ⟨hd0, hho⟩ := Option.isSome_iff_exists.mp c1
      obtain ⟨b1, b2, b4, b6⟩ := mhof_f hho hy hq
      have htk : (st.take q.2.2.2.2.2).length = q.2.2.2.2.2 := by rw [List.length_take]; omega
      have hwt : wfL (E.length + h.length) (st.take q.2.2.2.2.2).reverse := fun v9 h9 => hws v9 (List.mem_of_mem_take (List.mem_reverse.mp h9))
      have hwd : wfL (E.length + h.length) (st.drop q.2.2.2.2.2) := fun v9 h9 => hws v9 (List.mem_of_mem_drop h9)
      have hAn : ((st.take q.2.2.2.2.2).reverse.map (trV ad)).length = q.2.2.2.2.2 := by rw [List.length_map, List.length_reverse, htk]
      obtain ⟨pc, ins, n9, a9, b9, k9⟩ := i
      dsimp only at *
      subst hi9
      cases hc
      refine ⟨hwd, ((st.take q.2.2.2.2.2).reverse.map (trV ad)).toArray, ?_⟩
      have hRy : y.2.2.2.2.2.1 + 1 ≤ R.frames ∧ 8 + (y.2.2.1 + 11) + y.2.2.2.2.2.2 ≤ R.locals := by
        simp only [mfits, hx0, hy, Bool.and_eq_true, decide_eq_true_eq] at hf
        exact ⟨by omega, by omega⟩
      have hM := met_of_runX htr hEw hcall hy hho c4 hwt hw hrun hret ad H.size
      simp only [mchkI, hy, c2, if_true, if_neg (show ¬ k = 997 by omega), if_neg (show ¬ k = 996 by omega), decide_eq_true_eq] at hck
      have hAA := m_AA hD hS hA
      have hpre : ∀ U : State, U.heap = H → s.WarmedH U.vm → mPcX D cy E ad (st.take q.2.2.2.2.2).reverse h H.size (((st.take q.2.2.2.2.2).reverse).map (trV ad)).toArray U := fun U hU hW => ⟨m_pre hK hP hD hS hA hE hN _ U hU hW, mXs_warm hS hW hU hAA hXs, fun z hz => va_Nc.moved hW.alike (hNc z hz)⟩
      refine vx_runSW (Ts := mTBL) ⟨hx, hb, hml, hown, hts⟩ hM (vx_cwSW q.2.2.2.2.2 hts (mgood_cons (mTBL_of hck rfl) hin (mgood_cons b2 hin (mgood_cons b4 hin (mwsX_in hin b1)))) rfl rfl rfl b6 hRy) ⟨mPcX_blind, hpre⟩ rfl hAn hsz mk_split0 (lv_room (by rw [mwords_tr]; exact c3)) hd hR
    · exact hfalse hc
  · exact hfalse hc
set_option maxHeartbeats 4000000 in
theorem sim_runL {D : va_G} {cy : Nat → ClassId} {E : mE} {call : Nat → mS → Option mS} (htr : l.stackTraces = false) (hEw : mEw E) (hcall : mCallOk l D cy E call) {A : Nat → Prop} {y : mMth} (hx : p.tables.exec = Jvm.exec) (hb : c.code = y.2.1) (hml : c.maxLocals = y.2.2.1) (hts : ∀ w ∈ mTBL, w.before args s = true) (hown : s.vm.findClass y.2.2.2.2.1 = some m.cls) (hnm : meth.name = y.1.name) (hR1 : y.2.2.2.2.2.1 ≤ R.frames) (hR2 : y.2.2.2.2.2.2 ≤ R.locals)
    (hK : va_K D mCl (mT cy) s) (hA : ∀ q, s.heap.size ≤ q → A q) (hN : mNs s) (hXs : mXs A s) (hNc : ∀ q ∈ mNc, va_Nc q.1 q.2 s) : ∀ (n : Nat) (S S' : mS), mrunL E call n S = some S' → mmeth S.1.1 = some y → S'.2.2.1 ≤ R.cells → S'.2.2.2 ≤ R.slots → ∀ (H : Heap) (locs : List Loc) (ls : Array Slot) (ad : Nat → Nat), mEx D E ad A s s.heap → va_P D mCl (mW cy ad E.length S.2.1) H → va_D A (mW cy ad E.length S.2.1) → va_S A s.heap H locs → wfH E.length S.2.1 → wfLv (E.length + S.2.1.length) S.1.2.2.1 → wfL (E.length + S.2.1.length) S.1.2.2.2 → lv_has ls y.2.2.1 (trL ad S.1.2.2.1) →
    (∀ (ad' : Nat → Nat) (H' : Heap) (locs' : List Loc) (ls' : Array Slot) (e' : mIns), agr (E.length + S.2.1.length) ad ad' → va_P D mCl (mW cy ad' E.length S'.2.1) H' → va_D A (mW cy ad' E.length S'.2.1) → va_S A s.heap H' locs' → wfH E.length S'.2.1 → wfL (E.length + S'.2.1.length) S'.1.2.2.2 → S.2.1.length ≤ S'.2.1.length → S'.1.1 = S.1.1 → mlook (mcode S'.1.1) S'.1.2.1 = some e' → mterm e' = true → lv_has ls' y.2.2.1 (trL ad' S'.1.2.2.1) → W p l e R s m args below meth c H' locs' S'.2.2.1 S'.2.2.2 Q (F0 m S'.1.2.1 ls' (S'.1.2.2.2.map (trV ad')))) →
    W p l e R s m args below meth c H locs S.2.2.1 S.2.2.2 Q (F0 m S.1.2.1 ls (S.1.2.2.2.map (trV ad))) := by
  intro n
  induction n with
  | zero => intro S S' h; cases h
  | succ n ih =>
    intro S S' h hy hc9 hs9 H locs ls ad hE hP hD hS hw hwl hws hl land
    obtain ⟨⟨j, pc, lv, st⟩, h0, nc, ns⟩ := S
    dsimp only at *
    have hmono := mrunL_mono _ _ _ h
    dsimp only at hmono
    unfold mrunL at h
    split at h
    · exact hfalse h
    · rename_i i hi
      dsimp only at hi h
      obtain ⟨k1, k2, k3⟩ := mIns_ok hy hi
      have hpc : i.1 = pc := (mlook_mem hi).2
      subst hpc
      split at h
      · rename_i ht
        cases h
        exact land ad H locs ls i agr.rf hP hD hS hw hws (Nat.le_refl _) rfl hi ht hl
      · split at h
        · split at h
          · rename_i h990
            split at h
            · exact hfalse h
            · rename_i r hr
              obtain ⟨pc2, st2⟩ := r
              exact spec_ok hx hb (hml.trans hl.1.symm) hts hown hy hR1 hR2 (Nat.le_trans hmono.1 hc9) (Nat.le_trans hmono.2 hs9) k1 k3 hr hws (fun hws2 => ih _ _ h hy hc9 hs9 H locs ls ad hE hP hD hS hw hwl hws2 hl land)
          · rename_i h990
            split at h
            · rename_i r hr
              obtain ⟨k, as, rest⟩ := r
              split at h
              · rename_i hf
                split at h
                · exact hfalse h
                · rename_i S1 hS1
                  split at h
                  · exact hfalse h
                  · rename_i v hv
                    have hm2 := mrunL_mono _ _ _ h
                    dsimp only at hm2
                    obtain ⟨hwr, a, hrun⟩ := m_runX htr hEw hcall hx hb hml hts hown hl.1 k1 k3 hK hP hD hS hA hE hN hXs hNc hw hws (by omega) hy hR1 hR2 hr hf hS1 hv ⟨Nat.le_trans hm2.1 hc9, Nat.le_trans hm2.2 hs9⟩
                    refine m_back hw hrun hS (m_AA hD hS hA) (fun ad' H1 locs1 hag hP1 hD1 hS1' hlen hw1 hwv => ?_)
                    have hk := ih _ _ h hy hc9 hs9 H1 locs1 ls ad' (hE.agr hEw (fun q hq => hag q (by omega))) hP1 hD1 hS1' hw1 (hwl.up (by dsimp only; omega)) (by
                      intro x hx9
                      rcases List.mem_append.mp hx9 with e1 | e1
                      · cases v with
                        | none => cases e1
                        | some z =>
                          rw [List.mem_singleton.mp (show x ∈ [z] from e1)]
                          exact hwv z rfl
                      · exact (hwr x e1).up (by dsimp only; omega)) (by rw [trL_agr hwl hag]; exact hl)
                      (fun ad2 H2 locs2 ls2 e2 g1 g2 g3 g4 g5 g6 g7 g8 g9 g10 g11 => land ad2 H2 locs2 ls2 e2 (hag.tr (by dsimp only; omega) g1) g2 g3 g4 g5 g6 (Nat.le_trans hlen g7) g8 g9 g10 g11)
                    dsimp only at hk
                    rw [List.map_append, map_agr hwr hag] at hk
                    have hv9 : v.toList.map (trV ad') = (v.map (trV ad')).toList := by cases v <;> rfl
                    rw [hv9] at hk
                    exact hk
              · exact hfalse h
            · split at h
              · exact hfalse h
              · rename_i r hr
                obtain ⟨k, as, rest⟩ := r
                split at h
                · rename_i hf
                  split at h
                  · exact hfalse h
                  · rename_i S1 hS1
                    split at h
                    · exact hfalse h
                    · rename_i v hv
                      have hm2 := mrunL_mono _ _ _ h
                      dsimp only at hm2
                      obtain ⟨hwr, a, hrun⟩ := m_run (met_of_run hEw hcall) hx hb hml hts hown hl.1 k1 k3 hK hP hD hS hA hE hN hw hws (by omega) hy hR1 hR2 hr hf hS1 hv ⟨Nat.le_trans hm2.1 hc9, Nat.le_trans hm2.2 hs9⟩
                      refine m_back hw hrun hS (m_AA hD hS hA) (fun ad' H1 locs1 hag hP1 hD1 hS1' hlen hw1 hwv => ?_)
                      have hk := ih _ _ h hy hc9 hs9 H1 locs1 ls ad' (hE.agr hEw (fun q hq => hag q (by omega))) hP1 hD1 hS1' hw1 (hwl.up (by dsimp only; omega)) (by
                        intro x hx9
                        rcases List.mem_append.mp hx9 with e1 | e1
                        · cases v with
                          | none => cases e1
                          | some z =>
                            rw [List.mem_singleton.mp (show x ∈ [z] from e1)]
                            exact hwv z rfl
                        · exact (hwr x e1).up (by dsimp only; omega)) (by rw [trL_agr hwl hag]; exact hl)
                        (fun ad2 H2 locs2 ls2 e2 g1 g2 g3 g4 g5 g6 g7 g8 g9 g10 g11 => land ad2 H2 locs2 ls2 e2 (hag.tr (by dsimp only; omega) g1) g2 g3 g4 g5 g6 (Nat.le_trans hlen g7) g8 g9 g10 g11)
                      dsimp only at hk
                      rw [List.map_append, map_agr hwr hag] at hk
                      have hv9 : v.toList.map (trV ad') = (v.map (trV ad')).toList := by cases v <;> rfl
                      rw [hv9] at hk
                      exact hk
                · exact hfalse h
        · split at h
          · exact hfalse h
          · rename_i S1 hS1
            have hm2 := mrunL_mono _ _ _ h
            unfold mstep at hS1
            dsimp only at hS1
            rw [hy] at hS1
            dsimp only at hS1
            split at hS1
            · rename_i r hr
              cases hS1
              obtain ⟨pc2, lv2, st2⟩ := r
              obtain ⟨w1, w2⟩ := pure_wf hr hwl hws
              exact sd_pure hx hb hr k3 hl (fun ls' hl' => ih _ _ h hy hc9 hs9 H locs ls' ad hE hP hD hS hw w1 w2 hl' land)
            · split at hS1
              · rename_i r hr
                cases hS1
                obtain ⟨pc2, st2, h2⟩ := r
                dsimp only at hm2
                refine sd_heap (h := (h0, nc, ns)) (init := decide (y.1.name = "<init>")) hx hb hts hown (fun hh => hnm.trans (of_decide_eq_true hh)) hEw k2 k3 hK hP hD hS hA hE hw hws hr ⟨Nat.le_trans hm2.1 hc9, Nat.le_trans hm2.2 hs9⟩ (fun t9 ty ht9 hty => hts _ (mTys_ok t9 ty ht9 hty)) hN (hml.trans hl.1.symm) (fun hn9 => ⟨Nat.le_trans (mIns_room hy hi hn9).1 hR1, Nat.le_trans (mIns_room hy hi hn9).2 hR2⟩) (fun ad' H' locs' hag hP' hD' hS' hw' hws' hlen => ?_)
                exact ih _ _ h hy hc9 hs9 H' locs' ls ad' (hE.agr hEw (fun q hq => hag q (by omega))) hP' hD' hS' hw' (hwl.up (by dsimp only at hlen ⊢; omega)) hws' (by rw [trL_agr hwl hag]; exact hl)
                  (fun ad2 H2 locs2 ls2 e2 g1 g2 g3 g4 g5 g6 g7 g8 g9 g10 g11 => land ad2 H2 locs2 ls2 e2 (hag.tr (by dsimp only at hlen ⊢; omega) g1) g2 g3 g4 g5 g6 (Nat.le_trans hlen g7) g8 g9 g10 g11)
              · exact hfalse hS1
end MRL
