/-! ===== whole runs ===== -/
section MR
variable {p : Program} {l : Launch} {e : Env} {R : Room} {s : State} {m : MethodId} {args : Array Value} {below : List Frame} {meth : Method} {c : Code} {Q : State → Prop}
theorem spec_ok {cc : ByteArray} (hx : p.tables.exec = Jvm.exec) (hb : c.code = cc) {ls : Array Slot} (hml : c.maxLocals = ls.size) (hts : ∀ w ∈ mTBL, w.before args s = true) {own : String} (hown : s.vm.findClass own = some m.cls) {H : Heap} {locs : List Loc} {cells slots : Nat} {ad : Nat → Nat} {i : mIns} {st st' : List Value} {j pc' n : Nat} {y : mMth} (hy : mmeth j = some y) (hR1 : y.2.2.2.2.2.1 ≤ R.frames) (hR2 : y.2.2.2.2.2.2 ≤ R.locals) (hc : cells ≤ R.cells) (hs : slots ≤ R.slots)
    (hck : mchkI own i = true) (hd : decode cc i.1 = .ok (i.2.1, mlen i.2.1 i.2.2.1)) (hp : mspec j i st = some (pc', st')) (hw : wfL n st) (kk : wfL n st' → W p l e R s m args below meth c H locs cells slots Q (F0 m pc' ls (st'.map (trV ad)))) : W p l e R s m args below meth c H locs cells slots Q (F0 m i.1 ls (st.map (trV ad))) := by
  obtain ⟨pc, ins, n9, a9, b9, k9⟩ := i
  have hM := mMath_ok
  simp only [mMathOk, Bool.and_eq_true, Bool.or_eq_true, decide_eq_true_eq] at hM
  obtain ⟨hM1, hM2, hM3⟩ := hM
  simp only [mspec, hy] at hp
  split at hp
  · rename_i idx q r
    split at hp
    · rename_i hcond; obtain ⟨c1, c2, c3⟩ := hcond
      cases hp
      simp only [mchkI, c1, if_true, decide_eq_true_eq] at hck
      refine W.objInit hx hb hown (hts _ (mTBL_of hck rfl)) (hts _ mObj_ok.1) (hts _ mObj_ok.2) rfl hml.symm rfl hd (Nat.le_trans c2 hR1) ?_ (kk hw.t)
      have h1 := mwords_tr ad st'
      show 2 * 0 + _ + 12 ≤ _
      omega
    · exact hfalse hp
  · rename_i idx b a r
    split at hp
    · rename_i hcond; obtain ⟨c2, c3⟩ := hcond
      have h1 := mwords_tr ad r
      have hw2 : ∀ z : Int32, wfL n (.int z :: r) := fun z => hw.t.t.c trivial
      split at hp
      · rename_i h0; obtain ⟨c1, c4⟩ := h0
        cases hp
        simp only [mchkI, c1, if_true, decide_eq_true_eq] at hck
        rcases hM2 with hM2 | hM2
        · exact absurd hM2 c4
        · exact va_mmin hx hb hml hown (hts _ (mTBL_of hck rfl)) (hts _ (mTBL_of hM2.1 rfl)) (hts _ (mTBL_of hM3 rfl)) (hts _ (mTBL_of hM2.2 rfl)) (Nat.le_trans c2 hR1) (by omega) hc hs hd (kk (hw2 _))
      · split at hp
        · rename_i h0; obtain ⟨c1, c4⟩ := h0
          cases hp
          simp only [mchkI, c1, if_neg (show ¬ (996 : Nat) = 997 by decide), if_true, decide_eq_true_eq] at hck
          rcases hM1 with hM1 | hM1
          · exact absurd hM1 c4
          · exact va_mmax hx hb hml hown (hts _ (mTBL_of hck rfl)) (hts _ (mTBL_of hM1.1 rfl)) (hts _ (mTBL_of hM3 rfl)) (hts _ (mTBL_of hM1.2 rfl)) (Nat.le_trans c2 hR1) (by omega) hc hs hd (kk (hw2 _))
        · exact hfalse hp
    · exact hfalse hp
  · exact hfalse hp
set_option maxHeartbeats 4000000 in
theorem sim_run {D : va_G} {cy : Nat → ClassId} {E : mE} {call : Nat → mS → Option mS} (hEw : mEw E) (hcall : mCallOk l D cy E call) {A : Nat → Prop} {y : mMth} (hx : p.tables.exec = Jvm.exec) (hb : c.code = y.2.1) (hml : c.maxLocals = y.2.2.1) (hts : ∀ w ∈ mTBL, w.before args s = true) (hown : s.vm.findClass y.2.2.2.2.1 = some m.cls) (hnm : meth.name = y.1.name) (hR1 : y.2.2.2.2.2.1 ≤ R.frames) (hR2 : y.2.2.2.2.2.2 ≤ R.locals)
    (hK : va_K D mCl (mT cy) s) (hA : ∀ q, s.heap.size ≤ q → A q) (hN : mNs s) : ∀ (n : Nat) (S S' : mS), mrunF E call n S = some S' → mmeth S.1.1 = some y → S'.2.2.1 ≤ R.cells → S'.2.2.2 ≤ R.slots → ∀ (H : Heap) (locs : List Loc) (ls : Array Slot) (ad : Nat → Nat), mEx D E ad A s s.heap → va_P D mCl (mW cy ad E.length S.2.1) H → va_D A (mW cy ad E.length S.2.1) → va_S A s.heap H locs → wfH E.length S.2.1 → wfLv (E.length + S.2.1.length) S.1.2.2.1 → wfL (E.length + S.2.1.length) S.1.2.2.2 → lv_has ls y.2.2.1 (trL ad S.1.2.2.1) →
    (∀ (ad' : Nat → Nat) (H' : Heap) (locs' : List Loc) (ls' : Array Slot) (e' : mIns), agr (E.length + S.2.1.length) ad ad' → va_P D mCl (mW cy ad' E.length S'.2.1) H' → va_D A (mW cy ad' E.length S'.2.1) → va_S A s.heap H' locs' → wfH E.length S'.2.1 → wfL (E.length + S'.2.1.length) S'.1.2.2.2 → S.2.1.length ≤ S'.2.1.length → S'.1.1 = S.1.1 → mlook (mcode S'.1.1) S'.1.2.1 = some e' → mterm e' = true → lv_has ls' y.2.2.1 (trL ad' S'.1.2.2.1) → W p l e R s m args below meth c H' locs' S'.2.2.1 S'.2.2.2 Q (F0 m S'.1.2.1 ls' (S'.1.2.2.2.map (trV ad')))) →
    W p l e R s m args below meth c H locs S.2.2.1 S.2.2.2 Q (F0 m S.1.2.1 ls (S.1.2.2.2.map (trV ad))) := by
  intro n
  induction n with
  | zero => intro S S' h; cases h
  | succ n ih =>
    intro S S' h hy hc9 hs9 H locs ls ad hE hP hD hS hw hwl hws hl land
    obtain ⟨⟨j, pc, lv, st⟩, h0, nc, ns⟩ := S
    dsimp only at *
    have hmono := mrun_mono _ _ _ h
    dsimp only at hmono
    unfold mrunF at h
    split at h
    · exact hfalse h
    · rename_i i hi
      dsimp only at hi h
      obtain ⟨k1, k2, k3⟩ := mIns_ok hy hi
      have hpc : i.1 = pc := (mlook_mem hi).2
      subst hpc
      split at h
      · rename_i ht
        cases h
        exact land ad H locs ls i agr.rf hP hD hS hw hws (Nat.le_refl _) rfl hi ht hl
      · split at h
        · split at h
          · rename_i h990
            split at h
            · exact hfalse h
            · rename_i r hr
              obtain ⟨pc2, st2⟩ := r
              exact spec_ok hx hb (hml.trans hl.1.symm) hts hown hy hR1 hR2 (Nat.le_trans hmono.1 hc9) (Nat.le_trans hmono.2 hs9) k1 k3 hr hws (fun hws2 => ih _ _ h hy hc9 hs9 H locs ls ad hE hP hD hS hw hwl hws2 hl land)
          · rename_i h990
            split at h
            · exact hfalse h
            · rename_i r hr
              obtain ⟨k, as, rest⟩ := r
              split at h
              · rename_i hf
                split at h
                · exact hfalse h
                · rename_i S1 hS1
                  split at h
                  · exact hfalse h
                  · rename_i v hv
                    have hm2 := mrun_mono _ _ _ h
                    dsimp only at hm2
                    obtain ⟨hwr, a, hrun⟩ := m_run hcall hx hb hml hts hown hl.1 k1 k3 hK hP hD hS hA hE hN hw hws (by omega) hy hR1 hR2 hr hf hS1 hv ⟨Nat.le_trans hm2.1 hc9, Nat.le_trans hm2.2 hs9⟩
                    refine m_back hw hrun hS (m_AA hD hS hA) (fun ad' H1 locs1 hag hP1 hD1 hS1' hlen hw1 hwv => ?_)
                    have hk := ih _ _ h hy hc9 hs9 H1 locs1 ls ad' (hE.agr hEw (fun q hq => hag q (by omega))) hP1 hD1 hS1' hw1 (hwl.up (by dsimp only; omega)) (by
                      intro x hx9
                      rcases List.mem_append.mp hx9 with e1 | e1
                      · cases v with
                        | none => cases e1
                        | some z =>
                          rw [List.mem_singleton.mp (show x ∈ [z] from e1)]
                          exact hwv z rfl
                      · exact (hwr x e1).up (by dsimp only; omega)) (by rw [trL_agr hwl hag]; exact hl)
                      (fun ad2 H2 locs2 ls2 e2 g1 g2 g3 g4 g5 g6 g7 g8 g9 g10 g11 => land ad2 H2 locs2 ls2 e2 (hag.tr (by dsimp only; omega) g1) g2 g3 g4 g5 g6 (Nat.le_trans hlen g7) g8 g9 g10 g11)
                    dsimp only at hk
                    rw [List.map_append, map_agr hwr hag] at hk
                    have hv9 : v.toList.map (trV ad') = (v.map (trV ad')).toList := by cases v <;> rfl
                    rw [hv9] at hk
                    exact hk
              · exact hfalse h
        · split at h
          · exact hfalse h
          · rename_i S1 hS1
            have hm2 := mrun_mono _ _ _ h
            unfold mstep at hS1
            dsimp only at hS1
            rw [hy] at hS1
            dsimp only at hS1
            split at hS1
            · rename_i r hr
              cases hS1
              obtain ⟨pc2, lv2, st2⟩ := r
              obtain ⟨w1, w2⟩ := pure_wf hr hwl hws
              exact sd_pure hx hb hr k3 hl (fun ls' hl' => ih _ _ h hy hc9 hs9 H locs ls' ad hE hP hD hS hw w1 w2 hl' land)
            · split at hS1
              · rename_i r hr
                cases hS1
                obtain ⟨pc2, st2, h2⟩ := r
                dsimp only at hm2
                refine sd_heap (h := (h0, nc, ns)) (init := decide (y.1.name = "<init>")) hx hb hts hown (fun hh => hnm.trans (of_decide_eq_true hh)) hEw k2 k3 hK hP hD hS hA hE hw hws hr ⟨Nat.le_trans hm2.1 hc9, Nat.le_trans hm2.2 hs9⟩ (fun t9 ty ht9 hty => hts _ (mTys_ok t9 ty ht9 hty)) hN (hml.trans hl.1.symm) (fun hn9 => ⟨Nat.le_trans (mIns_room hy hi hn9).1 hR1, Nat.le_trans (mIns_room hy hi hn9).2 hR2⟩) (fun ad' H' locs' hag hP' hD' hS' hw' hws' hlen => ?_)
                exact ih _ _ h hy hc9 hs9 H' locs' ls ad' (hE.agr hEw (fun q hq => hag q (by omega))) hP' hD' hS' hw' (hwl.up (by dsimp only at hlen ⊢; omega)) hws' (by rw [trL_agr hwl hag]; exact hl)
                  (fun ad2 H2 locs2 ls2 e2 g1 g2 g3 g4 g5 g6 g7 g8 g9 g10 g11 => land ad2 H2 locs2 ls2 e2 (hag.tr (by dsimp only at hlen ⊢; omega) g1) g2 g3 g4 g5 g6 (Nat.le_trans hlen g7) g8 g9 g10 g11)
              · exact hfalse hS1
end MR
set_option maxHeartbeats 4000000 in
/-- a machine whose calls are contracts: its runs are contracts -/
theorem met_of_run {l : Launch} {D : va_G} {cy : Nat → ClassId} {E : mE} {call : Nat → mS → Option mS} (hEw : mEw E) (hcall : mCallOk l D cy E call) : mCallOk l D cy E (mrunF E call) := by
  intro n k y q as h S1 v hy hq hq1 hlen hwa hwh hrun hret ad sz
  obtain ⟨b1, b2, b3, b4, b5, b6, b7⟩ := mMeth_ok hy hq hq1
  refine Met.ofW (cc := y.2.1) (maxL := y.2.2.1) (ret := y.2.2.2.1) b5 rfl ?_
  intro p e s m args below meth c s₁ B hml hv
  obtain ⟨rfl, hsz, hP, hK, hD0, hE, hN⟩ := hv
  have hts0 := atoms_spec (ws := mws y) B.pre
  have hts : ∀ w ∈ mTBL, w.before (as.map (trV ad)).toArray s = true := fun w hw => hts0 w (List.mem_cons_of_mem _ hw)
  have hown : s.vm.findClass y.1.cls = some m.cls := findClass_of_methodNamed B.named
  have hnm : meth.name = y.1.name := (name_of_methodNamed B.named B.method).1
  have hlocks := B.notSynchronized
  have hr := B.returns
  subst hsz
  have hD := hD0.self (sz := s.heap.size)
  have hA : ∀ q : Nat, s.heap.size ≤ q → va_A (mW cy ad E.length h) s.heap.size q := fun q hq9 => Or.inr hq9
  have hl := lv_entry (as.map (trV ad)) (n := y.2.2.1) (by rw [lg_sl_tr]; exact hlen)
  rw [lg_entry_eq]
  generalize (lg_sl (as.map (trV ad)) ++ List.replicate (y.2.2.1 - (lg_sl (as.map (trV ad))).length) Slot.unset).toArray = ls at hl ⊢
  rw [lv_args_tr] at hl
  refine sim_run (R := (headSpec (mws y) (mrm y S1.2.2.1 S1.2.2.2)).room) (A := va_A (mW cy ad E.length h) s.heap.size) hEw hcall B.exec B.bytes hml hts (b7 ▸ hown) hnm (Nat.le_refl _) (Nat.le_refl _) hK hA hN n _ S1 hrun hy (Nat.le_refl _) (Nat.le_refl _) s.heap [] ls ad hE hP hD va_S.rf hwh (lv_args_wf hwa 0) (fun v hv => by cases hv) hl ?_
  intro ad' H' locs' ls' e' hag hP' hD' hS' hw' hws' hlen' hj he' ht' hl'
  have hjk : S1.1.1 = k := hj
  obtain ⟨-, -, hd⟩ := mIns_ok (by rw [hjk]; exact hy) he'
  have hpc : e'.1 = S1.1.2.1 := (mlook_mem he').2
  rw [hpc] at hd
  unfold mretv at hret
  rw [he', hjk, hy] at hret
  dsimp only at hret
  obtain ⟨⟨j1, pc1, lv1, st1⟩, h1, nc1, ns1⟩ := S1
  obtain ⟨pc2, i2, n2, a2, bb2, k2⟩ := e'
  obtain ⟨y1, y2, y3, y4, y5⟩ := y
  dsimp only at *
  have hq9 : ∀ v9 : Option Value, (∀ x, v9 = some x → wfV (E.length + h1.length) x) → ∀ t : State, t.heap = H' → s.WarmedH t.vm → mQc D cy E ad h s.heap.size h1 v9 (as.map (trV ad)).toArray s (.returned (v9.map (trV ad'))) t := by
    intro v9 hwv t ht hW
    exact ⟨⟨ad', hag, rfl, by rw [ht]; exact hP', hD'⟩, ⟨hlen', hw', hwv⟩, hS'.F ht⟩
  split at hret
  · rename_i x ty
    split at hret
    · rename_i hn; cases hret
      exact W.zret B.exec B.bytes hr hn (hq9 (some (.int x)) (fun z hz => by cases hz; trivial)) hS'.2.2 hd
    · exact hfalse hret
  · rename_i x
    cases hret
    exact W.lret B.exec B.bytes hr (hq9 (some (.long x)) (fun z hz => by cases hz; trivial)) hS'.2.2 hd
  · rename_i x
    cases hret
    exact W.dret B.exec B.bytes hr (hq9 (some (.double x)) (fun z hz => by cases hz; trivial)) hS'.2.2 hd
  · rename_i x o
    cases hret
    exact W.aret B.exec B.bytes hr (Or.inl ⟨_, rfl⟩) (Or.inr ⟨_, rfl⟩) (hq9 (some (.ref x)) (fun z hz => by cases hz; exact hws'.h)) hS'.2.2 hd
  · rename_i x o
    cases hret
    exact W.aret B.exec B.bytes hr (Or.inr ⟨_, rfl⟩) (Or.inr ⟨_, rfl⟩) (hq9 (some (.ref x)) (fun z hz => by cases hz; exact hws'.h)) hS'.2.2 hd
  · cases hret
    exact W.vret B.exec B.bytes hr (hq9 none (fun z hz => by cases hz)) hS'.2.2 hd
  · exact hfalse hret
/-- EVERY RUN OF THE SMALL MACHINE IS A CONTRACT OF THE TRUE ONE -/
theorem mexec_ok {l : Launch} {D : va_G} {cy : Nat → ClassId} {E : mE} (hEw : mEw E) : ∀ d : Nat, mCallOk l D cy E (mexec E d) := by
  intro d
  induction d with
  | zero =>
    intro n k y q as h S1 v hy hq hq1 hlen hwa hwh hrun
    cases hrun
  | succ d ih => exact met_of_run hEw ih
