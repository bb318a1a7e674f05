/-! ===== a method that calls an interface's: ArrayList.addAll, which asks its argument for a row ===== -/
def mAddAll : Nat := 126
def mToArr : Nat := 122
def mIf0 : String × MethodName × MethodName := mIfs.headD ("", mGc, mGc)
theorem mIf_code0 : mlook (mcode mAddAll) 0 = some (0, .aload_n 1, 0, 0, 0, 0) := by decide +kernel
theorem mIf_code1 : mlook (mcode mAddAll) 1 = some (1, .invokeinterface 42 1, 0, 999, 0, 0) := by decide +kernel
theorem mIf_link : lw_tbl[1111]? = some (.methodLink "java/util/ArrayList" 42 mIf0.2.1) := by decide +kernel
theorem mIf_sel : lw_tbl[1115]? = some (.selects "java/util/ArrayList" mIf0.2.1 mIf0.2.2) := by decide +kernel
def mTrow : mMth := (yJx4a65c_toArray_d5877, cJx4a65c_toArray_d5877, 1, (some (.array (.object "java/lang/Object"))), RJx4a65c, 3, 84)
def mTpos : Nat × Nat × Nat × Nat × Bool × Nat := (1119, 1117, 99999, 70, false, 0)
theorem mT_row : mmeth mToArr = some mTrow := by rfl
theorem mT_pos : mPos[mToArr]? = some mTpos := by rfl
theorem mT_is : mTrow.1 = mIf0.2.2 ∧ mTpos.1 ≠ 99999 ∧ mTpos.2.2.2.2.1 = false ∧ mTpos.2.2.2.2.2 = 0 ∧ mTrow.2.2.1 = 1 ∧ (mIf0.2.1.cls ≠ "java/lang/invoke/MethodHandle" ∧ mIf0.2.1.cls ≠ "java/lang/invoke/VarHandle" ∧ (parseMethodDescriptor mIf0.2.1.desc).map (fun d => d.parameters.length) = some 0) := by decide +kernel
theorem mA_cls : (mmeth mAddAll).map (fun y => (y.1.cls, y.2.2.2.2.1, y.1.name)) = some ("java/util/ArrayList", "java/util/ArrayList", "addAll") := by decide +kernel
theorem mA_cl : (mCl[1]?).map (fun c => c.1) = some "java/util/ArrayList" := by decide +kernel
section MIF
variable {p : Program} {l : Launch} {e : Env} {R : Room} {s : State} {m : MethodId} {args : Array Value} {below : List Frame} {meth : Method} {c : Code} {H : Heap} {locs : List Loc} {cells slots : Nat} {Q : State → Prop}
/-- behind a call of an interface's method -/
theorem m_back5 {D : va_G} {cy : Nat → ClassId} {E : mE} {ad : Nat → Nat} {h h' : List mO} {v : Option Value} {a : Array Value} {A : Nat → Prop} {mc ms pc : Nat} {ls : Array Slot} {st0 rest : List Value} (hw : wfH E.length h)
    (hr : va_Run5 p l e R s m args below meth c H locs cells slots mc ms (F0 m pc ls st0) rest (mQc D cy E ad h H.size h' v a) (va_A (mW cy ad E.length h) H.size)) (hS : va_S A s.heap H locs) (hAA : ∀ q, va_A (mW cy ad E.length h) H.size q → A q)
    (kk : ∀ (ad' : Nat → Nat) (H1 : Heap) (locs1 : List Loc), agr (E.length + h.length) ad ad' → va_P D mCl (mW cy ad' E.length h') H1 → va_D A (mW cy ad' E.length h') → va_S A s.heap H1 locs1 → h.length ≤ h'.length → wfH E.length h' → (∀ x, v = some x → wfV (E.length + h'.length) x) → W p l e R s m args below meth c H1 locs1 (cells + mc) (slots + ms) Q (F0 m (pc + 5) ls ((v.map (trV ad')).toList ++ rest))) : W p l e R s m args below meth c H locs cells slots Q (F0 m pc ls st0) := by
  intro T hT X
  obtain ⟨v0, st₀, t, T', L, h0, X', hL, e1, e2, ⟨⟨ad', g1, g2, g3, g4⟩, ⟨g5, g6, g7⟩, hz, hk⟩, st⟩ := hr T hT X
  cases g2
  rw [h0] at hz hk
  obtain ⟨t2, a1, b1⟩ := kk ad' T'.heap (locs ++ L) g1 (by rw [e1]; exact g3) (g4.weaken (fun k q _ hq => hAA q.1 hq))
    ⟨Nat.le_trans hS.1 (by rw [e1]; exact hz), fun q h1 h2 => by rw [e1, hk q (Nat.lt_of_lt_of_le h1 hS.1) (fun z => h2 (hAA q z))]; exact hS.2.1 q h1 h2, fun q hq => by
      rcases List.mem_append.mp hq with h9 | h9
      · exact hS.2.2 q h9
      · exact hAA _ (hL q h9)⟩ g5 g6 g7 T' rfl X'
  exact ⟨t2, st t2 a1, b1⟩
end MIF
def mrunJ (E : mE) (call : Nat → mS → Option mS) (n : Nat) (S : mS) : Option mS := if S.1.1 = mAddAll then (match mlv S.1.2.2.1 1 with
  | some (.ref c) => (match mobjE E S.2.1 c with
    | some o => if o.1 = 1 ∧ mfits mAddAll mToArr = true ∧ S.1.2.1 = 0 ∧ S.1.2.2.2 = [] then (match call n (ment mToArr [.ref c] S.2.1) with
      | some S1 => (match mretv S1 with
        | some v => mrunF E call n ((mAddAll, 6, S.1.2.2.1, v.toList), (S1.2.1, S.2.2.1 + S1.2.2.1, S.2.2.2 + S1.2.2.2))
        | none => none)
      | none => none) else none
    | none => none)
  | _ => none) else mrunF E call n S
set_option maxHeartbeats 4000000 in
theorem met_of_runJ {l : Launch} {D : va_G} {cy : Nat → ClassId} {E : mE} {call : Nat → mS → Option mS} (hEw : mEw E) (hcall : mCallOk l D cy E call) : mCallOk l D cy E (mrunJ E call) := by
  intro n k y q as h S1 v hy hq hq1 hlen hwa hwh hrun hret ad sz
  unfold mrunJ at hrun
  split at hrun
  case isFalse => exact met_of_run hEw hcall n k y q as h S1 v hy hq hq1 hlen hwa hwh hrun hret ad sz
  case isTrue hkA =>
  have hkA : k = mAddAll := hkA
  subst hkA
  split at hrun
  case h_2 => exact hfalse hrun
  rename_i c9 hc9
  split at hrun
  case h_2 => exact hfalse hrun
  rename_i o ho
  split at hrun
  case isFalse => exact hfalse hrun
  rename_i hcond
  obtain ⟨ho1, hfit, -, -⟩ := hcond
  split at hrun
  case h_2 => exact hfalse hrun
  rename_i St hSt
  split at hrun
  case h_2 => exact hfalse hrun
  rename_i vt hvt
  have hc9' : mlv (lv_args 0 as) 1 = some (.ref c9) := hc9
  have hrun' : mrunF E call n ((mAddAll, 6, lv_args 0 as, vt.toList), (St.2.1, 0 + St.2.2.1, 0 + St.2.2.2)) = some S1 := hrun
  rw [Nat.zero_add, Nat.zero_add] at hrun'
  obtain ⟨b1, b2, b3, b4, b5, b6, b7⟩ := mMeth_ok hy hq hq1
  obtain ⟨t1, t2, t3, t4, t5, t6⟩ := mT_is
  obtain ⟨d1, d2, d3, d4, d5, d6, d7⟩ := mMeth_ok mT_row mT_pos t2
  rw [if_neg (by rw [t3]; decide)] at d2
  have hmono := mrun_mono _ _ _ hrun'
  dsimp only at hmono
  have hwc : wfV (E.length + h.length) (.ref c9) := mlv_wf (lv_args_wf hwa 0) hc9'
  have hwc1 : wfL (E.length + h.length) [.ref c9] := fun z hz => by rw [List.mem_singleton.mp hz]; exact hwc
  have hcls0 := mA_cls
  rw [hy] at hcls0
  have hcls1 := Option.some.inj hcls0
  have hclsN : y.1.cls = "java/util/ArrayList" := congrArg (fun z => z.1) hcls1
  obtain ⟨cl, hcl⟩ : ∃ cl, mCl[1]? = some cl := ⟨_, rfl⟩
  have hclN : cl.1 = "java/util/ArrayList" := by
    have h9 := mA_cl
    rw [hcl] at h9
    exact Option.some.inj h9
  refine Met.ofW (cc := y.2.1) (maxL := y.2.2.1) (ret := y.2.2.2.1) b5 rfl ?_
  intro p e s m args below meth c s₁ B hml hv
  obtain ⟨rfl, hsz, hP, hK, hD0, hE, hN⟩ := hv
  have hts0 := atoms_spec (ws := mws y) B.pre
  have hts : ∀ w ∈ mTBL, w.before (as.map (trV ad)).toArray s = true := fun w hw => hts0 w (List.mem_cons_of_mem _ hw)
  have hown : s.vm.findClass y.1.cls = some m.cls := findClass_of_methodNamed B.named
  have hnm : meth.name = y.1.name := (name_of_methodNamed B.named B.method).1
  have hlocks := B.notSynchronized
  have hr := B.returns
  subst hsz
  have hD := hD0.self (sz := s.heap.size)
  have hA : ∀ q : Nat, s.heap.size ≤ q → va_A (mW cy ad E.length h) s.heap.size q := fun q hq9 => Or.inr hq9
  have hl := lv_entry (as.map (trV ad)) (n := y.2.2.1) (by rw [lg_sl_tr]; exact hlen)
  rw [lg_entry_eq]
  generalize (lg_sl (as.map (trV ad)) ++ List.replicate (y.2.2.1 - (lg_sl (as.map (trV ad))).length) Slot.unset).toArray = ls at hl ⊢
  rw [lv_args_tr] at hl
  have hin : ∀ w ∈ mTBL, w ∈ mTBL := fun _ h9 => h9
  obtain ⟨-, -, hd0⟩ := mIns_ok hy mIf_code0
  obtain ⟨-, -, hd1⟩ := mIns_ok hy mIf_code1
  have hp0 : mpure y.2.2.1 (0, .aload_n 1, 0, 0, 0, 0) (lv_args 0 as) [] = some (1, lv_args 0 as, [.ref c9]) := by
    have h9 : mlv (lv_args 0 as) (((1 : Fin 4)) : Nat) = some (.ref c9) := hc9'
    simp only [mpure, h9]
  refine sd_pure (st := []) B.exec B.bytes hp0 hd0 hl (fun ls1 hl1 => ?_)
  have hM := hcall _ _ mTrow mTpos [.ref c9] h St vt mT_row mT_pos t2 (by rw [t5]; exact Nat.le_refl _) hwc1 hwh hSt hvt ad s.heap.size
  have hRy : mTrow.2.2.2.2.2.1 + 1 ≤ y.2.2.2.2.2.1 ∧ 8 + (mTrow.2.2.1 + 11) + mTrow.2.2.2.2.2.2 ≤ y.2.2.2.2.2.2 := by
    simp only [mfits, hy, mT_row, Bool.and_eq_true, decide_eq_true_eq] at hfit
    exact ⟨by omega, by omega⟩
  have hAA : ∀ q, va_A (mW cy ad E.length h) s.heap.size q → va_A (mW cy ad E.length h) s.heap.size q := fun _ h9 => h9
  have hrc : ∃ cell : Cell, s.heap[ad c9]? = some cell ∧ cell.vm.isStatics = false ∧ s.vm.findClass cl.1 = some cell.cls := by
    rcases mobjE_or ho with ⟨-, hoE⟩ | hoW
    · exact mEx_recv hK va_S.rf (hE.1 c9 _ hoE) (by rw [ho1]; exact hcl)
    · exact va_recv hK hP (by rw [ho1]; exact hcl) (mget_W (cy := cy) (ad := ad) hoW)
  rw [hclN] at hrc
  have hat : ClassAt s "java/util/ArrayList" (D.1 1) := by
    have h9 := (hK.1 1 cl hcl).2
    rw [hclN] at h9
    exact h9
  have hFw : va_Fw "java/util/ArrayList" mIf0.2.1 mTrow.1 s := by
    have h9 := hN.2 mIf0 (by decide +kernel)
    rw [t1]
    exact h9
  have hrun5 := va_runF (rest := []) (g := F0 m 1 ls1 [.ref (ad c9)]) (H := s.heap) (locs := []) (cells := 0) (slots := 0) (e := e) (below := below) (meth := meth) (R := (headSpec (mws y) (mrm y S1.2.2.1 S1.2.2.2)).room) hat (Ts := mTBL) (cc := y.2.1) (nL := y.2.2.1) (own := y.1.cls) ⟨B.exec, B.bytes, hml, hown, hts⟩ hM
    (va_cwF (own := y.1.cls) 0 hts (mgood_cons (mTBL_of (by rw [hclsN]; exact mIf_link) rfl) hin (mgood_cons (mTBL_of (by rw [t1]; exact mIf_sel) rfl) hin (mgood_cons d2 hin (mgood_cons d4 hin (mws_in hin d1))))) rfl rfl rfl hFw t6 hRy)
    (As := []) ⟨mPc_blind, hrc, m_pre (A := va_A (mW cy ad E.length h) s.heap.size) hK hP hD va_S.rf hA hE hN [.ref c9]⟩ rfl rfl hl1.1 rfl (by show 2 * 0 + 0 ≤ 8; omega) hd1 (by show 0 + _ ≤ _ ∧ 0 + _ ≤ _; rw [Nat.zero_add, Nat.zero_add]; exact hmono)
  refine m_back5 hwh hrun5 va_S.rf hAA (fun ad1 H1 locs1 hag1 hP1 hD1 hS1 hlen1 hw1 hwv1 => ?_)
  rw [Nat.zero_add, Nat.zero_add, List.append_nil]
  have hv9 : (vt.map (trV ad1)).toList = vt.toList.map (trV ad1) := by cases vt <;> rfl
  rw [hv9]
  refine sim_run (R := (headSpec (mws y) (mrm y S1.2.2.1 S1.2.2.2)).room) (A := va_A (mW cy ad E.length h) s.heap.size) hEw hcall B.exec B.bytes hml hts (b7 ▸ hown) hnm (Nat.le_refl _) (Nat.le_refl _) hK hA hN n ((mAddAll, 6, lv_args 0 as, vt.toList), St.2.1, St.2.2.1, St.2.2.2) S1 hrun' hy (Nat.le_refl _) (Nat.le_refl _) H1 locs1 ls1 ad1 (hE.agr hEw (fun q9 hq9 => hag1 q9 (by omega))) hP1 hD1 hS1 hw1 ((lv_args_wf hwa 0).up (by dsimp only; omega)) (fun z hz => by
      cases vt with
      | none => cases hz
      | some x => rw [List.mem_singleton.mp (show z ∈ [x] from hz)]; exact hwv1 x rfl) (by rw [trL_agr (lv_args_wf hwa 0) hag1]; exact hl1) ?_
  intro ad' H' locs' ls' e' hag2 hP' hD' hS' hw' hws' hlen2 hj he' ht' hl'
  have hag : agr (E.length + h.length) ad ad' := hag1.tr (by dsimp only; omega) hag2
  have hlen' : h.length ≤ S1.2.1.length := Nat.le_trans hlen1 hlen2
  have hjk : S1.1.1 = mAddAll := hj
  obtain ⟨-, -, hd⟩ := mIns_ok (by rw [hjk]; exact hy) he'
  have hpc : e'.1 = S1.1.2.1 := (mlook_mem he').2
  rw [hpc] at hd
  unfold mretv at hret
  rw [he', hjk, hy] at hret
  dsimp only at hret
  obtain ⟨⟨j1, pc1, lv1, st1⟩, h1, nc1, ns1⟩ := S1
  obtain ⟨pc2, i2, n2, a2, bb2, k2⟩ := e'
  obtain ⟨y1, y2, y3, y4, y5⟩ := y
  dsimp only at *
  have hq9 : ∀ v9 : Option Value, (∀ x, v9 = some x → wfV (E.length + h1.length) x) → ∀ t : State, t.heap = H' → s.WarmedH t.vm → mQc D cy E ad h s.heap.size h1 v9 (as.map (trV ad)).toArray s (.returned (v9.map (trV ad'))) t := by
    intro v9 hwv t ht hW
    exact ⟨⟨ad', hag, rfl, by rw [ht]; exact hP', hD'⟩, ⟨hlen', hw', hwv⟩, hS'.F ht⟩
  split at hret
  · rename_i x ty
    split at hret
    · rename_i hn; cases hret
      exact W.zret B.exec B.bytes hr hn (hq9 (some (.int x)) (fun z hz => by cases hz; trivial)) hS'.2.2 hd
    · exact hfalse hret
  · rename_i x
    cases hret
    exact W.lret B.exec B.bytes hr (hq9 (some (.long x)) (fun z hz => by cases hz; trivial)) hS'.2.2 hd
  · rename_i x
    cases hret
    exact W.dret B.exec B.bytes hr (hq9 (some (.double x)) (fun z hz => by cases hz; trivial)) hS'.2.2 hd
  · rename_i x o9
    cases hret
    exact W.aret B.exec B.bytes hr (Or.inl ⟨_, rfl⟩) (Or.inr ⟨_, rfl⟩) (hq9 (some (.ref x)) (fun z hz => by cases hz; exact hws'.h)) hS'.2.2 hd
  · rename_i x o9
    cases hret
    exact W.aret B.exec B.bytes hr (Or.inr ⟨_, rfl⟩) (Or.inr ⟨_, rfl⟩) (hq9 (some (.ref x)) (fun z hz => by cases hz; exact hws'.h)) hS'.2.2 hd
  · cases hret
    exact W.vret B.exec B.bytes hr (hq9 none (fun z hz => by cases hz)) hS'.2.2 hd
  · exact hfalse hret
/-- the machine with that method -/
def mexecJ (E : mE) : Nat → Nat → mS → Option mS
  | 0 => fun _ _ => none
  | d + 1 => mrunJ E (mexecJ E d)
theorem mexecJ_ok {l : Launch} {D : va_G} {cy : Nat → ClassId} {E : mE} (hEw : mEw E) : ∀ d : Nat, mCallOk l D cy E (mexecJ E d) := by
  intro d
  induction d with
  | zero =>
    intro n k y q as h S1 v hy hq hq1 hlen hwa hwh hrun
    cases hrun
  | succ d ih => exact met_of_runJ hEw ih
