/-! ===== the heap's instructions are the true machine's ===== -/
theorem hfalse {P : Prop} {α : Type} {x : α} (h : (none : Option α) = some x) : P := by cases h
theorem mup_app (a b : List (Nat × Value)) (j : Nat) : mup (a ++ b) j = match mup a j with
  | some v => some v
  | none => mup b j := by
  induction a with
  | nil => rfl
  | cons q r ih =>
    rw [List.cons_append]
    simp only [mup]
    by_cases h : q.1 = j
    · rw [if_pos h, if_pos h]
    · rw [if_neg h, if_neg h]
      exact ih
theorem mup_rng (dp : Nat) (v : Nat → Value) (j : Nat) : ∀ n : Nat, mup ((List.range n).map (fun i => (dp + i, v i))) j = if dp ≤ j ∧ j < dp + n then some (v (j - dp)) else none := by
  intro n
  induction n with
  | zero => rw [if_neg (by omega)]; rfl
  | succ n ih =>
    rw [List.range_succ, List.map_append, mup_app, ih]
    by_cases h : dp ≤ j ∧ j < dp + n
    · rw [if_pos h, if_pos (by omega)]
    · rw [if_neg h]
      by_cases h2 : dp + n = j
      · have h3 : dp ≤ j ∧ j < dp + (n + 1) := by omega
        rw [if_pos h3]
        have h4 : j - dp = n := by omega
        simp [mup, h2, h4]
      · rw [if_neg (by omega)]
        simp [mup, h2]
theorem mcpW_up (u y : List (Nat × Value)) (sp dp n : Nat) (ad : Nat → Nat) : (fun j => (mupR (mcpW u sp dp n ++ y) j).map ad) = va_cpy (fun j => (mupR u j).map ad) (fun j => (mupR y j).map ad) sp dp n := by
  funext j
  unfold va_cpy mupR mcpW
  rw [mup_app, mup_rng dp (fun i => va_rf (mupR u (sp + i)))]
  by_cases h : dp ≤ j ∧ j < dp + n
  · rw [if_pos h, if_pos h]
    dsimp only
    show _ = (mupR u (sp + (j - dp))).map ad
    cases mupR u (sp + (j - dp)) <;> rfl
  · rw [if_neg h, if_neg h]
theorem mwords_tr0 (ad : Nat → Nat) (st : List Value) : ((st.map (trV ad)).map fun v => v.category).sum = mwords st := by
  unfold mwords
  rw [List.map_map]
  congr 1
  apply List.map_congr_left
  intro v _
  exact trV_cat ad v
theorem mETys_of {t : Nat} {ty : FieldType} (h : mTys[t]? = some ty) : mETys[t]? = some ty := by
  unfold mETys
  rw [List.getElem?_append_left (List.getElem?_eq_some_iff.mp h).1]
  exact h
section MH
variable {p : Program} {l : Launch} {e : Env} {R : Room} {s : State} {m : MethodId} {args : Array Value} {below : List Frame} {meth : Method} {c : Code} {H : Heap} {locs : List Loc} {Q : State → Prop}
theorem m_link (hts : ∀ w ∈ mTBL, w.before args s = true) {own o f d : String} {idx n k : Nat} (hn : n ≠ 1) (hlk : mlinkF own idx n k o f d = true) : ∃ ref : String, (Cond.fieldLink own idx ref f d).before args s = true ∧ ∀ x, s.fieldFound? o f d = some x → s.fieldFound? ref f d = some x := by
  unfold mlinkF at hlk
  split at hlk
  · exact ⟨o, hts _ (mTBL_of (of_decide_eq_true hlk) rfl), fun _ h9 => h9⟩
  · try rw [if_neg hn] at hlk
    split at hlk
    · rename_i r o1 f1 d1 h1
      simp only [Bool.and_eq_true, decide_eq_true_eq] at hlk
      obtain ⟨⟨e1, e2, e3⟩, h2⟩ := hlk
      subst e1
      subst e2
      subst e3
      exact ⟨r, hts _ (mTBL_of h2 rfl), u_same (hts _ (mTBL_of h1 rfl))⟩
    · cases hlk
theorem m_getf {cc : ByteArray} (hx : p.tables.exec = Jvm.exec) (hb : c.code = cc) (hts : ∀ w ∈ mTBL, w.before args s = true) {own : String} (hown : s.vm.findClass own = some m.cls) {D : va_G} {tys : List (ClassId × FieldType)} {cl : List vw_C} {C : String} {T : u_T} {N a q0 ci k idx n kk pc cells slots : Nat} {fs rest : List Value} {ls : Array Slot} {v : Value} {ws : va_W} (h1 : ∀ w ∈ u_ws C T N, w ∈ mTBL) (hK : va_K D cl tys s) (hN : mNs s) (hP : va_P D cl ws H) (he : ws[q0]? = some (a, .inr (ci, fs))) (hc : cl[ci]? = some (C, T, N)) (hk : k < N) (hlk : mlinkF own idx n kk (T k).1 (T k).2.1 (T k).2.2.1 = true) (hv : fs[k]? = some v) (hd : decode cc pc = .ok (.getfield idx, 3))
    (K : W p l e R s m args below meth c H locs cells slots Q (F0 m (pc + 3) ls (v :: rest))) : W p l e R s m args below meth c H locs cells slots Q (F0 m pc ls (.ref a :: rest)) := by
  by_cases hn : n = 1
  · subst hn
    unfold mlinkF at hlk
    rw [if_neg (by decide), if_pos rfl] at hlk
    split at hlk
    · rename_i ow i r f1 d1 host hw9
      obtain ⟨e1, e2, e3, e4, e5⟩ := of_decide_eq_true hlk
      subst e1
      subst e2
      subst e3
      subst e4
      subst e5
      exact va_getN hx hb hts h1 hown hK hP q0 he hc k hk (va_Nw.use rfl (hN.1 _ (List.mem_of_getElem? hw9))) (fun _ h9 => h9) hv hd K
    · cases hlk
  · obtain ⟨ref, g1, g2⟩ := m_link hts hn hlk
    exact va_get hx hb hts h1 hown hK hP q0 he hc k hk g1 g2 hv hd K
set_option maxHeartbeats 4000000 in
theorem sd_heap {cc : ByteArray} (hx : p.tables.exec = Jvm.exec) (hb : c.code = cc) (hts : ∀ w ∈ mTBL, w.before args s = true) {own : String} (hown : s.vm.findClass own = some m.cls) {init : Bool} (hini : init = true → meth.name = "<init>") {E : mE} (hEw : mEw E)
    {D : va_G} {cy : Nat → ClassId} {A : Nat → Prop} {ad : Nat → Nat} {i : mIns} {st st' : List Value} {h h' : mH} {pc' : Nat} {ls : Array Slot} (hck : mchk own init i = true) (hd : decode cc i.1 = .ok (i.2.1, mlen i.2.1 i.2.2.1))
    (hK : va_K D mCl (mT cy) s) (hP : va_P D mCl (mW cy ad E.length h.1) H) (hD : va_D A (mW cy ad E.length h.1)) (hS : va_S A s.heap H locs) (hA : ∀ q, s.heap.size ≤ q → A q) (hE : mEx D E ad A s s.heap) (hw : wfH E.length h.1) (hws : wfL (E.length + h.1.length) st)
    (hs : mheap E i st h = some (pc', st', h')) (hR : h'.2.1 ≤ R.cells ∧ h'.2.2 ≤ R.slots)
    (harr : ∀ (t : Nat) (ty : FieldType), t ≤ 2 → mTys[t]? = some ty → (Cond.arrayClass ty).before args s = true) (hN : mNs s) (hml : c.maxLocals = ls.size) (hRm : mneedR i = true → 1 ≤ R.frames ∧ 40 ≤ R.locals)
    (kk : ∀ (ad' : Nat → Nat) (H' : Heap) (locs' : List Loc), agr (E.length + h.1.length) ad ad' → va_P D mCl (mW cy ad' E.length h'.1) H' → va_D A (mW cy ad' E.length h'.1) → va_S A s.heap H' locs' → wfH E.length h'.1 → wfL (E.length + h'.1.length) st' → h.1.length ≤ h'.1.length → W p l e R s m args below meth c H' locs' h'.2.1 h'.2.2 Q (F0 m pc' ls (st'.map (trV ad')))) :
    W p l e R s m args below meth c H locs h.2.1 h.2.2 Q (F0 m i.1 ls (st.map (trV ad))) := by
  obtain ⟨pc, i, n, a, b, k⟩ := i
  obtain ⟨h, nc, ns⟩ := h
  dsimp only at *
  cases i
  case getfield idx =>
    simp only [mheap] at hs; split at hs
    · rename_i q r; split at hs
      · rename_i o ho; split at hs
        · rename_i hoa; split at hs
          · rename_i cl hcl; split at hs
            · rename_i v hv; cases hs
              obtain ⟨C, T, N⟩ := cl
              obtain ⟨h1, h2, h3, h4, h5⟩ := mCl_ok hcl
              simp only [mchk, hcl, Bool.and_eq_true, decide_eq_true_eq] at hck
              have hv' : (o.2.map (trV ad))[b]? = some (trV ad v) := by rw [List.getElem?_map, hv]; rfl
              have hwr : wfL (E.length + h.length) (v :: r) := by
                intro v' hv9
                rcases List.mem_cons.mp hv9 with e1 | e1
                · rw [e1]; exact wf_objE hEw hw ho v (List.mem_of_getElem? hv)
                · exact hws v' (List.mem_cons_of_mem _ e1)
              rcases mobjE_or ho with ⟨hl9, hoE⟩ | hoW
              · rcases hE.1 q _ hoE _ (by rw [hoa]; exact hcl) with ⟨e9, -⟩ | ⟨g1, g2⟩
                · rw [e9] at hv; simp at hv
                exact m_getf (q0 := 0) hx hb hts hown h1 hK hN (va_P_one (g1.kept (hS.2.1 _ g1.lt g2))) rfl (by rw [hoa]; exact hcl) hck.1 hck.2 hv' hd (kk ad H locs agr.rf hP hD hS hw hwr (Nat.le_refl _))
              · exact m_getf hx hb hts hown h1 hK hN hP (mget_W (cy := cy) (ad := ad) hoW) (by rw [hoa]; exact hcl) hck.1 hck.2 hv' hd (kk ad H locs agr.rf hP hD hS hw hwr (Nat.le_refl _))
            · exact hfalse hs
          · exact hfalse hs
        · exact hfalse hs
      · exact hfalse hs
    · exact hfalse hs
  case putfield idx =>
    simp only [mheap] at hs; split at hs
    · rename_i v q r; split at hs
      · rename_i o ho; split at hs
        · rename_i hoa; split at hs
          · rename_i cl hcl; split at hs
            · rename_i hcond; obtain ⟨hlen, hnar, hfit⟩ := hcond
              cases hs
              obtain ⟨C, T, N⟩ := cl
              obtain ⟨h1, h2, h3, h4, h5⟩ := mCl_ok hcl
              simp only [mchk, hcl, Bool.and_eq_true, Bool.or_eq_true, decide_eq_true_eq] at hck
              obtain ⟨hbN, ⟨hlk0, hn1⟩, hfin⟩ := hck
              obtain ⟨ref9, hlk, hsm9⟩ := m_link hts hn1 hlk0
              have hgo := mget_W (cy := cy) (ad := ad) ho
              have hwv : wfV (E.length + h.length) v := hws v List.mem_cons_self
              have hwr : wfL (E.length + h.length) st' := fun x hx9 => hws x (List.mem_cons_of_mem _ (List.mem_cons_of_mem _ hx9))
              have hw2 : wfH E.length (h.set (q - E.length) (.inr (o.1, o.2.set b v))) := wfH.set hw (by
                intro x hx9
                rcases List.mem_or_eq_of_mem_set hx9 with e1 | e1
                · exact wf_get hw ho x e1
                · rw [e1]; exact hwv)
              have he : (mW cy ad E.length h).set (q - E.length) (ad q, .inr (o.1, (o.2.map (trV ad)).set b (trV ad v))) = mW cy ad E.length (h.set (q - E.length) (.inr (o.1, o.2.set b v))) := by
                rw [← mset_W ho]
                simp only [trO, List.map_set]
              have kk' : ∀ (H1 : Heap) (locs1 : List Loc), va_P D mCl ((mW cy ad E.length h).set (q - E.length) (ad q, .inr (o.1, (o.2.map (trV ad)).set b (trV ad v)))) H1 → va_D A ((mW cy ad E.length h).set (q - E.length) (ad q, .inr (o.1, (o.2.map (trV ad)).set b (trV ad v)))) → va_S A s.heap H1 locs1 → W p l e R s m args below meth c H1 locs1 nc ns Q (F0 m (pc + 3) ls (st'.map (trV ad))) := by
                intro H1 locs1 hP1 hD1 hS1
                rw [he] at hP1 hD1
                exact kk ad H1 locs1 agr.rf hP1 hD1 hS1 hw2 (by rw [List.length_set]; exact hwr) (by rw [List.length_set]; exact Nat.le_refl _)
              rcases hfin with hfin | hfin
              · exact va_put hx hb hts h1 (mfty a) h2 h3 hown hK hP hD hS _ hgo (by rw [hoa]; exact hcl) b hbN hlk hsm9 hfin (h2 b hbN) (narrow_tr hnar) (fits_tr hfit) (by rw [List.length_map]; exact hlen) hd kk'
              · exact va_putF hx hb hts h1 (mfty a) h2 h3 hown hK hP hD hS _ hgo (by rw [hoa]; exact hcl) b hbN hlk hsm9 hfin.1.1 (hini hfin.1.2) hfin.2 (h2 b hbN) (narrow_tr hnar) (fits_tr hfit) (by rw [List.length_map]; exact hlen) hd kk'
            · exact hfalse hs
          · exact hfalse hs
        · exact hfalse hs
      · exact hfalse hs
    · exact hfalse hs
  case iaload =>
    simp only [mheap] at hs; split at hs
    · rename_i i q r
      have hwr : ∀ z : Int32, wfL (E.length + h.length) (.int z :: r) := fun z => hws.t.t.c trivial
      split at hs
      · split at hs
        · rename_i N f hoE; split at hs
          · exact hfalse hs
          · rename_i hin; cases hs
            exact va_ti hx hb (hE.1 q _ hoE .int rfl) hS hin rfl hd (kk ad H locs agr.rf hP hD hS hw (hwr _) (Nat.le_refl _))
        · exact hfalse hs
      · split at hs
        · rename_i x hg; split at hs
          · exact hfalse hs
          · rename_i hin; cases hs
            exact va_iald hx hb hK hP _ 0 (mget_W (cy := cy) (ad := ad) (mrow_of hg)) (mT_get rfl) hin hd (kk ad H locs agr.rf hP hD hS hw (hwr _) (Nat.le_refl _))
        · exact hfalse hs
    · exact hfalse hs
  case aaload =>
    simp only [mheap] at hs; split at hs
    · rename_i i q r
      split at hs
      · split at hs
        · rename_i t9 N f hoE; split at hs
          · rename_i C hty; split at hs
            · exact hfalse hs
            · rename_i hin; cases hs
              have hwv : wfV (E.length + h.length) (va_rf (f i.toNatClampNeg)) := by
                have h9 := hEw.1 _ (List.mem_of_getElem? hoE)
                cases hf : f i.toNatClampNeg with
                | none => trivial
                | some z => exact Nat.lt_of_lt_of_le (h9 _ z hf) (Nat.le_add_right _ _)
              have htr : trV ad (va_rf (f i.toNatClampNeg)) = va_rf ((f i.toNatClampNeg).map ad) := by cases f i.toNatClampNeg <;> rfl
              have k9 := kk ad H locs agr.rf hP hD hS hw (hws.t.t.c hwv) (Nat.le_refl _)
              rw [List.map_cons, htr] at k9
              obtain ⟨cell, g1, g2, g3, g4, g5, g6, g7⟩ := hE.1 q _ hoE (.object C) hty
              have hlt : i.toNatClampNeg < N := Nat.not_le.mp fun q9 => hin (Or.inr q9)
              exact W.aald (v := va_rf ((f i.toNatClampNeg).map ad)) (ty := .object C) hx hb (by rw [hS.2.1 _ (Array.getElem?_eq_some_iff.mp g1).1 g7]; exact g1) g2 rfl g3 (fun q9 => q9.elim (fun z => hin (Or.inl z)) (fun z => by omega)) (g6 _ hlt) rfl rfl hd k9
          · exact hfalse hs
        · exact hfalse hs
      · split at hs
        · rename_i x hg; split at hs
          · rename_i C hty; split at hs
            · exact hfalse hs
            · rename_i hin; cases hs
              have hg2 := mrow_of hg
              have hwv : wfV (E.length + h.length) (va_rf (mupR x.2 i.toNatClampNeg)) := by
                have h9 := wf_get hw hg2
                cases hf : mupR x.2 i.toNatClampNeg with
                | none => trivial
                | some z => exact mupR_wf h9 hf
              have htr : trV ad (va_rf (mupR x.2 i.toNatClampNeg)) = va_rf ((mupR x.2 i.toNatClampNeg).map ad) := by cases mupR x.2 i.toNatClampNeg <;> rfl
              have k9 := kk ad H locs agr.rf hP hD hS hw (hws.t.t.c hwv) (Nat.le_refl _)
              rw [List.map_cons, htr] at k9
              exact va_aldq (f := fun j => (mupR x.2 j).map ad) hx hb hK hP _ 3 (mget_W (cy := cy) (ad := ad) hg2) (mT_get hty) hin hd k9
          · exact hfalse hs
        · exact hfalse hs
    · exact hfalse hs
  case laload =>
    simp only [mheap] at hs; split at hs
    · rename_i i q r
      split at hs
      · rename_i x hg; split at hs
        · rename_i hty; split at hs
          · exact hfalse hs
          · rename_i hin; cases hs
            exact va_lald hx hb hK hP _ 1 (mget_W (cy := cy) (ad := ad) (mrow_of hg)) (mT_get hty) hin hd (kk ad H locs agr.rf hP hD hS hw (hws.t.t.c trivial) (Nat.le_refl _))
        · exact hfalse hs
      · exact hfalse hs
    · exact hfalse hs
  case daload =>
    simp only [mheap] at hs; split at hs
    · rename_i i q r
      split at hs
      · rename_i x hg; split at hs
        · rename_i hty; split at hs
          · exact hfalse hs
          · rename_i hin; cases hs
            exact va_dald hx hb hK hP _ 2 (mget_W (cy := cy) (ad := ad) (mrow_of hg)) (mT_get hty) hin hd (kk ad H locs agr.rf hP hD hS hw (hws.t.t.c trivial) (Nat.le_refl _))
        · exact hfalse hs
      · exact hfalse hs
    · exact hfalse hs
  case iastore =>
    simp only [mheap] at hs; split at hs
    · rename_i x i q r; split at hs
      · rename_i y hg; split at hs
        · exact hfalse hs
        · rename_i hin; cases hs
          have hg2 := mrow_of hg
          refine va_iast hx hb hK hP hD hS _ 0 (mget_W (cy := cy) (ad := ad) hg2) (mT_get rfl) hin hd (fun H1 locs1 hP1 hD1 hS1 => ?_)
          have he : (mW cy ad E.length h).set (q - E.length) (ad q, .inl (cy 0, y.1, .inl (upd (mupI y.2) i.toNatClampNeg x))) = mW cy ad E.length (h.set (q - E.length) (.inl (0, y.1, (i.toNatClampNeg, .int x) :: y.2))) := by
            rw [← mset_W hg2]
            simp only [trO, mdecA, mupI_c]
          rw [he] at hP1 hD1
          have hwx : wfO (E.length + h.length) (.inl (0, y.1, (i.toNatClampNeg, .int x) :: y.2)) := by
            intro z hz
            rcases List.mem_cons.mp hz with e1 | e1
            · rw [e1]; trivial
            · exact wf_get hw hg2 z e1
          exact kk ad H1 locs1 agr.rf hP1 hD1 hS1 (wfH.set hw hwx) (by rw [List.length_set]; exact hws.t.t.t) (by rw [List.length_set]; exact Nat.le_refl _)
      · exact hfalse hs
    · exact hfalse hs
  case lastore =>
    simp only [mheap] at hs; split at hs
    · rename_i x i q r; split at hs
      · rename_i y hg; split at hs
        · rename_i hty; split at hs
          · exact hfalse hs
          · rename_i hin; cases hs
            have hg2 := mrow_of hg
            refine va_last hx hb hK hP hD hS _ 1 (mget_W (cy := cy) (ad := ad) hg2) (mT_get hty) hin hd (fun H1 locs1 hP1 hD1 hS1 => ?_)
            have he : (mW cy ad E.length h).set (q - E.length) (ad q, .inl (cy 1, y.1, .inr (.inl (vp_updL (mupL y.2) i.toNatClampNeg x)))) = mW cy ad E.length (h.set (q - E.length) (.inl (1, y.1, (i.toNatClampNeg, .long x) :: y.2))) := by
              rw [← mset_W hg2]
              simp only [trO, mdecA, mupL_c]
            rw [he] at hP1 hD1
            have hwx : wfO (E.length + h.length) (.inl (1, y.1, (i.toNatClampNeg, .long x) :: y.2)) := by
              intro z hz
              rcases List.mem_cons.mp hz with e1 | e1
              · rw [e1]; trivial
              · exact wf_get hw hg2 z e1
            exact kk ad H1 locs1 agr.rf hP1 hD1 hS1 (wfH.set hw hwx) (by rw [List.length_set]; exact hws.t.t.t) (by rw [List.length_set]; exact Nat.le_refl _)
        · exact hfalse hs
      · exact hfalse hs
    · exact hfalse hs
  case dastore =>
    simp only [mheap] at hs; split at hs
    · rename_i x i q r; split at hs
      · rename_i y hg; split at hs
        · rename_i hty; split at hs
          · exact hfalse hs
          · rename_i hin; cases hs
            have hg2 := mrow_of hg
            refine va_dast hx hb hK hP hD hS _ 2 (mget_W (cy := cy) (ad := ad) hg2) (mT_get hty) hin hd (fun H1 locs1 hP1 hD1 hS1 => ?_)
            have he : (mW cy ad E.length h).set (q - E.length) (ad q, .inl (cy 2, y.1, .inr (.inr (.inr (.inl (vf_upd (mupD y.2) i.toNatClampNeg x)))))) = mW cy ad E.length (h.set (q - E.length) (.inl (2, y.1, (i.toNatClampNeg, .double x) :: y.2))) := by
              rw [← mset_W hg2]
              simp only [trO, mdecA, mupD_c]
            rw [he] at hP1 hD1
            have hwx : wfO (E.length + h.length) (.inl (2, y.1, (i.toNatClampNeg, .double x) :: y.2)) := by
              intro z hz
              rcases List.mem_cons.mp hz with e1 | e1
              · rw [e1]; trivial
              · exact wf_get hw hg2 z e1
            exact kk ad H1 locs1 agr.rf hP1 hD1 hS1 (wfH.set hw hwx) (by rw [List.length_set]; exact hws.t.t.t) (by rw [List.length_set]; exact Nat.le_refl _)
        · exact hfalse hs
      · exact hfalse hs
    · exact hfalse hs
  case aastore =>
    simp only [mheap] at hs; split at hs
    · rename_i v i q r; split at hs
      · rename_i y o hg hv; split at hs
        · rename_i C hty; split at hs
          · rename_i hca; split at hs
            · exact hfalse hs
            · rename_i hin; cases hs
              have hg2 := mrow_of hg
              unfold mcast at hca
              split at hca
              · rename_i cl hcl
                have hcb := of_decide_eq_true hca
                have hwv : v < E.length + h.length := hws.h
                have hwx : wfO (E.length + h.length) (.inl (3, y.1, (i.toNatClampNeg, .ref v) :: y.2)) := by
                  intro z hz
                  rcases List.mem_cons.mp hz with e1 | e1
                  · rw [e1]; exact hwv
                  · exact wf_get hw hg2 z e1
                have he : (mW cy ad E.length h).set (q - E.length) (ad q, .inl (cy 3, y.1, .inr (.inr (.inr (.inr (va_up (fun j => (mupR y.2 j).map ad) i.toNatClampNeg (some (ad v)))))))) = mW cy ad E.length (h.set (q - E.length) (.inl (3, y.1, (i.toNatClampNeg, .ref v) :: y.2))) := by
                  rw [← mset_W hg2]
                  simp only [trO, mdecA, mupR_c]
                have kk' : ∀ (H1 : Heap) (locs1 : List Loc), va_P D mCl ((mW cy ad E.length h).set (q - E.length) (ad q, .inl (cy 3, y.1, .inr (.inr (.inr (.inr (va_up (fun j => (mupR y.2 j).map ad) i.toNatClampNeg (some (ad v))))))))) H1 → va_D A ((mW cy ad E.length h).set (q - E.length) (ad q, .inl (cy 3, y.1, .inr (.inr (.inr (.inr (va_up (fun j => (mupR y.2 j).map ad) i.toNatClampNeg (some (ad v))))))))) → va_S A s.heap H1 locs1 → W p l e R s m args below meth c H1 locs1 nc ns Q (F0 m (pc + 1) ls (st'.map (trV ad))) := by
                  intro H1 locs1 hP1 hD1 hS1
                  rw [he] at hP1 hD1
                  exact kk ad H1 locs1 agr.rf hP1 hD1 hS1 (wfH.set hw hwx) (by rw [List.length_set]; exact hws.t.t.t) (by rw [List.length_set]; exact Nat.le_refl _)
                have hcell : ∃ cell : Cell, H[ad v]? = some cell ∧ cell.vm.isStatics = false ∧ s.vm.findClass cl.1 = some cell.cls := by
                  rcases mobjE_or hv with ⟨hl9, hoE⟩ | hoW
                  · exact mEx_recv hK hS (hE.1 v _ hoE) hcl
                  · exact va_recv hK hP hcl (mget_W (cy := cy) (ad := ad) hoW)
                obtain ⟨cellV, g1, g3, g4⟩ := hcell
                have hlt : i.toNatClampNeg < y.1 := Nat.not_le.mp fun q9 => hin (Or.inr q9)
                have h0 : ¬ i < 0 := fun q9 => hin (Or.inl q9)
                have hgW : (mW cy ad E.length h)[q - E.length]? = some (ad q, .inl (cy 3, y.1, .inr (.inr (.inr (.inr (fun j => (mupR y.2 j).map ad)))))) := mget_W (cy := cy) (ad := ad) hg2
                have hcls := (hK.1 o.1 cl hcl).2
                obtain ⟨kA, comp, k1, k2, k3, -⟩ := (hK.2 3 _ (mT_get (cy := cy) hty)).2
                obtain ⟨kE, hkE, -⟩ := Vm.findClass_spec k3
                obtain ⟨c0, t1, f1, f2, f3⟩ := Cond.castable_spec (va_Nw.use (A := args) rfl (hN.1 _ hcb))
                have g2 : cellV.cls = D.1 o.1 := Option.some.inj (g4.symm.trans hcls.1)
                cases hcls.1.symm.trans f1
                cases k3.symm.trans f2
                obtain ⟨kC, hkC, -⟩ := hcls.2
                refine W.aast hx hb (hP _ _ hgW) (fun q9 h9 => by cases h9) (fun h9 => by cases h9) k1 k2 rfl hkE ⟨h0, by show _ < (arrV _ _ _).slots.size; rw [arrV_size]; exact hlt⟩ g1 (fun q9 h9 => by rw [h9] at g3; cases g3) (by rw [g2]; exact hkC) (by rw [g2]; exact f3) rfl rfl hd fun H1 e9 z9 oq => ?_
                refine kk' H1 _ (hP.set hD hgW ?_ oq) (hD.set hgW) (hS.put z9 oq (hD.2 _ _ hgW))
                show H1[ad q]? = some (vp_cell _ _)
                rw [e9]
                rw [vp_cell_q, vp_cell_q, arrV_store]
                congr 2
                funext j
                by_cases hj : j = i.toNatClampNeg
                · subst hj
                  simp [updV, va_up, va_rf]
                · simp [updV, va_up, hj]
              · cases hca
          · exact hfalse hs
        · exact hfalse hs
      · exact hfalse hs
    · exact hfalse hs
  case arraylength =>
    simp only [mheap] at hs; split at hs
    · rename_i q r
      have hwr : ∀ z : Int32, wfL (E.length + h.length) (.int z :: r) := fun z => hws.t.c trivial
      split at hs
      · split at hs
        · rename_i x hoE; split at hs
          · rename_i ty hty; cases hs
            have h9 := hE.1 q _ hoE
            obtain ⟨t, N, f | f | f | f | f⟩ := x
            · exact va_tlen hx hb (h9 ty hty) hS rfl hd (kk ad H locs agr.rf hP hD hS hw (hwr _) (Nat.le_refl _))
            · exact h9.elim
            · exact h9.elim
            · exact h9.elim
            · exact va_tlen hx hb (h9 ty (mETys_of hty)) hS rfl hd (kk ad H locs agr.rf hP hD hS hw (hwr _) (Nat.le_refl _))
          · exact hfalse hs
        · exact hfalse hs
      · split at hs
        · rename_i x hoW; split at hs
          · split at hs
            · rename_i ty hty; cases hs
              exact va_alen hx hb hK hP _ x.1 (x := mdecA ad x.1 x.2.1 x.2.2) (mget_W (cy := cy) (ad := ad) hoW) (mT_get hty) (by rw [mdecA_len]) hd (kk ad H locs agr.rf hP hD hS hw (hwr _) (Nat.le_refl _))
            · exact hfalse hs
          · exact hfalse hs
        · exact hfalse hs
    · exact hfalse hs
  case new idx =>
    simp only [mheap] at hs; split at hs
    · rename_i cl hcl; cases hs
      obtain ⟨C, T, N⟩ := cl
      obtain ⟨h1, h2, h3, h4, h5⟩ := mCl_ok hcl
      simp only [mchk, hcl, decide_eq_true_eq] at hck
      refine va_new (ci := a) hx hb hts h1 (mfty a) h2 hown (hts _ (mTBL_of hck rfl)) (hts _ h4) (hts _ h5) hK hP hD hS hA hcl (fs := mdef a N) (fun j hj => mdef_v hj) hR.1 hR.2 hd (fun q H1 hP1 hD1 hS1 => ?_)
      have hag : agr (E.length + h.length) ad (fun j => if j = E.length + h.length then q else ad j) := fun j hj => if_neg (by omega)
      have he : mW cy ad E.length h ++ [(q, .inr (a, mdef a N))] = mW cy (fun j => if j = E.length + h.length then q else ad j) E.length (h ++ [.inr (a, mdef a N)]) := by
        rw [mW_push, mW_agr hw hag]
        simp only [trO, mdef_tr, if_true]
      rw [he] at hP1 hD1
      have hk := kk _ H1 locs hag hP1 hD1 hS1 (wfH.push hw mdef_wf) (by
        rw [List.length_append, List.length_singleton]
        intro y hy
        rcases List.mem_cons.mp hy with e1 | e1
        · rw [e1]; show E.length + h.length < E.length + (h.length + 1); omega
        · exact (hws y e1).up (by omega)) (by rw [List.length_append]; exact Nat.le_add_right _ _)
      rw [List.map_cons, map_agr hws hag] at hk
      simpa only [trV, if_true] using hk
    · exact hfalse hs
  case newarray ty =>
    simp only [mheap] at hs; split at hs
    · rename_i z r; split at hs
      · exact hfalse hs
      · rename_i hz; split at hs
        · rename_i hz8; obtain ⟨hz8, ha2⟩ := hz8
          split at hs
          · rename_i hty; cases hs
            have hN9 : ∀ cA : ClassId, vp_cell cA (mdecA ad a z.toNatClampNeg []) = arrV cA z.toNatClampNeg (fun _ => defaultValue (newarray.typeOf ty)) := by
              intro cA
              match a, ha2, hty with
              | 0, _, hty => rw [← Option.some.inj hty]; rfl
              | 1, _, hty => exact absurd hty (by simp [mTys])
              | 2, _, hty => exact absurd hty (by simp [mTys])
            have htr : ∀ ad' : Nat → Nat, mdecA ad' a z.toNatClampNeg [] = mdecA ad a z.toNatClampNeg [] := by
              intro ad'
              match a, ha2 with
              | 0, _ => rfl
              | 1, _ => rfl
              | 2, _ => rfl
            have hwr : wfL (E.length + h.length) r := hws.t
            refine va_newa hx hb (harr a _ ha2 hty) rfl hK hP hD hS hA hN9 hz rfl ?_ hR.1 hR.2 hd (fun q cA H1 hK1 hP1 hD1 hS1 => ?_)
            · have hcb : componentBytes (newarray.typeOf ty) ≤ 8 := by cases ty <;> decide
              exact Nat.le_trans (Nat.mul_le_mul_left _ hcb) hz8
            · have hcA : cA = cy a := by
                have e1 := (hK1.2 (mT cy).length (cA, newarray.typeOf ty) (by rw [List.getElem?_append_right (Nat.le_refl _), Nat.sub_self]; rfl)).2
                have e2 := (hK.2 a _ (mT_get (cy := cy) hty)).2
                cases ty <;> exact Option.some.inj ((show s.vm.findClass _ = some cA from e1).symm.trans e2)
              subst hcA
              have hag : agr (E.length + h.length) ad (fun j => if j = E.length + h.length then q else ad j) := fun j hj => if_neg (by omega)
              have he : mW cy ad E.length h ++ [(q, .inl (cy a, mdecA ad a z.toNatClampNeg []))] = mW cy (fun j => if j = E.length + h.length then q else ad j) E.length (h ++ [.inl (a, z.toNatClampNeg, [])]) := by
                rw [mW_push, mW_agr hw hag]
                simp only [trO, htr, if_true]
              rw [he] at hP1 hD1
              have hk := kk _ H1 locs hag hP1 hD1 hS1 (wfH.push hw (fun q9 h9 => by cases h9)) (by
                rw [List.length_append, List.length_singleton]
                intro y hy
                rcases List.mem_cons.mp hy with e1 | e1
                · rw [e1]; show E.length + h.length < E.length + (h.length + 1); omega
                · exact (hwr y e1).up (by omega)) (by rw [List.length_append]; exact Nat.le_add_right _ _)
              rw [List.map_cons, map_agr hwr hag] at hk
              simpa only [trV, if_true] using hk
          · exact hfalse hs
        · exact hfalse hs
    · exact hfalse hs
  case ldc idx =>
    simp only [mheap] at hs; split at hs
    · rename_i h0; cases hs
      simp only [mchk, h0, if_true, decide_eq_true_eq] at hck
      exact lv_ldc hx hb hown (hts _ (mTBL_of hck rfl)) hd (kk ad H locs agr.rf hP hD hS hw (fun y hy => by
        rcases List.mem_cons.mp hy with e1 | e1
        · rw [e1]; trivial
        · exact hws y e1) (Nat.le_refl _))
    · rename_i h0; split at hs
      · rename_i h1; split at hs
        · rename_i z hz; cases hs
          simp only [mchk, h1, if_true, hz, decide_eq_true_eq, if_neg (show ¬ (1 : Nat) = 0 by decide)] at hck
          have hzm := List.mem_of_getElem? hz
          exact va_ldcM hx hb hown (hts _ (mTBL_of hck rfl)) (hE.2.2 z hzm) hd (kk ad H locs agr.rf hP hD hS hw (fun y hy => by
            rcases List.mem_cons.mp hy with e1 | e1
            · rw [e1]; exact Nat.lt_of_lt_of_le (hEw.2.2 z hzm) (Nat.le_add_right _ _)
            · exact hws y e1) (Nat.le_refl _))
        · exact hfalse hs
      · exact hfalse hs
  case invokevirtual idx =>
    simp only [mheap] at hs; split at hs
    · rename_i h0; split at hs
      · rename_i q r; split at hs
        · rename_i x z hg hz; split at hs
          · rename_i hcond; obtain ⟨hty, hz1, hmw⟩ := hcond
            cases hs
            have hNt := mNat_ok hty
            simp only [mNatOk, Bool.and_eq_true, decide_eq_true_eq] at hNt
            obtain ⟨n1, n2, n3, n4, n5, n6, n7⟩ := hNt
            simp only [mchk, h0, if_true, decide_eq_true_eq] at hck
            have hzm := List.mem_of_getElem? hz
            have hM := hE.2.2 z hzm
            rw [hz1] at hM
            obtain ⟨hr1, hr2⟩ := hRm (by simp [mneedR, h0])
            have hgW := mget_W (cy := cy) (ad := ad) (mrow_of hg)
            have hcy := va_nmO (hK.2 3 _ (mT_get (cy := cy) hty)).2 (nm := "[Ljava/lang/Object;") rfl
            have hmw2 := mwords_tr0 ad r
            refine va_getC hx hb hml hown (hts _ (mTBL_of hck rfl)) (va_Nw.use rfl (hN.1 _ n7)) (hts _ (mTBL_of n1 rfl)) (hts _ (mTBL_of n2 rfl)) (hts _ (mTBL_of n3 rfl)) hM ⟨_, hP _ _ hgW, rfl, hcy⟩ hr1 (by omega) hd ?_
            exact kk ad H locs agr.rf hP hD hS hw (fun y hy => by
              rcases List.mem_cons.mp hy with e1 | e1
              · rw [e1]; exact Nat.lt_of_lt_of_le (hEw.2.2 z hzm) (Nat.le_add_right _ _)
              · exact hws.t y e1) (Nat.le_refl _)
          · exact hfalse hs
        · exact hfalse hs
      · exact hfalse hs
    · exact hfalse hs
  case invokestatic idx =>
    simp only [mheap] at hs; split at hs
    · rename_i h0; split at hs
      · rename_i nn dp q sp u r; split at hs
        · rename_i x y hgx hgy; split at hs
          · exact hfalse hs
          · rename_i hin; split at hs
            · rename_i hcond; obtain ⟨hty, hca, hall⟩ := hcond
              cases hs
              have hNt := mNat_ok hty
              simp only [mNatOk, Bool.and_eq_true, decide_eq_true_eq] at hNt
              obtain ⟨n1, n2, n3, n4, n5, n6, n7⟩ := hNt
              simp only [mchk, h0, if_true, decide_eq_true_eq] at hck
              obtain ⟨hr1, hr2⟩ := hRm (by simp [mneedR, h0])
              have hg2 := mrow_of hgy
              have hgW := mget_W (cy := cy) (ad := ad) (mrow_of hgx)
              have hgW2 := mget_W (cy := cy) (ad := ad) hg2
              have hmw2 := mwords_tr0 ad st'
              unfold mcast at hca
              split at hca
              · rename_i cl hcl
                have hcb := of_decide_eq_true hca
                have hwx : wfO (E.length + h.length) (.inl (3, y.1, mcpW x.2 sp.toNatClampNeg dp.toNatClampNeg nn.toNatClampNeg ++ y.2)) := by
                  intro z hz
                  rcases List.mem_append.mp hz with e1 | e1
                  · obtain ⟨i9, -, rfl⟩ := List.mem_map.mp e1
                    show wfV _ (va_rf (mupR x.2 (sp.toNatClampNeg + i9)))
                    cases hf : mupR x.2 (sp.toNatClampNeg + i9) with
                    | none => trivial
                    | some z9 => exact mupR_wf (wf_get hw (mrow_of hgx)) hf
                  · exact wf_get hw hg2 z e1
                have he : (mW cy ad E.length h).set (q - E.length) (ad q, .inl (cy 3, y.1, .inr (.inr (.inr (.inr (va_cpy (fun j => (mupR x.2 j).map ad) (fun j => (mupR y.2 j).map ad) sp.toNatClampNeg dp.toNatClampNeg nn.toNatClampNeg)))))) = mW cy ad E.length (h.set (q - E.length) (.inl (3, y.1, mcpW x.2 sp.toNatClampNeg dp.toNatClampNeg nn.toNatClampNeg ++ y.2))) := by
                  rw [← mset_W hg2, ← mcpW_up]
                  rfl
                refine va_copyq (C := cl.1) hx hb hml hown (hts _ (mTBL_of hck rfl)) (hts _ (mTBL_of n4 rfl)) (hts _ (mTBL_of n5 rfl)) (hts _ (mTBL_of n6 rfl)) hK hP hD hS _ _ 3 3 (f := fun j => (mupR x.2 j).map ad) (g := fun j => (mupR y.2 j).map ad) hgW hgW2 (mT_get (cy := cy) hty) (mT_get (cy := cy) hty) (fun z => hin (Or.inl (Or.inl z))) (fun z => hin (Or.inl (Or.inr (Or.inl z)))) (fun z => hin (Or.inl (Or.inr (Or.inr z)))) (Nat.not_lt.mp fun z => hin (Or.inr (Or.inl (Or.inl z)))) (Nat.not_lt.mp fun z => hin (Or.inr (Or.inl (Or.inr z)))) ?_ ?_ hr1 (by
                  have h9 : nativeFrameWords "java/lang/System" "arraycopy" 5 = 7 := by decide
                  have h8 : ¬ 8 < mwords st' := fun z => hin (Or.inr (Or.inr z))
                  omega) hd (fun H1 locs1 hP1 hD1 hS1 => ?_)
                · intro i9 hi9 y9 hy9
                  have h9 := List.all_eq_true.mp hall i9 (List.mem_range.mpr hi9)
                  obtain ⟨z9, hz9, rfl⟩ := Option.map_eq_some_iff.mp hy9
                  simp only [mcpO, hz9] at h9
                  split at h9
                  · rename_i o ho
                    have h0c := of_decide_eq_true h9
                    rcases mobjE_or ho with ⟨-, hoE⟩ | hoW
                    · exact mEx_recv hK hS (hE.1 z9 _ hoE) (by rw [h0c]; exact hcl)
                    · exact va_recv hK hP (by rw [h0c]; exact hcl) (mget_W (cy := cy) (ad := ad) hoW)
                  · cases h9
                · intro comp c0 f2 f1
                  obtain ⟨c0', t1, f1', f2', f3⟩ := Cond.castable_spec (va_Nw.use (A := args) rfl (hN.1 _ hcb))
                  cases f1.symm.trans f1'
                  cases f2.symm.trans f2'
                  exact f3
                · rw [he] at hP1 hD1
                  exact kk ad H1 locs1 agr.rf hP1 hD1 hS1 (wfH.set hw hwx) (by rw [List.length_set]; exact hws.t.t.t.t.t) (by rw [List.length_set]; exact Nat.le_refl _)
              · cases hca
            · exact hfalse hs
        · exact hfalse hs
      · exact hfalse hs
    · exact hfalse hs
  case ldc2_w idx =>
    simp only [mheap] at hs; split at hs
    · rename_i h0; cases hs
      simp only [mchk, h0, if_true, decide_eq_true_eq] at hck
      exact lv_ldc2 hx hb hown (hts _ (mTBL_of hck rfl)) hd (kk ad H locs agr.rf hP hD hS hw (fun y hy => by
        rcases List.mem_cons.mp hy with e1 | e1
        · rw [e1]; trivial
        · exact hws y e1) (Nat.le_refl _))
    · exact hfalse hs
  case anewarray idx =>
    simp only [mheap] at hs; split at hs
    · rename_i z r; split at hs
      · exact hfalse hs
      · rename_i hz; split at hs
        · rename_i hz8; obtain ⟨hz8, ha3⟩ := hz8
          subst ha3
          split at hs
          · rename_i C hty; split at hs
            · rename_i hao; cases hs
              simp only [mchk, hty, decide_eq_true_eq] at hck
              have hwr : wfL (E.length + h.length) r := hws.t
              refine va_newq hx hb hown (hts _ (mTBL_of hck rfl)) (hN.1 _ hao) hK hP hD hS hA hz rfl (by omega) hR.1 hR.2 hd (fun q cA H1 hK1 hP1 hD1 hS1 => ?_)
              have hcA : cA = cy 3 := by
                obtain ⟨-, -, -, -, -, e1⟩ := (hK1.2 (mT cy).length (cA, .object C) (by rw [List.getElem?_append_right (Nat.le_refl _), Nat.sub_self]; rfl)).2
                obtain ⟨-, -, -, -, -, e2⟩ := (hK.2 3 _ (mT_get (cy := cy) hty)).2
                exact Option.some.inj (e1.symm.trans e2)
              subst hcA
              have hag : agr (E.length + h.length) ad (fun j => if j = E.length + h.length then q else ad j) := fun j hj => if_neg (by omega)
              have he : mW cy ad E.length h ++ [(q, .inl (cy 3, z.toNatClampNeg, .inr (.inr (.inr (.inr (fun _ => none))))))] = mW cy (fun j => if j = E.length + h.length then q else ad j) E.length (h ++ [.inl (3, z.toNatClampNeg, [])]) := by
                rw [mW_push, mW_agr hw hag]
                simp only [trO, if_true]
                rfl
              rw [he] at hP1 hD1
              have hk := kk _ H1 locs hag hP1 hD1 hS1 (wfH.push hw (fun q9 h9 => by cases h9)) (by
                rw [List.length_append, List.length_singleton]
                intro y hy
                rcases List.mem_cons.mp hy with e1 | e1
                · rw [e1]; show E.length + h.length < E.length + (h.length + 1); omega
                · exact (hwr y e1).up (by omega)) (by rw [List.length_append]; exact Nat.le_add_right _ _)
              rw [List.map_cons, map_agr hwr hag] at hk
              simpa only [trV, if_true] using hk
            · exact hfalse hs
          · exact hfalse hs
        · exact hfalse hs
    · exact hfalse hs
  case getstatic idx =>
    simp only [mheap] at hs; split at hs
    · rename_i z hz; split at hs
      · rename_i h0; cases hs
        simp only [mchk, hz, h0, if_true, decide_eq_true_eq] at hck
        have hzm := List.mem_of_getElem? hz
        exact va_gets hx hb (hE.2.1 z hzm) hS hown (hts _ (mTBL_of hck rfl)) (fun _ h9 => h9) hd (kk ad H locs agr.rf hP hD hS hw (hws.c ((hEw.2.1 z hzm).up (Nat.le_add_right _ _))) (Nat.le_refl _))
      · exact hfalse hs
    · exact hfalse hs
  all_goals (simp only [mheap] at hs; exact hfalse hs)
end MH
