/-! ===== the small machine's runs are the true machine's ===== -/
def mws (y : mMth) : List Cond := Cond.code y.1 y.2.1 y.2.2.1 y.2.2.2.1 :: mTBL
def mrm (y : mMth) (mc ms : Nat) : Room := { frames := y.2.2.2.2.2.1, cells := mc, slots := ms, locals := y.2.2.2.2.2.2 }
theorem mws_in {big : List Cond} (hb : ∀ w ∈ mTBL, w ∈ big) {y : mMth} (hc : Cond.code y.1 y.2.1 y.2.2.1 y.2.2.2.1 ∈ mTBL) : GoodIn big (mws y) := by
  intro w hw
  rcases List.mem_cons.mp hw with e1 | e1
  · subst e1
    exact ⟨hb _ hc, good_of_word (List.mem_filter.mp hc).2⟩
  · exact ⟨hb _ e1, good_of_word (List.mem_filter.mp e1).2⟩
theorem mgood_cons {big : List Cond} {w : Cond} {ws : List Cond} (h : w ∈ mTBL) (hb : ∀ w ∈ mTBL, w ∈ big) (hw : GoodIn big ws) : GoodIn big (w :: ws) := by
  intro x hx
  rcases List.mem_cons.mp hx with e1 | e1
  · subst e1
    exact ⟨hb _ h, good_of_word (List.mem_filter.mp h).2⟩
  · exact hw x e1
/-- a method's start: the whole list lies in the heap -/
def mWo (D : va_G) (cy : Nat → ClassId) (E : mE) (ad : Nat → Nat) (h : List mO) (sz : Nat) (U : State) : Prop :=
  U.heap.size = sz ∧ va_P D mCl (mW cy ad E.length h) U.heap ∧ va_K D mCl (mT cy) U ∧ va_D (fun _ => True) (mW cy ad E.length h) ∧ mEx D E ad (va_A (mW cy ad E.length h) sz) U U.heap ∧ mNs U
def mPc (D : va_G) (cy : Nat → ClassId) (E : mE) (ad : Nat → Nat) (as : List Value) (h : List mO) (sz : Nat) : Array Value → State → Prop := va_Pc (as.map (trV ad)) (mWo D cy E ad h sz)
theorem mPc_blind {D : va_G} {cy : Nat → ClassId} {E : mE} {ad : Nat → Nat} {as : List Value} {h : List mO} {sz : Nat} : FrameBlind (mPc D cy E ad as h sz) := by
  intro a U g mk q
  obtain ⟨q1, q2, q3, q4, q5, q6, q7⟩ := q
  exact ⟨q1, q2, q3, va_K.moved (u := U) (U := U.calling g mk a) (Vm.Alike.refl U.vm) q4, q5, mEx.moved (u := U) (U := U.calling g mk a) (Vm.Alike.refl U.vm) q6, mNs.same (u := U) (U := U.calling g mk a) rfl q7⟩
/-- a method's end -/
def mQc (D : va_G) (cy : Nat → ClassId) (E : mE) (ad : Nat → Nat) (h : List mO) (sz : Nat) (h' : List mO) (v : Option Value) : Array Value → State → Outcome → State → Prop := fun _ st oc t =>
  (∃ ad' : Nat → Nat, agr (E.length + h.length) ad ad' ∧ oc = .returned (v.map (trV ad')) ∧ va_P D mCl (mW cy ad' E.length h') t.heap ∧ va_D (va_A (mW cy ad E.length h) sz) (mW cy ad' E.length h')) ∧
  (h.length ≤ h'.length ∧ wfH E.length h' ∧ ∀ x, v = some x → wfV (E.length + h'.length) x) ∧ va_F (va_A (mW cy ad E.length h) sz) st t
/-- every run of 'call' is a contract -/
def mCallOk (l : Launch) (D : va_G) (cy : Nat → ClassId) (E : mE) (call : Nat → mS → Option mS) : Prop :=
  ∀ (n k : Nat) (y : mMth) (q : Nat × Nat × Nat × Nat × Bool × Nat) (as : List Value) (h : List mO) (S1 : mS) (v : Option Value), mmeth k = some y → mPos[k]? = some q → q.1 ≠ 99999 → (lg_sl as).length ≤ y.2.2.1 → wfL (E.length + h.length) as → wfH E.length h → call n (ment k as h) = some S1 → mretv S1 = some v →
    ∀ (ad : Nat → Nat) (sz : Nat), Met l y.1 (mws y) (mrm y S1.2.2.1 S1.2.2.2) (mPc D cy E ad as h sz) (mQc D cy E ad h sz S1.2.1 v) S1.2.2.1 S1.2.2.2 (va_A (mW cy ad E.length h) sz)
theorem lg_sl_tr (ad : Nat → Nat) (as : List Value) : (lg_sl (as.map (trV ad))).length = (lg_sl as).length := by
  induction as with
  | nil => rfl
  | cons v r ih =>
    simp only [lg_sl, List.map_cons, List.flatMap_cons, List.length_append] at ih ⊢
    rw [ih, trV_cat]
    split <;> rfl
theorem lv_args_tr (ad : Nat → Nat) (as : List Value) : ∀ i : Nat, lv_args i (as.map (trV ad)) = trL ad (lv_args i as) := by
  induction as with
  | nil => intro i; rfl
  | cons v r ih =>
    intro i
    simp only [List.map_cons, lv_args, trL, trV_cat]
    rw [ih]
    rfl
theorem lv_args_wf {n : Nat} {as : List Value} (h : wfL n as) : ∀ i : Nat, wfLv n (lv_args i as) := by
  induction as with
  | nil => intro i q hq; cases hq
  | cons v r ih =>
    intro i q hq
    rcases List.mem_cons.mp hq with e1 | e1
    · rw [e1]; exact h.h
    · exact ih h.t _ q e1
theorem mwords_tr (ad : Nat → Nat) (st : List Value) : ((st.map (trV ad)).map fun v => v.category).sum = mwords st := by
  unfold mwords
  rw [List.map_map]
  congr 1
  apply List.map_congr_left
  intro v _
  exact trV_cat ad v
section MC
variable {p : Program} {l : Launch} {e : Env} {R : Room} {s : State} {m : MethodId} {args : Array Value} {below : List Frame} {meth : Method} {c : Code} {H : Heap} {locs : List Loc} {cells slots : Nat} {Q : State → Prop}
/-- behind a call -/
theorem m_back {D : va_G} {cy : Nat → ClassId} {E : mE} {ad : Nat → Nat} {h h' : List mO} {v : Option Value} {a : Array Value} {A : Nat → Prop} {mc ms pc : Nat} {ls : Array Slot} {st0 rest : List Value} (hw : wfH E.length h)
    (hr : va_Run p l e R s m args below meth c H locs cells slots mc ms (F0 m pc ls st0) rest (mQc D cy E ad h H.size h' v a) (va_A (mW cy ad E.length h) H.size)) (hS : va_S A s.heap H locs) (hAA : ∀ q, va_A (mW cy ad E.length h) H.size q → A q)
    (kk : ∀ (ad' : Nat → Nat) (H1 : Heap) (locs1 : List Loc), agr (E.length + h.length) ad ad' → va_P D mCl (mW cy ad' E.length h') H1 → va_D A (mW cy ad' E.length h') → va_S A s.heap H1 locs1 → h.length ≤ h'.length → wfH E.length h' → (∀ x, v = some x → wfV (E.length + h'.length) x) → W p l e R s m args below meth c H1 locs1 (cells + mc) (slots + ms) Q (F0 m (pc + 3) ls ((v.map (trV ad')).toList ++ rest))) : W p l e R s m args below meth c H locs cells slots Q (F0 m pc ls st0) := by
  intro T hT X
  obtain ⟨v0, st₀, t, T', L, h0, X', hL, e1, e2, ⟨⟨ad', g1, g2, g3, g4⟩, ⟨g5, g6, g7⟩, hz, hk⟩, st⟩ := hr T hT X
  cases g2
  rw [h0] at hz hk
  obtain ⟨t2, a1, b1⟩ := kk ad' T'.heap (locs ++ L) g1 (by rw [e1]; exact g3) (g4.weaken (fun k q _ hq => hAA q.1 hq))
    ⟨Nat.le_trans hS.1 (by rw [e1]; exact hz), fun q h1 h2 => by rw [e1, hk q (Nat.lt_of_lt_of_le h1 hS.1) (fun z => h2 (hAA q z))]; exact hS.2.1 q h1 h2, fun q hq => by
      rcases List.mem_append.mp hq with h9 | h9
      · exact hS.2.2 q h9
      · exact hAA _ (hL q h9)⟩ g5 g6 g7 T' rfl X'
  exact ⟨t2, st t2 a1, b1⟩
theorem m_AA {cy : Nat → ClassId} {E : mE} {ad : Nat → Nat} {h : List mO} {A : Nat → Prop} (hD : va_D A (mW cy ad E.length h)) (hS : va_S A s.heap H locs) (hA : ∀ q, s.heap.size ≤ q → A q) : ∀ q, va_A (mW cy ad E.length h) H.size q → A q := by
  intro q hq
  rcases hq with ⟨k, z, hz⟩ | hq
  · exact hD.2 k _ hz
  · exact hA q (Nat.le_trans hS.1 hq)
/-- the called method's start holds -/
theorem m_pre {D : va_G} {cy : Nat → ClassId} {E : mE} {ad : Nat → Nat} {h : List mO} {A : Nat → Prop} (hK : va_K D mCl (mT cy) s) (hP : va_P D mCl (mW cy ad E.length h) H) (hD : va_D A (mW cy ad E.length h)) (hS : va_S A s.heap H locs) (hA : ∀ q, s.heap.size ≤ q → A q) (hE : mEx D E ad A s s.heap) (hN : mNs s) (as : List Value) :
    ∀ U : State, U.heap = H → s.WarmedH U.vm → mPc D cy E ad as h H.size (as.map (trV ad)).toArray U := by
  intro U hU hW
  refine ⟨rfl, by rw [hU], by rw [hU]; exact hP, va_K.moved hW.alike hK, hD.weaken (fun _ _ _ _ => trivial), ?_, hN.warm hW⟩
  rw [hU]
  exact ((hE.kept hS.2.1).moved hW.alike).narrow (m_AA hD hS hA)
theorem mk_split {ad : Nat → Nat} {st r : List Value} {n : Nat} {a : Nat} (h : st.drop n = .ref a :: r) : st.map (trV ad) = (((st.take n).reverse.map (trV ad))).reverse ++ .ref (ad a) :: r.map (trV ad) := by
  rw [List.map_reverse, List.reverse_reverse]
  have h1 : st = st.take n ++ .ref a :: r := by rw [← h, List.take_append_drop]
  conv => lhs; rw [h1]
  rw [List.map_append]
  rfl
theorem mk_split0 {ad : Nat → Nat} {st : List Value} {n : Nat} : st.map (trV ad) = (((st.take n).reverse.map (trV ad))).reverse ++ (st.drop n).map (trV ad) := by
  rw [List.map_reverse, List.reverse_reverse, ← List.map_append, List.take_append_drop]
set_option maxHeartbeats 4000000 in
/-- a call of the small machine, seen from the true one -/
theorem m_run {cc : ByteArray} {nL : Nat} {D : va_G} {cy : Nat → ClassId} {E : mE} {call : Nat → mS → Option mS} (hcall : mCallOk l D cy E call) (hx : p.tables.exec = Jvm.exec) (hb : c.code = cc) (hml : c.maxLocals = nL) (hts : ∀ w ∈ mTBL, w.before args s = true) {own : String} (hown : s.vm.findClass own = some m.cls)
    {ad : Nat → Nat} {A : Nat → Prop} {i : mIns} {st : List Value} {h : List mO} {ls : Array Slot} {x : mMth} {j k n : Nat} {as rest : List Value} {S1 : mS} {v : Option Value} (hsz : ls.size = nL) (hck : mchkI own i = true) (hd : decode cc i.1 = .ok (i.2.1, mlen i.2.1 i.2.2.1))
    (hK : va_K D mCl (mT cy) s) (hP : va_P D mCl (mW cy ad E.length h) H) (hD : va_D A (mW cy ad E.length h)) (hS : va_S A s.heap H locs) (hA : ∀ q, s.heap.size ≤ q → A q) (hE : mEx D E ad A s s.heap) (hN : mNs s) (hw : wfH E.length h) (hws : wfL (E.length + h.length) st)
    (hi : i.2.2.2.1 ≤ 990) (hx0 : mmeth j = some x) (hR1 : x.2.2.2.2.2.1 ≤ R.frames) (hR2 : x.2.2.2.2.2.2 ≤ R.locals)
    (hc : mcallee E i st h = some (k, as, rest)) (hf : mfits j k = true) (hrun : call n (ment k as h) = some S1) (hret : mretv S1 = some v) (hR : cells + S1.2.2.1 ≤ R.cells ∧ slots + S1.2.2.2 ≤ R.slots) :
    wfL (E.length + h.length) rest ∧ ∃ a : Array Value, va_Run p l e R s m args below meth c H locs cells slots S1.2.2.1 S1.2.2.2 (F0 m i.1 ls (st.map (trV ad))) (rest.map (trV ad)) (mQc D cy E ad h H.size S1.2.1 v a) (va_A (mW cy ad E.length h) H.size) := by
  have hin : ∀ w ∈ mTBL, w ∈ mTBL := fun _ h9 => h9
  unfold mcallee at hc
  split at hc
  · rename_i q y hq hy
    split at hc
    · exact hfalse hc
    · rename_i hq1
      obtain ⟨b1, b2, b3, b4, b5, b6, b7⟩ := mMeth_ok hy hq hq1
      split at hc
      · exact hfalse hc
      · rename_i hlen
        have htk : (st.take q.2.2.2.2.2).length = q.2.2.2.2.2 := by rw [List.length_take]; omega
        have hwt : wfL (E.length + h.length) (st.take q.2.2.2.2.2).reverse := fun v9 h9 => hws v9 (List.mem_of_mem_take (List.mem_reverse.mp h9))
        have hwd : wfL (E.length + h.length) (st.drop q.2.2.2.2.2) := fun v9 h9 => hws v9 (List.mem_of_mem_drop h9)
        have hAn : ((st.take q.2.2.2.2.2).reverse.map (trV ad)).length = q.2.2.2.2.2 := by rw [List.length_map, List.length_reverse, htk]
        obtain ⟨pc, ins, n9, a9, b9, k9⟩ := i
        dsimp only at *
        split at hc
        · rename_i idx
          split at hc
          · rename_i hcond; obtain ⟨c1, c2, c3, c4⟩ := hcond
            cases hc
            refine ⟨hwd, ((st.take q.2.2.2.2.2).reverse.map (trV ad)).toArray, ?_⟩
            have hRy : y.2.2.2.2.2.1 + 1 ≤ R.frames ∧ 8 + (y.2.2.1 + 11) + y.2.2.2.2.2.2 ≤ R.locals := by
              simp only [mfits, hx0, hy, Bool.and_eq_true, decide_eq_true_eq] at hf
              exact ⟨by omega, by omega⟩
            have hM := hcall _ _ y q _ _ _ _ hy hq hq1 c4 hwt hw hrun hret ad H.size
            rw [if_pos c1] at b2
            simp only [mchkI, hy, if_neg (show ¬ k = 997 by omega), if_neg (show ¬ k = 996 by omega)] at hck
            by_cases hn9 : n9 = 0
            · simp only [hn9, if_true, decide_eq_true_eq] at hck
              exact va_runS (Ts := mTBL) ⟨hx, hb, hml, hown, hts⟩ hM (va_cwS q.2.2.2.2.2 hts (mgood_cons (mTBL_of hck rfl) hin (mgood_cons b2 hin (mgood_cons b4 hin (mws_in hin b1)))) rfl rfl rfl b6 hRy) ⟨mPc_blind, m_pre hK hP hD hS hA hE hN _⟩ rfl hAn hsz mk_split0 (lv_room (by rw [mwords_tr]; exact c3)) hd hR
            · simp only [if_neg hn9] at hck
              split at hck
              · rename_i o i2 z host hnst
                obtain ⟨rfl, rfl, rfl⟩ := of_decide_eq_true hck
                exact va_runSN (Ts := mTBL) ⟨hx, hb, hml, hown, hts⟩ hM ⟨va_cnB q.2.2.2.2.2 hts (mws_in hin b1) rfl rfl rfl (hN.1 _ (List.mem_of_getElem? hnst)) (hts _ b4) b6 hRy, hts _ b2, trivial⟩ ⟨mPc_blind, m_pre hK hP hD hS hA hE hN _⟩ rfl hAn hsz mk_split0 (lv_room (by rw [mwords_tr]; exact c3)) hd hR
              · cases hck
          · exact hfalse hc
        · rename_i idx
          split at hc
          · rename_i a r hdr
            split at hc
            · rename_i hcond; obtain ⟨c1, c2, c3, c4, c5⟩ := hcond
              have hwd2 : wfL (E.length + h.length) (.ref a :: r) := by rw [← hdr]; exact hwd
              cases hc
              refine ⟨hwd2.t, (.ref (ad a) :: (st.take q.2.2.2.2.2).reverse.map (trV ad)).toArray, ?_⟩
              have hRy : y.2.2.2.2.2.1 + 1 ≤ R.frames ∧ 8 + (y.2.2.1 + 11) + y.2.2.2.2.2.2 ≤ R.locals := by
                simp only [mfits, hx0, hy, Bool.and_eq_true, decide_eq_true_eq] at hf
                exact ⟨by omega, by omega⟩
              have hM := hcall _ _ y q _ _ _ _ hy hq hq1 c5 (hwt.c hwd2.h) hw hrun hret ad H.size
              rw [if_neg (by rw [c1]; decide)] at b2
              obtain ⟨y1, y2, y3, y4, y5⟩ := y
              dsimp only at *
              subst c3
              simp only [mchkI, hy, if_neg (show ¬ k = 998 by omega)] at hck
              by_cases hn9 : n9 = 0
              · simp only [hn9, if_true, decide_eq_true_eq] at hck
                exact va_runI (Ts := mTBL) ⟨hx, hb, hml, hown, hts⟩ hM (cwI q.2.2.2.2.2 hts (mws_in hin b1) rfl rfl rfl (hts _ b4) (hts _ (mTBL_of hck rfl)) (hts _ b2) c2 b6 hRy) ⟨mPc_blind, m_pre hK hP hD hS hA hE hN _⟩ rfl hAn hsz (mk_split hdr) (lv_room (by rw [mwords_tr]; exact c4)) hd hR
              · simp only [if_neg hn9] at hck
                split at hck
                · rename_i o i2 z host hnst
                  obtain ⟨rfl, rfl, rfl⟩ := of_decide_eq_true hck
                  exact va_runIN (Ts := mTBL) ⟨hx, hb, hml, hown, hts⟩ hM ⟨va_cnB q.2.2.2.2.2 hts (mws_in hin b1) rfl rfl rfl (hN.1 _ (List.mem_of_getElem? hnst)) (hts _ b4) b6 hRy, c2, hts _ b2⟩ ⟨mPc_blind, m_pre hK hP hD hS hA hE hN _⟩ rfl hAn hsz (mk_split hdr) (lv_room (by rw [mwords_tr]; exact c4)) hd hR
                · cases hck
            · exact hfalse hc
          · exact hfalse hc
        · rename_i idx
          split at hc
          · rename_i a r hdr
            split at hc
            · rename_i o ho
              split at hc
              · rename_i cl hcl
                split at hc
                · rename_i hcond; obtain ⟨c1, c2, c3, c4, c5, c6⟩ := hcond
                  have hwd2 : wfL (E.length + h.length) (.ref a :: r) := by rw [← hdr]; exact hwd
                  cases hc
                  refine ⟨hwd2.t, (.ref (ad a) :: (st.take q.2.2.2.2.2).reverse.map (trV ad)).toArray, ?_⟩
                  have hRy : y.2.2.2.2.2.1 + 1 ≤ R.frames ∧ 8 + (y.2.2.1 + 11) + y.2.2.2.2.2.2 ≤ R.locals := by
                    simp only [mfits, hx0, hy, Bool.and_eq_true, decide_eq_true_eq] at hf
                    exact ⟨by omega, by omega⟩
                  have hM := hcall _ _ y q _ _ _ _ hy hq hq1 c6 (hwt.c hwd2.h) hw hrun hret ad H.size
                  rw [if_neg (by rw [c1]; decide)] at b2
                  simp only [mchkI, hy, c3, if_true, decide_eq_true_eq] at hck
                  refine va_runV (Ts := mTBL) (C := y.1.cls) ⟨hx, hb, hml, hown, hts⟩ hM (cwV q.2.2.2.2.2 hts (mgood_cons (mTBL_of hck rfl) hin (mgood_cons b2 hin (mgood_cons (b3 c2) hin (mgood_cons b4 hin (mws_in hin b1))))) rfl rfl rfl ⟨rfl, b6⟩ hRy) ⟨mPc_blind, ?_, m_pre hK hP hD hS hA hE hN _⟩ rfl hAn hsz (mk_split hdr) (lv_room (by rw [mwords_tr]; exact c5)) hd hR
                  have h9 : ∃ cell : Cell, H[ad a]? = some cell ∧ cell.vm.isStatics = false ∧ s.vm.findClass cl.1 = some cell.cls := by
                    rcases mobjE_or ho with ⟨-, hoE⟩ | hoW
                    · exact mEx_recv hK hS (hE.1 a _ hoE) hcl
                    · exact va_recv hK hP hcl (mget_W (cy := cy) (ad := ad) hoW)
                  rw [c4] at h9
                  exact h9
                · exact hfalse hc
              · exact hfalse hc
            · exact hfalse hc
          · exact hfalse hc
        · exact hfalse hc
  · exact hfalse hc
end MC
