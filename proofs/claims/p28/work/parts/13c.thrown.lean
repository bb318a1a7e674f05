/-! ===== a call whose run ends at a throw ===== -/
theorem va_Nw_b {w : Cond} (hk : mXbk w = true) {s U : State} (hW : s.WarmedH U.vm) (h : va_Nw w s) : va_Nw w U := by
  unfold mXbk at hk
  split at hk
  · exact va_Nw.warmC hW h
  · exact va_Nw.warmD hW h
  · cases hk
theorem mXs_warm {A B : Nat → Prop} {s U : State} {H : Heap} {locs : List Loc} (hS : va_S A s.heap H locs) (hW : s.WarmedH U.vm) (hU : U.heap = H) (hAB : ∀ q, B q → A q) (h : mXs A s) : mXs B U := by
  obtain ⟨x1, x2, x3, x4⟩ := h
  refine ⟨fun x t r hx hr => ?_, fun r hr w hw => va_Nw_b (List.all_eq_true.mp (List.all_eq_true.mp mXk3_ok r hr) w hw) hW (x2 r hr w hw), ?_, ?_⟩
  · obtain ⟨sa, hsa⟩ := x1 x t r hx hr
    exact ⟨sa, vk_R.warm hW hsa⟩
  · rw [hU]
    exact ((x3.kept hS.2.1).moved hW.alike).narrow hAB
  · rw [hU]
    exact ((x4.kept hS.2.1).moved hW.alike).narrow hAB
theorem mXs_blind {D : va_G} {cy : Nat → ClassId} {E : mE} {ad : Nat → Nat} {as : List Value} {h : List mO} {sz : Nat} {A : Nat → Prop} : FrameBlind (fun a s => mPc D cy E ad as h sz a s ∧ mXs A s) := by
  intro a U g mk q
  obtain ⟨q0, x1, x2, x3, x4⟩ := q
  refine ⟨mPc_blind a U g mk q0, fun x t r hx hr => ?_, fun r hr w hw => va_Nw.same (u := U) (U := U.calling g mk a) (mXbk_tab (List.all_eq_true.mp (List.all_eq_true.mp mXk3_ok r hr) w hw)) rfl (x2 r hr w hw), vx_Zq.moved (u := U) (U := U.calling g mk a) (Vm.Alike.refl U.vm) x3, vx_Zq.moved (u := U) (U := U.calling g mk a) (Vm.Alike.refl U.vm) x4⟩
  obtain ⟨sa, hsa⟩ := x1 x t r hx hr
  exact ⟨sa, vk_R.same (u := U) (U := U.calling g mk a) rfl hsa⟩
section MCX
variable {p : Program} {l : Launch} {e : Env} {R : Room} {s : State} {m : MethodId} {args : Array Value} {below : List Frame} {meth : Method} {c : Code} {H : Heap} {locs : List Loc} {cells slots : Nat} {Q : State → Prop}
set_option maxHeartbeats 4000000 in
theorem m_thrown {cc : ByteArray} {nL : Nat} (htr : l.stackTraces = false) {D : va_G} {cy : Nat → ClassId} {E : mE} {call : Nat → mS → Option mS} (hEw : mEw E) (hcall : mCallOk l D cy E call) (hx : p.tables.exec = Jvm.exec) (hb : c.code = cc) (hml : c.maxLocals = nL) (hts : ∀ w ∈ mTBL, w.before args s = true) {own : String} (hown : s.vm.findClass own = some m.cls)
    {ad : Nat → Nat} {A : Nat → Prop} {i : mIns} {st : List Value} {h : List mO} {ls : Array Slot} {x : mMth} {j k n z : Nat} {as rest : List Value} {S1 : mS} {tx : Nat × Nat × String} {r : mXr} {idx : Nat} (hsz : ls.size = nL) (hck : mchkI own i = true) (hd : decode cc i.1 = .ok (i.2.1, mlen i.2.1 i.2.2.1)) (hiv : i.2.1 = .invokevirtual idx)
    (hK : va_K D mCl (mT cy) s) (hP : va_P D mCl (mW cy ad E.length h) H) (hD : va_D A (mW cy ad E.length h)) (hS : va_S A s.heap H locs) (hA : ∀ q, s.heap.size ≤ q → A q) (hE : mEx D E ad A s s.heap) (hN : mNs s) (hXs : mXs A s) (hw : wfH E.length h) (hws : wfL (E.length + h.length) st)
    (hx0 : mmeth j = some x) (hR1 : x.2.2.2.2.2.1 ≤ R.frames) (hR2 : x.2.2.2.2.2.2 ≤ R.locals)
    (hc : mcallee E i st h = some (k, as, rest)) (hf : mfits j k = true) (hrun : mrunF E call n (ment k as h) = some S1) (ht : mthrown S1 = some z) (hst : S1.1.2.2.2 = []) (hz : mThr[z]? = some tx) (hr : mXcls[tx.1]? = some r) (hR : cells + (S1.2.2.1 + 1) ≤ R.cells ∧ slots + (S1.2.2.2 + 6) ≤ R.slots)
    (kx : ∀ (ad' : Nat → Nat) (H1 : Heap) (locs1 : List Loc) (q9 : Addr) (ce : Cell), agr (E.length + h.length) ad ad' → va_P D mCl (mW cy ad' E.length S1.2.1) H1 → va_D A (mW cy ad' E.length S1.2.1) → va_S A s.heap H1 locs1 → h.length ≤ S1.2.1.length → wfH E.length S1.2.1 → H1[q9]? = some ce → ce.vm = .none → s.vm.findClass r.2.1 = some ce.cls → wfL (E.length + h.length) rest → vx_W p l e R s m args below meth c H1 locs1 (cells + (S1.2.2.1 + 1)) (slots + (S1.2.2.2 + 6)) Q (F0 m i.1 ls (rest.map (trV ad))) q9) :
    W p l e R s m args below meth c H locs cells slots Q (F0 m i.1 ls (st.map (trV ad))) := by
  have hin : ∀ w ∈ mTBL, w ∈ mTBL := fun _ h9 => h9
  unfold mcallee at hc
  split at hc
  · rename_i q y hq hy
    split at hc
    · exact hfalse hc
    · rename_i hq1
      obtain ⟨b1, b2, b3, b4, b5, b6, b7⟩ := mMeth_ok hy hq hq1
      split at hc
      · exact hfalse hc
      · rename_i hlen
        have htk : (st.take q.2.2.2.2.2).length = q.2.2.2.2.2 := by rw [List.length_take]; omega
        have hwt : wfL (E.length + h.length) (st.take q.2.2.2.2.2).reverse := fun v9 h9 => hws v9 (List.mem_of_mem_take (List.mem_reverse.mp h9))
        have hwd : wfL (E.length + h.length) (st.drop q.2.2.2.2.2) := fun v9 h9 => hws v9 (List.mem_of_mem_drop h9)
        have hAn : ((st.take q.2.2.2.2.2).reverse.map (trV ad)).length = q.2.2.2.2.2 := by rw [List.length_map, List.length_reverse, htk]
        obtain ⟨pc, ins, n9, a9, b9, k9⟩ := i
        dsimp only at *
        subst hiv
        dsimp only at *
        split at hc
        · rename_i a rr hdr
          split at hc
          · rename_i o ho
            split at hc
            · rename_i cl hcl
              split at hc
              · rename_i hcond; obtain ⟨c1, c2, c3, c4, c5, c6⟩ := hcond
                have hwd2 : wfL (E.length + h.length) (.ref a :: rr) := by rw [← hdr]; exact hwd
                cases hc
                have hRy : y.2.2.2.2.2.1 + 1 ≤ R.frames ∧ 8 + (y.2.2.1 + 11) + y.2.2.2.2.2.2 ≤ R.locals := by
                  simp only [mfits, hx0, hy, Bool.and_eq_true, decide_eq_true_eq] at hf
                  exact ⟨by omega, by omega⟩
                have hM := met_of_throw htr hEw hcall hy hq hq1 c6 (hwt.c hwd2.h) hw hrun ht hst hz hr ad H.size
                rw [if_neg (by rw [c1]; decide)] at b2
                simp only [mchkI, hy, c3, if_true, decide_eq_true_eq] at hck
                have h9 : ∃ cell : Cell, H[ad a]? = some cell ∧ cell.vm.isStatics = false ∧ s.vm.findClass cl.1 = some cell.cls := by
                  rcases mobjE_or ho with ⟨-, hoE⟩ | hoW
                  · exact mEx_recv hK hS (hE.1 a _ hoE) hcl
                  · exact va_recv hK hP hcl (mget_W (cy := cy) (ad := ad) hoW)
                rw [c4] at h9
                have hAA := m_AA hD hS hA
                have hpre : ∀ U : State, U.heap = H → s.WarmedH U.vm → mPc D cy E ad (.ref a :: (st.take q.2.2.2.2.2).reverse) h H.size (((.ref a :: (st.take q.2.2.2.2.2).reverse).map (trV ad)).toArray) U ∧ mXs (va_A (mW cy ad E.length h) H.size) U := fun U hU hW => ⟨m_pre hK hP hD hS hA hE hN _ U hU hW, mXs_warm hS hW hU hAA hXs⟩
                have hgo : vx_Run p l e R s m args below meth c H locs cells slots (S1.2.2.1 + 1) (S1.2.2.2 + 6) (F0 m pc ls (st.map (trV ad))) (rest.map (trV ad)) (fun _ _ _ => False) (mXC D cy E ad h H.size S1.2.1 r.2.1) (va_A (mW cy ad E.length h) H.size) := by
                  refine vx_runV (Ts := mTBL) (C := y.1.cls) (b := ad a) ⟨hx, hb, hml, hown, hts⟩ hM (cwV q.2.2.2.2.2 hts (mgood_cons (mTBL_of hck rfl) hin (mgood_cons b2 hin (mgood_cons (b3 c2) hin (mgood_cons b4 hin (mws_in hin b1))))) rfl rfl rfl ⟨rfl, b6⟩ hRy) ⟨mXs_blind, h9, hpre⟩ rfl hAn hsz (mk_split hdr) (lv_room (by rw [mwords_tr]; exact c5)) hd hR
                intro T hT X
                rcases hgo T hT X with ⟨v, st₀, t, T', L, h0, X', hL, e1, e2, hF, st9⟩ | ⟨q8, st₀, t, T', L, E8, ce, h0, X', hL, e1, e2, ⟨hE8, ⟨ad', f1, f2, f3⟩, ⟨f4, f5⟩, hz9, hk9⟩, hce, hcv, hcl8, st9⟩
                · exact hF.elim
                · rw [h0] at hz9 hk9
                  subst hE8
                  obtain ⟨t2, d1, d2⟩ := kx ad' T'.heap (locs ++ L) q8 ce f1 (by rw [e1]; exact f2) (f3.weaken (fun k q _ hq => hAA q.1 hq))
                    ⟨Nat.le_trans hS.1 (by rw [e1]; exact hz9), fun q h1 h2 => by rw [e1, hk9 q (Nat.lt_of_lt_of_le h1 hS.1) (fun z => h2 (hAA q z))]; exact hS.2.1 q h1 h2, fun q hq => by
                      rcases List.mem_append.mp hq with h9 | h9
                      · exact hS.2.2 q h9
                      · exact hAA _ (hL q h9)⟩ f4 f5 (by rw [e1]; exact hce) hcv hcl8 hwd2.t T' rfl X'
                  exact ⟨t2, st9.trans d1, d2⟩
              · exact hfalse hc
            · exact hfalse hc
          · exact hfalse hc
        · exact hfalse hc
  · exact hfalse hc
end MCX
