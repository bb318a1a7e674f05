/-! ===== a run of the law, from its entry: the heap's list is empty, all that is known is outer ===== -/
section MLW
variable {p : Program} {l : Launch} {e : Env} {R : Room} {s : State} {m : MethodId} {args : Array Value} {below : List Frame} {meth : Method} {c : Code} {Q : State → Prop}
theorem mW_nil {cy : Nat → ClassId} {ad : Nat → Nat} {X : Nat} : mW cy ad X [] = [] := rfl
theorem law_W {D : va_G} {cy : Nat → ClassId} {E : mE} {c0 : Nat → mS → Option mS} (hEw : mEw E) (hcall : mCallOk l D cy E c0) {k n : Nat} {y : mMth} {as : List Value} {ad : Nat → Nat} {S1 : mS} (hy : mmeth k = some y) (hx : p.tables.exec = Jvm.exec) (hb : c.code = y.2.1) (hml : c.maxLocals = y.2.2.1) (hts : ∀ w ∈ mTBL, w.before args s = true) (hown : s.vm.findClass y.2.2.2.2.1 = some m.cls) (hnm : meth.name = y.1.name) (hR1 : y.2.2.2.2.2.1 ≤ R.frames) (hR2 : y.2.2.2.2.2.2 ≤ R.locals)
    (hK : va_K D mCl (mT cy) s) (hN : mNs s) (hE : mEx D E ad (fun q => s.heap.size ≤ q) s s.heap) (hlen : (lg_sl as).length ≤ y.2.2.1) (hwa : wfL E.length as)
    (hrun : mrunF E c0 n (ment k as []) = some S1) (hc : S1.2.2.1 ≤ R.cells) (hs : S1.2.2.2 ≤ R.slots)
    (land : S1.1.1 = k → ∀ (ad' : Nat → Nat) (H' : Heap) (ls' : Array Slot) (e' : mIns), mlook (mcode k) S1.1.2.1 = some e' → mterm e' = true → W p l e R s m args below meth c H' [] S1.2.2.1 S1.2.2.2 Q (F0 m S1.1.2.1 ls' (S1.1.2.2.2.map (trV ad')))) :
    W p l e R s m args below meth c s.heap [] 0 0 Q (entryFrame m (as.map (trV ad)).toArray y.2.2.1) := by
  have hl := lv_entry (as.map (trV ad)) (n := y.2.2.1) (by rw [lg_sl_tr]; exact hlen)
  rw [lg_entry_eq]
  generalize (lg_sl (as.map (trV ad)) ++ List.replicate (y.2.2.1 - (lg_sl (as.map (trV ad))).length) Slot.unset).toArray = ls at hl ⊢
  rw [lv_args_tr] at hl
  refine sim_run (A := fun q => s.heap.size ≤ q) hEw hcall hx hb hml hts hown hnm hR1 hR2 hK (fun q hq => hq) hN n _ S1 hrun hy hc hs s.heap [] ls ad hE (fun k9 q hq => by have h9 : (([] : va_W))[k9]? = some q := hq; cases h9) (show va_D (fun q => s.heap.size ≤ q) ([] : va_W) from ⟨fun i j x z hi hj => (by cases hi), fun k9 q hq => (by cases hq)⟩) va_S.rf (fun o ho => by cases ho) (lv_args_wf (by exact hwa) 0) (fun v hv => by cases hv) hl ?_
  intro ad' H' locs' ls' e' hag hP' hD' hS' hw' hws' hlen' hj he' ht' hl'
  have hjk : S1.1.1 = k := hj
  rw [hjk] at he'
  exact va_forget hS'.2.2 (land hjk ad' H' ls' e' he' ht')
end MLW
theorem law_goodF {L : Nat} (xs : Nat → Int32) (hL : L ≤ 260) : ∃ (d n : Nat) (S1 : mS), mrunF (qE L xs) (mexec (qE L xs) d) n (ment 116 [.ref 0] []) = some S1 ∧ mretv S1 = some (some (.int 1)) ∧ S1.2.2.1 ≤ 600104 ∧ S1.2.2.2 ≤ 7301314 := by
  obtain ⟨S1, ⟨d, n, hr⟩, h1, h2⟩ := law_run xs (L := L) (by omega)
  have hu := mexec_up d (d + 1) n n _ _ (by omega) (Nat.le_refl _) hr
  refine ⟨d, n, S1, hu, h1, ?_, ?_⟩
  · rw [h2]; decide
  · rw [h2]; decide
