/-! ===== a run that comes to an end of which P holds: rules, one an instruction; branches give two goals ===== -/
def To (E : mE) (S : mS) (P : mS → Prop) : Prop := ∃ S1 : mS, Rn E S S1 ∧ P S1
/-- what a call's end must be -/
def mEnd (v : Option Value) (h : mH) (S1 : mS) : Prop := mretv S1 = some v ∧ S1.2 = h
theorem Cl.of {E : mE} {k : Nat} {as : List Value} {h : List mO} {v : Option Value} {h' : mH} (t : To E ((k, 0, lv_args 0 as, []), (h, 0, 0)) (mEnd v h')) : Cl E k as h v h' := by
  obtain ⟨S1, h1, h2, h3⟩ := t
  exact ⟨S1, h1, h2, h3⟩
section TO
variable {E : mE} {P : mS → Prop} {j pc pc' : Nat} {lv lv' : mLv} {st st' : List Value} {h h' : mH} {e : mIns} {y : mMth}
theorem To.step {S S1 : mS} (hr : ∀ S' : mS, Rn E S1 S' → Rn E S S') (t : To E S1 P) : To E S P := by
  obtain ⟨S', h1, h2⟩ := t
  exact ⟨S', hr S' h1, h2⟩
theorem To.pure (he : mlook (mcode j) pc = some e) (ht : mterm e = false) (hi : minv e = false) (hy : mmeth j = some y) (hp : mpure y.2.2.1 e lv st = some (pc', lv', st')) (k : To E ((j, pc', lv', st'), h) P) : To E ((j, pc, lv, st), h) P := k.step fun _ hr => Rn.pure he ht hi hy hp hr
theorem To.heap (he : mlook (mcode j) pc = some e) (ht : mterm e = false) (hi : minv e = false) (hy : mmeth j = some y) (h0 : mpure y.2.2.1 e lv st = none) (hp : mheap E e st h = some (pc', st', h')) (k : To E ((j, pc', lv, st'), h') P) : To E ((j, pc, lv, st), h) P := k.step fun _ hr => Rn.heap he ht hi hy h0 hp hr
theorem To.spec (he : mlook (mcode j) pc = some e) (ht : mterm e = false) (hi : minv e = true) (ha : 990 < e.2.2.2.1) (hp : mspec j e st = some (pc', st')) (k : To E ((j, pc', lv, st'), h) P) : To E ((j, pc, lv, st), h) P := k.step fun _ hr => Rn.spec he ht hi ha hp hr
theorem To.call {k9 : Nat} {as rest : List Value} {h0 : List mO} {nc ns : Nat} {v : Option Value} {hA : mH} (he : mlook (mcode j) pc = some e) (ht : mterm e = false) (hi : minv e = true) (ha : e.2.2.2.1 ≤ 990) (hc : mcallee E e st h0 = some (k9, as, rest)) (hf : mfits j k9 = true) (hcl : Cl E k9 as h0 v hA) (hpc : e.1 + 3 = pc') (hst : v.toList ++ rest = st')
    (hH : (hA.1, nc + hA.2.1, ns + hA.2.2) = h') (k : To E ((j, pc', lv, st'), h') P) : To E ((j, pc, lv, st), (h0, nc, ns)) P := by
  subst hpc; subst hst; subst hH
  exact k.step fun _ hr => Rn.call he ht hi ha hc hf hcl hr
theorem To.term {S : mS} (he : mlook (mcode S.1.1) S.1.2.1 = some e) (ht : mterm e = true) (hP : P S) : To E S P := ⟨S, Rn.term he ht, hP⟩
end TO
