/-! ===== the list of objects as a world of the kit ===== -/
/-- a row of the list as the kit has it -/
def mdecA (ad : Nat → Nat) (t n : Nat) (u : List (Nat × Value)) : vp_A := match t with
  | 0 => (n, .inl (mupI u))
  | 1 => (n, .inr (.inl (mupL u)))
  | 2 => (n, .inr (.inr (.inr (.inl (mupD u)))))
  | _ => (n, .inr (.inr (.inr (.inr (fun i => (mupR u i).map ad)))))
def trO (cy : Nat → ClassId) (ad : Nat → Nat) (o : mO) : va_E := match o with
  | .inl x => .inl (cy x.1, mdecA ad x.1 x.2.1 x.2.2)
  | .inr x => .inr (x.1, x.2.map (trV ad))
theorem mdecA_len (ad : Nat → Nat) (t n : Nat) (u : List (Nat × Value)) : (mdecA ad t n u).1 = n := by
  unfold mdecA
  split <;> rfl
theorem mupI_c (u : List (Nat × Value)) (i : Nat) (x : Int32) : mupI ((i, .int x) :: u) = upd (mupI u) i x := by
  funext j
  by_cases h : i = j
  · subst h
    simp [mupI, mup, upd]
  · have h2 : ¬ j = i := fun e => h e.symm
    simp [mupI, mup, upd, h, h2]
theorem mupL_c (u : List (Nat × Value)) (i : Nat) (x : Int64) : mupL ((i, .long x) :: u) = vp_updL (mupL u) i x := by
  funext j
  by_cases h : i = j
  · subst h
    simp [mupL, mup, vp_updL]
  · have h2 : ¬ j = i := fun e => h e.symm
    simp [mupL, mup, vp_updL, h, h2]
theorem mupD_c (u : List (Nat × Value)) (i : Nat) (x : UInt64) : mupD ((i, .double x) :: u) = vf_upd (mupD u) i x := by
  funext j
  by_cases h : i = j
  · subst h
    simp [mupD, mup, vf_upd]
  · have h2 : ¬ j = i := fun e => h e.symm
    simp [mupD, mup, vf_upd, h, h2]
theorem mupR_c (u : List (Nat × Value)) (i x : Nat) (ad : Nat → Nat) : (fun j => (mupR ((i, .ref x) :: u) j).map ad) = va_up (fun j => (mupR u j).map ad) i (some (ad x)) := by
  funext j
  by_cases h : i = j
  · subst h
    simp [mupR, mup, va_up]
  · have h2 : ¬ j = i := fun e => h e.symm
    simp [mupR, mup, va_up, h, h2]
def mW (cy : Nat → ClassId) (ad : Nat → Nat) (X : Nat) (h : List mO) : va_W := h.mapIdx (fun i o => (ad (X + i), trO cy ad o))
def mT (cy : Nat → ClassId) : List (ClassId × FieldType) := mTys.mapIdx (fun i ty => (cy i, ty))
theorem mT_get {cy : Nat → ClassId} {t : Nat} {ty : FieldType} (h : mTys[t]? = some ty) : (mT cy)[t]? = some (cy t, ty) := by simp [mT, List.getElem?_mapIdx, h]
theorem mW_get {cy : Nat → ClassId} {ad : Nat → Nat} {X : Nat} {h : List mO} {i : Nat} {o : mO} (hi : h[i]? = some o) : (mW cy ad X h)[i]? = some (ad (X + i), trO cy ad o) := by simp [mW, List.getElem?_mapIdx, hi]
theorem mW_of {cy : Nat → ClassId} {ad : Nat → Nat} {X : Nat} {h : List mO} {i : Nat} {q : Nat × va_E} (hq : (mW cy ad X h)[i]? = some q) : ∃ o, h[i]? = some o ∧ q = (ad (X + i), trO cy ad o) := by
  simp only [mW, List.getElem?_mapIdx, Option.map_eq_some_iff] at hq
  obtain ⟨o, h1, h2⟩ := hq
  exact ⟨o, h1, h2.symm⟩
theorem mW_len {cy : Nat → ClassId} {ad : Nat → Nat} {X : Nat} {h : List mO} : (mW cy ad X h).length = h.length := by simp [mW]
theorem mW_set {cy : Nat → ClassId} {ad : Nat → Nat} {X : Nat} {h : List mO} {i : Nat} {o : mO} : (mW cy ad X h).set i (ad (X + i), trO cy ad o) = mW cy ad X (h.set i o) := by
  apply List.ext_getElem?
  intro k
  rw [List.getElem?_set]
  simp only [mW, List.getElem?_mapIdx, List.getElem?_set, List.length_mapIdx]
  by_cases hk : i = k
  · subst hk
    simp only [if_true]
    split <;> simp_all
  · simp [hk]
theorem mW_push {cy : Nat → ClassId} {ad : Nat → Nat} {X : Nat} {h : List mO} {o : mO} : mW cy ad X (h ++ [o]) = mW cy ad X h ++ [(ad (X + h.length), trO cy ad o)] := by simp [mW, List.mapIdx_append]
/-! what is not beyond the list's end -/
def wfV (n : Nat) (v : Value) : Prop := match v with
  | .ref a => a < n
  | _ => True
def wfO (n : Nat) (o : mO) : Prop := match o with
  | .inl x => ∀ q ∈ x.2.2, wfV n q.2
  | .inr x => ∀ v ∈ x.2, wfV n v
/-- the same of an outer thing -/
def wfA (n : Nat) (a : vp_A) : Prop := match a.2 with
  | .inr (.inr (.inr (.inr f))) => ∀ i q : Nat, f i = some q → q < n
  | _ => True
def wfX (n : Nat) (o : mX) : Prop := match o with
  | .inl x => wfA n x.2
  | .inr x => ∀ v ∈ x.2, wfV n v
theorem mup_mem {u : List (Nat × Value)} {j : Nat} {v : Value} (h : mup u j = some v) : (j, v) ∈ u := by
  induction u with
  | nil => cases h
  | cons q r ih =>
    unfold mup at h
    split at h
    · rename_i hq
      cases h
      rw [← hq]
      exact List.mem_cons_self
    · exact List.mem_cons_of_mem _ (ih h)
theorem mupR_wf {n : Nat} {u : List (Nat × Value)} (h : ∀ q ∈ u, wfV n q.2) {j q : Nat} (hq : mupR u j = some q) : q < n := by
  unfold mupR at hq
  split at hq
  · rename_i x hx
    cases hq
    exact h _ (mup_mem hx)
  · cases hq
def wfH (X : Nat) (h : List mO) : Prop := ∀ o ∈ h, wfO (X + h.length) o
def wfL (n : Nat) (st : List Value) : Prop := ∀ v ∈ st, wfV n v
def wfLv (n : Nat) (lv : mLv) : Prop := ∀ q ∈ lv, wfV n q.2
def agr (n : Nat) (ad ad' : Nat → Nat) : Prop := ∀ i, i < n → ad' i = ad i
theorem agr.rf {n : Nat} {ad : Nat → Nat} : agr n ad ad := fun _ _ => rfl
theorem agr.tr {n n' : Nat} {ad ad' ad'' : Nat → Nat} (h1 : agr n ad ad') (hn : n ≤ n') (h2 : agr n' ad' ad'') : agr n ad ad'' := fun i hi => (h2 i (Nat.lt_of_lt_of_le hi hn)).trans (h1 i hi)
theorem trV_agr {n : Nat} {ad ad' : Nat → Nat} {v : Value} (h : wfV n v) (ha : agr n ad ad') : trV ad' v = trV ad v := by
  cases v with
  | ref a => exact congrArg Value.ref (ha a h)
  | _ => rfl
theorem map_agr {n : Nat} {ad ad' : Nat → Nat} {st : List Value} (h : wfL n st) (ha : agr n ad ad') : st.map (trV ad') = st.map (trV ad) := List.map_congr_left fun v hv => trV_agr (h v hv) ha
theorem trL_agr {n : Nat} {ad ad' : Nat → Nat} {lv : mLv} (h : wfLv n lv) (ha : agr n ad ad') : trL ad' lv = trL ad lv := List.map_congr_left fun q hq => by rw [trV_agr (h q hq) ha]
theorem trO_agr {n : Nat} {cy : Nat → ClassId} {ad ad' : Nat → Nat} {o : mO} (h : wfO n o) (ha : agr n ad ad') : trO cy ad' o = trO cy ad o := by
  cases o with
  | inl x =>
    obtain ⟨t, k, u⟩ := x
    have h2 : (fun i => (mupR u i).map ad') = (fun i => (mupR u i).map ad) := by
      funext j
      cases hj : mupR u j with
      | none => rfl
      | some q => exact congrArg some (ha q (mupR_wf h hj))
    simp only [trO, mdecA]
    split <;> first | rfl | rw [h2]
  | inr x => exact congrArg (fun z => Sum.inr (x.1, z)) (map_agr h ha)
theorem mW_agr {X : Nat} {cy : Nat → ClassId} {ad ad' : Nat → Nat} {h : List mO} (hw : wfH X h) (ha : agr (X + h.length) ad ad') : mW cy ad' X h = mW cy ad X h := by
  apply List.ext_getElem?
  intro k
  simp only [mW, List.getElem?_mapIdx]
  cases hk : h[k]? with
  | none => rfl
  | some o =>
    have hl : k < h.length := (List.getElem?_eq_some_iff.mp hk).1
    simp only [Option.map_some]
    rw [trO_agr (hw o (List.mem_of_getElem? hk)) ha, ha (X + k) (by omega)]
theorem wfV.up {n n' : Nat} (hn : n ≤ n') {v : Value} (h : wfV n v) : wfV n' v := by
  cases v with
  | ref a => exact Nat.lt_of_lt_of_le h hn
  | _ => trivial
theorem wfL.up {n n' : Nat} (hn : n ≤ n') {st : List Value} (h : wfL n st) : wfL n' st := fun v hv => (h v hv).up hn
theorem wfLv.up {n n' : Nat} (hn : n ≤ n') {lv : mLv} (h : wfLv n lv) : wfLv n' lv := fun q hq => (h q hq).up hn
theorem wfO.up {n n' : Nat} (hn : n ≤ n') {o : mO} (h : wfO n o) : wfO n' o := by
  cases o with
  | inl x => exact fun q hq => (h q hq).up hn
  | inr x => exact fun v hv => (h v hv).up hn
theorem wfH.push {X : Nat} {h : List mO} {o : mO} (hw : wfH X h) (ho : wfO (X + (h.length + 1)) o) : wfH X (h ++ [o]) := by
  intro x hx
  rw [List.length_append, List.length_singleton]
  rcases List.mem_append.mp hx with h1 | h1
  · exact (hw x h1).up (by omega)
  · rw [List.mem_singleton.mp h1]
    exact ho
theorem wfH.set {X : Nat} {h : List mO} {i : Nat} {o : mO} (hw : wfH X h) (ho : wfO (X + h.length) o) : wfH X (h.set i o) := by
  intro x hx
  rw [List.length_set]
  rcases List.mem_or_eq_of_mem_set hx with h1 | h1
  · exact hw x h1
  · rw [h1]
    exact ho
theorem mget_at {X : Nat} {h : List mO} {a : Nat} {o : mO} (hg : mget X h a = some o) : X ≤ a ∧ h[a - X]? = some o := by
  unfold mget at hg
  split at hg
  · cases hg
  · exact ⟨by omega, hg⟩
theorem mget_W {cy : Nat → ClassId} {ad : Nat → Nat} {X : Nat} {h : List mO} {a : Nat} {o : mO} (hg : mget X h a = some o) : (mW cy ad X h)[a - X]? = some (ad a, trO cy ad o) := by
  obtain ⟨h1, h2⟩ := mget_at hg
  have h3 := mW_get (cy := cy) (ad := ad) (X := X) h2
  rwa [show X + (a - X) = a by omega] at h3
theorem mset_W {cy : Nat → ClassId} {ad : Nat → Nat} {X : Nat} {h : List mO} {a : Nat} {o o' : mO} (hg : mget X h a = some o) : (mW cy ad X h).set (a - X) (ad a, trO cy ad o') = mW cy ad X (h.set (a - X) o') := by
  obtain ⟨h1, h2⟩ := mget_at hg
  have h3 := mW_set (cy := cy) (ad := ad) (X := X) (h := h) (i := a - X) (o := o')
  rwa [show X + (a - X) = a by omega] at h3
theorem wf_get {X : Nat} {h : List mO} {a : Nat} {o : mO} (hw : wfH X h) (hg : mget X h a = some o) : wfO (X + h.length) o := hw o (List.mem_of_getElem? (mget_at hg).2)
theorem mdef_v {a N j : Nat} (hj : j < N) : defaultValue (mfty a j) = vp_V (mdef a N) j := by
  simp [vp_V, mdef, List.getD_eq_getElem?_getD, hj]
theorem mdef_wf {n a N : Nat} : wfL n (mdef a N) := by
  intro v hv
  obtain ⟨k, -, rfl⟩ := List.mem_map.mp hv
  cases mfty a k <;> trivial
theorem mdef_tr {ad : Nat → Nat} {a N : Nat} : (mdef a N).map (trV ad) = mdef a N := by
  unfold mdef
  rw [List.map_map]
  apply List.map_congr_left
  intro k _
  cases h : mfty a k <;> simp [Function.comp, h, defaultValue, trV]
theorem narrow_tr {ty : FieldType} {ad : Nat → Nat} {v : Value} (h : narrow ty v = v) : narrow ty (trV ad v) = trV ad v := by
  cases v with
  | ref a => cases ty <;> rfl
  | _ => exact h
theorem fits_tr {ty : FieldType} {ad : Nat → Nat} {v : Value} (h : fits ty v = true) : fits ty (trV ad v) = true := by
  cases v with
  | ref a => cases ty <;> first | exact h | rfl
  | _ => exact h
/-- an outer thing: a row of ints or of references, or an object of a class of ours -/
def mEx1 (D : va_G) (ad : Nat → Nat) (A : Nat → Prop) (U : State) (H : Heap) (q : Nat) (o : mX) : Prop := match o with
  | .inl (t, n, .inl f) => ∀ ty : FieldType, mTys[t]? = some ty → va_T ty (ad q) n (fun j => .int (f j)) A U H
  | .inl (t, n, .inr (.inr (.inr (.inr f)))) => ∀ ty : FieldType, mETys[t]? = some ty → va_T ty (ad q) n (fun j => va_rf ((f j).map ad)) A U H
  | .inl _ => False
  | .inr x => ∀ r : vw_C, mCl[x.1]? = some r → (x.2 = [] ∧ va_O r.1 (ad q) A U H) ∨ (va_at D mCl (ad q, .inr (x.1, x.2.map (trV ad))) H ∧ ¬ A (ad q))
/-- the outer things, and the statics -/
def mEx (D : va_G) (E : mE) (ad : Nat → Nat) (A : Nat → Prop) (U : State) (H : Heap) : Prop :=
  (∀ (q : Nat) (o : mX), E[q]? = some o → mEx1 D ad A U H q o) ∧ (∀ z ∈ mStat, va_Z z.1 z.2.1 z.2.2.1 (trV ad z.2.2.2) A U H) ∧ ∀ z ∈ mMir, va_Mi z.1 (ad z.2) U
/-- the outer things and the statics know outer things alone -/
def mEw (E : mE) : Prop := (∀ o ∈ E, wfX E.length o) ∧ (∀ z ∈ mStat, wfV E.length z.2.2.2) ∧ ∀ z ∈ mMir, z.2 < E.length
theorem mEx1.moved {D : va_G} {ad : Nat → Nat} {A : Nat → Prop} {u U : State} {H : Heap} {q : Nat} {o : mX} (hvm : u.vm.Alike U.vm) (h : mEx1 D ad A u H q o) : mEx1 D ad A U H q o := by
  rcases o with ⟨t, n, f | f | f | f | f⟩ | x
  · exact fun ty hty => va_T.moved hvm (h ty hty)
  · exact h
  · exact h
  · exact h
  · exact fun ty hty => va_T.moved hvm (h ty hty)
  · intro r hr
    rcases h r hr with ⟨e, h1⟩ | h1
    · exact Or.inl ⟨e, va_O.moved hvm h1⟩
    · exact Or.inr h1
theorem mEx1.kept {D : va_G} {ad : Nat → Nat} {A : Nat → Prop} {U : State} {H H1 : Heap} {q : Nat} {o : mX} (h : mEx1 D ad A U H q o) (hq : ∀ a : Nat, a < H.size → ¬ A a → H1[a]? = H[a]?) : mEx1 D ad A U H1 q o := by
  rcases o with ⟨t, n, f | f | f | f | f⟩ | x
  · exact fun ty hty => va_T.kept (h ty hty) hq
  · exact h
  · exact h
  · exact h
  · exact fun ty hty => va_T.kept (h ty hty) hq
  · intro r hr
    rcases h r hr with ⟨e, h1⟩ | ⟨h1, h2⟩
    · exact Or.inl ⟨e, h1.kept hq⟩
    · exact Or.inr ⟨h1.kept (hq _ h1.lt h2), h2⟩
theorem mEx1.narrow {D : va_G} {ad : Nat → Nat} {A B : Nat → Prop} {U : State} {H : Heap} {q : Nat} {o : mX} (h : mEx1 D ad A U H q o) (hAB : ∀ q, B q → A q) : mEx1 D ad B U H q o := by
  rcases o with ⟨t, n, f | f | f | f | f⟩ | x
  · exact fun ty hty => va_T.narrow (h ty hty) hAB
  · exact h
  · exact h
  · exact h
  · exact fun ty hty => va_T.narrow (h ty hty) hAB
  · intro r hr
    rcases h r hr with ⟨e, h1⟩ | ⟨h1, h2⟩
    · exact Or.inl ⟨e, h1.narrow hAB⟩
    · exact Or.inr ⟨h1, fun z => h2 (hAB _ z)⟩
theorem mEx1.agr {D : va_G} {ad ad' : Nat → Nat} {A : Nat → Prop} {U : State} {H : Heap} {q n : Nat} {o : mX} (h : mEx1 D ad A U H q o) (hw : wfX n o) (hq : q < n) (ha : agr n ad ad') : mEx1 D ad' A U H q o := by
  rcases o with ⟨t, k, f | f | f | f | f⟩ | x
  · intro ty hty
    rw [ha q hq]
    exact h ty hty
  · exact h
  · exact h
  · exact h
  · intro ty hty
    have h1 := h ty hty
    have h2 : (fun j => va_rf ((f j).map ad')) = (fun j => va_rf ((f j).map ad)) := by
      funext j
      cases hj : f j with
      | none => rfl
      | some z => exact congrArg (fun y => va_rf (some y)) (ha z (hw j z hj))
    rw [ha q hq, h2]
    exact h1
  · intro r hr
    rw [ha q hq, map_agr hw ha]
    exact h r hr
theorem mEx_recv {D : va_G} {tys : List (ClassId × FieldType)} {ad : Nat → Nat} {A : Nat → Prop} {s : State} {H : Heap} {locs : List Loc} {q : Nat} {x : Nat × List Value} {r : vw_C} (hK : va_K D mCl tys s) (hS : va_S A s.heap H locs) (h : mEx1 D ad A s s.heap q (.inr x)) (hr : mCl[x.1]? = some r) : ∃ cell : Cell, H[ad q]? = some cell ∧ cell.vm.isStatics = false ∧ s.vm.findClass r.1 = some cell.cls := by
  rcases h r hr with ⟨-, h1⟩ | ⟨g1, g2⟩
  · exact va_Orecv h1 hS
  · refine va_recv (q0 := 0) (ws := [(ad q, .inr (x.1, x.2.map (trV ad)))]) hK (fun k z hz => ?_) hr rfl
    match k, hz with
    | 0, hz => cases hz; exact g1.kept (hS.2.1 _ g1.lt g2)
    | k + 1, hz => simp at hz
theorem mEx.moved {D : va_G} {E : mE} {ad : Nat → Nat} {A : Nat → Prop} {u U : State} {H : Heap} (hvm : u.vm.Alike U.vm) (h : mEx D E ad A u H) : mEx D E ad A U H := ⟨fun i x hi => (h.1 i x hi).moved hvm, fun z hz => (h.2.1 z hz).moved hvm, fun z hz => (h.2.2 z hz).moved hvm⟩
theorem mEx.kept {D : va_G} {E : mE} {ad : Nat → Nat} {A : Nat → Prop} {U : State} {H H1 : Heap} (h : mEx D E ad A U H) (hq : ∀ a : Nat, a < H.size → ¬ A a → H1[a]? = H[a]?) : mEx D E ad A U H1 := ⟨fun i x hi => (h.1 i x hi).kept hq, fun z hz => (h.2.1 z hz).kept hq, h.2.2⟩
theorem mEx.narrow {D : va_G} {E : mE} {ad : Nat → Nat} {A B : Nat → Prop} {U : State} {H : Heap} (h : mEx D E ad A U H) (hAB : ∀ q, B q → A q) : mEx D E ad B U H := ⟨fun i x hi => (h.1 i x hi).narrow hAB, fun z hz => (h.2.1 z hz).narrow hAB, h.2.2⟩
theorem mEx.agr {D : va_G} {E : mE} {ad ad' : Nat → Nat} {A : Nat → Prop} {U : State} {H : Heap} (h : mEx D E ad A U H) (hE : mEw E) (ha : agr E.length ad ad') : mEx D E ad' A U H := by
  refine ⟨fun i x hi => (h.1 i x hi).agr (hE.1 x (List.mem_of_getElem? hi)) (List.getElem?_eq_some_iff.mp hi).1 ha, fun z hz => ?_, fun z hz => ?_⟩
  · rw [trV_agr (hE.2.1 z hz) ha]
    exact h.2.1 z hz
  · rw [ha z.2 (hE.2.2 z hz)]
    exact h.2.2 z hz
theorem mobjE_or {E : mE} {h : List mO} {a : Nat} {o : Nat × List Value} (hg : mobjE E h a = some o) : (a < E.length ∧ E[a]? = some (.inr o)) ∨ mget E.length h a = some (.inr o) := by
  unfold mobjE at hg
  split at hg
  · rename_i hl
    split at hg
    · rename_i o2 ho
      cases hg
      exact Or.inl ⟨hl, ho⟩
    · cases hg
  · rename_i hl
    split at hg
    · rename_i o2 ho
      cases hg
      exact Or.inr (by unfold mget; rw [if_neg hl]; exact ho)
    · cases hg
theorem mrow_of {X t a : Nat} {h : List mO} {x : Nat × List (Nat × Value)} (hg : mrow X t h a = some x) : mget X h a = some (.inl (t, x)) := by
  unfold mrow at hg
  split at hg
  · rename_i y hy
    split at hg
    · rename_i ht
      cases hg
      rw [← ht]
      exact hy
    · cases hg
  · cases hg
theorem wf_objE {E : mE} {h : List mO} {a : Nat} {o : Nat × List Value} (hE : mEw E) (hw : wfH E.length h) (hg : mobjE E h a = some o) : ∀ v ∈ o.2, wfV (E.length + h.length) v := by
  rcases mobjE_or hg with ⟨-, h1⟩ | h1
  · exact fun v hv => (hE.1 _ (List.mem_of_getElem? h1) v hv).up (Nat.le_add_right _ _)
  · exact wf_get hw h1
theorem va_P_one {D : va_G} {x : Nat × va_E} {H : Heap} (h : va_at D mCl x H) : va_P D mCl [x] H := by
  intro k q hq
  match k, hq with
  | 0, hq => cases hq; exact h
  | k + 1, hq => simp at hq
/-! words that a call moves by rows of their own -/
def mXk (w : Cond) : Bool := match w with
  | .methodLinkNest _ _ _ _ => true
  | .fieldLinkNest _ _ _ _ _ _ => true
  | .declares _ => true
  | .castable _ _ => true
  | .arrayOver (.object _) => true
  | _ => false
theorem mXw_is : mXw.all mXk = true := by decide +kernel
def mIfk (z : String × MethodName × MethodName) : Bool := decide (z.2.1.cls ≠ "java/lang/invoke/MethodHandle" ∧ z.2.1.cls ≠ "java/lang/invoke/VarHandle")
theorem mIfs_is : mIfs.all mIfk = true := by decide +kernel
/-- words that a call moves by rows of their own, and what calls of an interface's methods need -/
def mNs (U : State) : Prop := (∀ w ∈ mXw, va_Nw w U) ∧ ∀ z ∈ mIfs, va_Fw z.1 z.2.1 z.2.2 U
theorem mNs.warm {s U : State} (hW : s.WarmedH U.vm) (h : mNs s) : mNs U := by
  refine ⟨?_, fun z hz => va_Fw.moved (of_decide_eq_true (List.all_eq_true.mp mIfs_is z hz)) hW.alike (h.2 z hz)⟩
  intro w hw
  have h1 := List.all_eq_true.mp mXw_is w hw
  have h2 := h.1 w hw
  unfold mXk at h1
  split at h1
  · exact va_Nw.warmM hW h2
  · exact va_Nw.warmF hW h2
  · exact va_Nw.warmD hW h2
  · exact va_Nw.warmC hW h2
  · exact va_AO.moved hW.alike h2
  · cases h1
theorem mNs.same {u U : State} (hv : u.vm = U.vm) (h : mNs u) : mNs U := by
  refine ⟨?_, fun z hz => va_Fw.moved (of_decide_eq_true (List.all_eq_true.mp mIfs_is z hz)) (hv ▸ Vm.Alike.refl _) (h.2 z hz)⟩
  intro w hw
  have h1 := List.all_eq_true.mp mXw_is w hw
  have h2 := h.1 w hw
  unfold mXk at h1
  split at h1
  · exact va_Nw.same rfl hv h2
  · exact va_Nw.same rfl hv h2
  · exact va_Nw.same rfl hv h2
  · exact va_Nw.same rfl hv h2
  · exact va_AO.moved (hv ▸ Vm.Alike.refl _) h2
  · cases h1
