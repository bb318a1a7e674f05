/-! ===== the list of objects as a world of the kit ===== -/
def trA (ad : Nat → Nat) (a : vp_A) : vp_A := match a.2 with
  | .inr (.inr (.inr (.inr f))) => (a.1, .inr (.inr (.inr (.inr (fun i => (f i).map ad)))))
  | x => (a.1, x)
def trO (cy : Nat → ClassId) (ad : Nat → Nat) (o : mO) : va_E := match o with
  | .inl x => .inl (cy x.1, trA ad x.2)
  | .inr x => .inr (x.1, x.2.map (trV ad))
def mW (cy : Nat → ClassId) (ad : Nat → Nat) (X : Nat) (h : List mO) : va_W := h.mapIdx (fun i o => (ad (X + i), trO cy ad o))
def mT (cy : Nat → ClassId) : List (ClassId × FieldType) := mTys.mapIdx (fun i ty => (cy i, ty))
theorem mT_get {cy : Nat → ClassId} {t : Nat} {ty : FieldType} (h : mTys[t]? = some ty) : (mT cy)[t]? = some (cy t, ty) := by simp [mT, List.getElem?_mapIdx, h]
theorem mW_get {cy : Nat → ClassId} {ad : Nat → Nat} {X : Nat} {h : List mO} {i : Nat} {o : mO} (hi : h[i]? = some o) : (mW cy ad X h)[i]? = some (ad (X + i), trO cy ad o) := by simp [mW, List.getElem?_mapIdx, hi]
theorem mW_of {cy : Nat → ClassId} {ad : Nat → Nat} {X : Nat} {h : List mO} {i : Nat} {q : Nat × va_E} (hq : (mW cy ad X h)[i]? = some q) : ∃ o, h[i]? = some o ∧ q = (ad (X + i), trO cy ad o) := by
  simp only [mW, List.getElem?_mapIdx, Option.map_eq_some_iff] at hq
  obtain ⟨o, h1, h2⟩ := hq
  exact ⟨o, h1, h2.symm⟩
theorem mW_len {cy : Nat → ClassId} {ad : Nat → Nat} {X : Nat} {h : List mO} : (mW cy ad X h).length = h.length := by simp [mW]
theorem mW_set {cy : Nat → ClassId} {ad : Nat → Nat} {X : Nat} {h : List mO} {i : Nat} {o : mO} : (mW cy ad X h).set i (ad (X + i), trO cy ad o) = mW cy ad X (h.set i o) := by
  apply List.ext_getElem?
  intro k
  rw [List.getElem?_set]
  simp only [mW, List.getElem?_mapIdx, List.getElem?_set, List.length_mapIdx]
  by_cases hk : i = k
  · subst hk
    simp only [if_true]
    split <;> simp_all
  · simp [hk]
theorem mW_push {cy : Nat → ClassId} {ad : Nat → Nat} {X : Nat} {h : List mO} {o : mO} : mW cy ad X (h ++ [o]) = mW cy ad X h ++ [(ad (X + h.length), trO cy ad o)] := by simp [mW, List.mapIdx_append]
/-! what is not beyond the list's end -/
def wfV (n : Nat) (v : Value) : Prop := match v with
  | .ref a => a < n
  | _ => True
def wfA (n : Nat) (a : vp_A) : Prop := match a.2 with
  | .inr (.inr (.inr (.inr f))) => ∀ i q : Nat, f i = some q → q < n
  | _ => True
def wfO (n : Nat) (o : mO) : Prop := match o with
  | .inl x => wfA n x.2
  | .inr x => ∀ v ∈ x.2, wfV n v
def wfH (X : Nat) (h : List mO) : Prop := ∀ o ∈ h, wfO (X + h.length) o
def wfL (n : Nat) (st : List Value) : Prop := ∀ v ∈ st, wfV n v
def wfLv (n : Nat) (lv : mLv) : Prop := ∀ q ∈ lv, wfV n q.2
def agr (n : Nat) (ad ad' : Nat → Nat) : Prop := ∀ i, i < n → ad' i = ad i
theorem agr.rf {n : Nat} {ad : Nat → Nat} : agr n ad ad := fun _ _ => rfl
theorem agr.tr {n n' : Nat} {ad ad' ad'' : Nat → Nat} (h1 : agr n ad ad') (hn : n ≤ n') (h2 : agr n' ad' ad'') : agr n ad ad'' := fun i hi => (h2 i (Nat.lt_of_lt_of_le hi hn)).trans (h1 i hi)
theorem trV_agr {n : Nat} {ad ad' : Nat → Nat} {v : Value} (h : wfV n v) (ha : agr n ad ad') : trV ad' v = trV ad v := by
  cases v with
  | ref a => exact congrArg Value.ref (ha a h)
  | _ => rfl
theorem map_agr {n : Nat} {ad ad' : Nat → Nat} {st : List Value} (h : wfL n st) (ha : agr n ad ad') : st.map (trV ad') = st.map (trV ad) := List.map_congr_left fun v hv => trV_agr (h v hv) ha
theorem trL_agr {n : Nat} {ad ad' : Nat → Nat} {lv : mLv} (h : wfLv n lv) (ha : agr n ad ad') : trL ad' lv = trL ad lv := List.map_congr_left fun q hq => by rw [trV_agr (h q hq) ha]
theorem trA_agr {n : Nat} {ad ad' : Nat → Nat} {a : vp_A} (h : wfA n a) (ha : agr n ad ad') : trA ad' a = trA ad a := by
  obtain ⟨k, f | f | f | f | f⟩ := a
  · rfl
  · rfl
  · rfl
  · rfl
  · simp only [trA]
    congr 5
    funext i
    cases hi : f i with
    | none => rfl
    | some q => exact congrArg some (ha q (h i q hi))
theorem trO_agr {n : Nat} {cy : Nat → ClassId} {ad ad' : Nat → Nat} {o : mO} (h : wfO n o) (ha : agr n ad ad') : trO cy ad' o = trO cy ad o := by
  cases o with
  | inl x => exact congrArg (fun z => Sum.inl (cy x.1, z)) (trA_agr h ha)
  | inr x => exact congrArg (fun z => Sum.inr (x.1, z)) (map_agr h ha)
theorem mW_agr {X : Nat} {cy : Nat → ClassId} {ad ad' : Nat → Nat} {h : List mO} (hw : wfH X h) (ha : agr (X + h.length) ad ad') : mW cy ad' X h = mW cy ad X h := by
  apply List.ext_getElem?
  intro k
  simp only [mW, List.getElem?_mapIdx]
  cases hk : h[k]? with
  | none => rfl
  | some o =>
    have hl : k < h.length := (List.getElem?_eq_some_iff.mp hk).1
    simp only [Option.map_some]
    rw [trO_agr (hw o (List.mem_of_getElem? hk)) ha, ha (X + k) (by omega)]
theorem wfV.up {n n' : Nat} (hn : n ≤ n') {v : Value} (h : wfV n v) : wfV n' v := by
  cases v with
  | ref a => exact Nat.lt_of_lt_of_le h hn
  | _ => trivial
theorem wfL.up {n n' : Nat} (hn : n ≤ n') {st : List Value} (h : wfL n st) : wfL n' st := fun v hv => (h v hv).up hn
theorem wfLv.up {n n' : Nat} (hn : n ≤ n') {lv : mLv} (h : wfLv n lv) : wfLv n' lv := fun q hq => (h q hq).up hn
theorem wfA.up {n n' : Nat} (hn : n ≤ n') {a : vp_A} (h : wfA n a) : wfA n' a := by
  obtain ⟨k, f | f | f | f | f⟩ := a
  · trivial
  · trivial
  · trivial
  · trivial
  · exact fun i q hq => Nat.lt_of_lt_of_le (h i q hq) hn
theorem wfO.up {n n' : Nat} (hn : n ≤ n') {o : mO} (h : wfO n o) : wfO n' o := by
  cases o with
  | inl x => exact wfA.up hn h
  | inr x => exact fun v hv => (h v hv).up hn
theorem wfH.push {X : Nat} {h : List mO} {o : mO} (hw : wfH X h) (ho : wfO (X + (h.length + 1)) o) : wfH X (h ++ [o]) := by
  intro x hx
  rw [List.length_append, List.length_singleton]
  rcases List.mem_append.mp hx with h1 | h1
  · exact (hw x h1).up (by omega)
  · rw [List.mem_singleton.mp h1]
    exact ho
theorem wfH.set {X : Nat} {h : List mO} {i : Nat} {o : mO} (hw : wfH X h) (ho : wfO (X + h.length) o) : wfH X (h.set i o) := by
  intro x hx
  rw [List.length_set]
  rcases List.mem_or_eq_of_mem_set hx with h1 | h1
  · exact hw x h1
  · rw [h1]
    exact ho
theorem mget_at {X : Nat} {h : List mO} {a : Nat} {o : mO} (hg : mget X h a = some o) : X ≤ a ∧ h[a - X]? = some o := by
  unfold mget at hg
  split at hg
  · cases hg
  · exact ⟨by omega, hg⟩
theorem mget_W {cy : Nat → ClassId} {ad : Nat → Nat} {X : Nat} {h : List mO} {a : Nat} {o : mO} (hg : mget X h a = some o) : (mW cy ad X h)[a - X]? = some (ad a, trO cy ad o) := by
  obtain ⟨h1, h2⟩ := mget_at hg
  have h3 := mW_get (cy := cy) (ad := ad) (X := X) h2
  rwa [show X + (a - X) = a by omega] at h3
theorem mset_W {cy : Nat → ClassId} {ad : Nat → Nat} {X : Nat} {h : List mO} {a : Nat} {o o' : mO} (hg : mget X h a = some o) : (mW cy ad X h).set (a - X) (ad a, trO cy ad o') = mW cy ad X (h.set (a - X) o') := by
  obtain ⟨h1, h2⟩ := mget_at hg
  have h3 := mW_set (cy := cy) (ad := ad) (X := X) (h := h) (i := a - X) (o := o')
  rwa [show X + (a - X) = a by omega] at h3
theorem wf_get {X : Nat} {h : List mO} {a : Nat} {o : mO} (hw : wfH X h) (hg : mget X h a = some o) : wfO (X + h.length) o := hw o (List.mem_of_getElem? (mget_at hg).2)
theorem mdef_v {a N j : Nat} (hj : j < N) : defaultValue (mfty a j) = vp_V (mdef a N) j := by
  simp [vp_V, mdef, List.getD_eq_getElem?_getD, hj]
theorem mdef_wf {n a N : Nat} : wfL n (mdef a N) := by
  intro v hv
  obtain ⟨k, -, rfl⟩ := List.mem_map.mp hv
  cases mfty a k <;> trivial
theorem mdef_tr {ad : Nat → Nat} {a N : Nat} : (mdef a N).map (trV ad) = mdef a N := by
  unfold mdef
  rw [List.map_map]
  apply List.map_congr_left
  intro k _
  cases h : mfty a k <;> simp [Function.comp, h, defaultValue, trV]
theorem narrow_tr {ty : FieldType} {ad : Nat → Nat} {v : Value} (h : narrow ty v = v) : narrow ty (trV ad v) = trV ad v := by
  cases v with
  | ref a => cases ty <;> rfl
  | _ => exact h
theorem fits_tr {ty : FieldType} {ad : Nat → Nat} {v : Value} (h : fits ty v = true) : fits ty (trV ad v) = true := by
  cases v with
  | ref a => cases ty <;> first | exact h | rfl
  | _ => exact h
/-- an outer thing: a row of ints or of references, or an object of a class of ours -/
def mEx1 (D : va_G) (ad : Nat → Nat) (A : Nat → Prop) (U : State) (H : Heap) (q : Nat) (o : mO) : Prop := match o with
  | .inl (t, n, .inl f) => ∀ ty : FieldType, mTys[t]? = some ty → va_T ty (ad q) n (fun j => .int (f j)) A U H
  | .inl (t, n, .inr (.inr (.inr (.inr f)))) => ∀ ty : FieldType, mTys[t]? = some ty → va_T ty (ad q) n (fun j => va_rf ((f j).map ad)) A U H
  | .inl _ => False
  | .inr x => ∀ r : vw_C, mCl[x.1]? = some r → va_at D mCl (ad q, .inr (x.1, x.2.map (trV ad))) H ∧ ¬ A (ad q)
/-- the outer things, and the statics -/
def mEx (D : va_G) (E : mE) (ad : Nat → Nat) (A : Nat → Prop) (U : State) (H : Heap) : Prop :=
  (∀ (q : Nat) (o : mO), E[q]? = some o → mEx1 D ad A U H q o) ∧ ∀ z ∈ mStat, va_Z z.1 z.2.1 z.2.2.1 (trV ad z.2.2.2) A U H
/-- the outer things and the statics know outer things alone -/
def mEw (E : mE) : Prop := (∀ o ∈ E, wfO E.length o) ∧ ∀ z ∈ mStat, wfV E.length z.2.2.2
theorem mEx1.moved {D : va_G} {ad : Nat → Nat} {A : Nat → Prop} {u U : State} {H : Heap} {q : Nat} {o : mO} (hvm : u.vm.Alike U.vm) (h : mEx1 D ad A u H q o) : mEx1 D ad A U H q o := by
  rcases o with ⟨t, n, f | f | f | f | f⟩ | x
  · exact fun ty hty => va_T.moved hvm (h ty hty)
  · exact h
  · exact h
  · exact h
  · exact fun ty hty => va_T.moved hvm (h ty hty)
  · exact h
theorem mEx1.kept {D : va_G} {ad : Nat → Nat} {A : Nat → Prop} {U : State} {H H1 : Heap} {q : Nat} {o : mO} (h : mEx1 D ad A U H q o) (hq : ∀ a : Nat, a < H.size → ¬ A a → H1[a]? = H[a]?) : mEx1 D ad A U H1 q o := by
  rcases o with ⟨t, n, f | f | f | f | f⟩ | x
  · exact fun ty hty => va_T.kept (h ty hty) hq
  · exact h
  · exact h
  · exact h
  · exact fun ty hty => va_T.kept (h ty hty) hq
  · exact fun r hr => ⟨(h r hr).1.kept (hq _ (h r hr).1.lt (h r hr).2), (h r hr).2⟩
theorem mEx1.narrow {D : va_G} {ad : Nat → Nat} {A B : Nat → Prop} {U : State} {H : Heap} {q : Nat} {o : mO} (h : mEx1 D ad A U H q o) (hAB : ∀ q, B q → A q) : mEx1 D ad B U H q o := by
  rcases o with ⟨t, n, f | f | f | f | f⟩ | x
  · exact fun ty hty => va_T.narrow (h ty hty) hAB
  · exact h
  · exact h
  · exact h
  · exact fun ty hty => va_T.narrow (h ty hty) hAB
  · exact fun r hr => ⟨(h r hr).1, fun z => (h r hr).2 (hAB _ z)⟩
theorem mEx1.agr {D : va_G} {ad ad' : Nat → Nat} {A : Nat → Prop} {U : State} {H : Heap} {q n : Nat} {o : mO} (h : mEx1 D ad A U H q o) (hw : wfO n o) (hq : q < n) (ha : agr n ad ad') : mEx1 D ad' A U H q o := by
  rcases o with ⟨t, k, f | f | f | f | f⟩ | x
  · intro ty hty
    rw [ha q hq]
    exact h ty hty
  · exact h
  · exact h
  · exact h
  · intro ty hty
    have h1 := h ty hty
    have h2 : (fun j => va_rf ((f j).map ad')) = (fun j => va_rf ((f j).map ad)) := by
      funext j
      cases hj : f j with
      | none => rfl
      | some z => exact congrArg (fun y => va_rf (some y)) (ha z (hw j z hj))
    rw [ha q hq, h2]
    exact h1
  · intro r hr
    rw [ha q hq, map_agr hw ha]
    exact h r hr
theorem mEx.moved {D : va_G} {E : mE} {ad : Nat → Nat} {A : Nat → Prop} {u U : State} {H : Heap} (hvm : u.vm.Alike U.vm) (h : mEx D E ad A u H) : mEx D E ad A U H := ⟨fun i x hi => (h.1 i x hi).moved hvm, fun z hz => (h.2 z hz).moved hvm⟩
theorem mEx.kept {D : va_G} {E : mE} {ad : Nat → Nat} {A : Nat → Prop} {U : State} {H H1 : Heap} (h : mEx D E ad A U H) (hq : ∀ a : Nat, a < H.size → ¬ A a → H1[a]? = H[a]?) : mEx D E ad A U H1 := ⟨fun i x hi => (h.1 i x hi).kept hq, fun z hz => (h.2 z hz).kept hq⟩
theorem mEx.narrow {D : va_G} {E : mE} {ad : Nat → Nat} {A B : Nat → Prop} {U : State} {H : Heap} (h : mEx D E ad A U H) (hAB : ∀ q, B q → A q) : mEx D E ad B U H := ⟨fun i x hi => (h.1 i x hi).narrow hAB, fun z hz => (h.2 z hz).narrow hAB⟩
theorem mEx.agr {D : va_G} {E : mE} {ad ad' : Nat → Nat} {A : Nat → Prop} {U : State} {H : Heap} (h : mEx D E ad A U H) (hE : mEw E) (ha : agr E.length ad ad') : mEx D E ad' A U H := by
  refine ⟨fun i x hi => (h.1 i x hi).agr (hE.1 x (List.mem_of_getElem? hi)) (List.getElem?_eq_some_iff.mp hi).1 ha, fun z hz => ?_⟩
  rw [trV_agr (hE.2 z hz) ha]
  exact h.2 z hz
theorem mgetE_or {E : mE} {h : List mO} {a : Nat} {o : mO} (hg : mgetE E h a = some o) : (a < E.length ∧ E[a]? = some o) ∨ mget E.length h a = some o := by
  unfold mgetE at hg
  split at hg
  · rename_i hl
    exact Or.inl ⟨hl, hg⟩
  · rename_i hl
    exact Or.inr (by unfold mget; rw [if_neg hl]; exact hg)
theorem wf_getE {E : mE} {h : List mO} {a : Nat} {o : mO} (hE : mEw E) (hw : wfH E.length h) (hg : mgetE E h a = some o) : wfO (E.length + h.length) o := by
  rcases mgetE_or hg with ⟨-, h1⟩ | h1
  · exact (hE.1 o (List.mem_of_getElem? h1)).up (Nat.le_add_right _ _)
  · exact wf_get hw h1
theorem va_P_one {D : va_G} {x : Nat × va_E} {H : Heap} (h : va_at D mCl x H) : va_P D mCl [x] H := by
  intro k q hq
  match k, hq with
  | 0, hq => cases hq; exact h
  | k + 1, hq => simp at hq
/-! words that a call moves by rows of their own -/
def mXk (w : Cond) : Bool := match w with
  | .methodLinkNest _ _ _ _ => true
  | .castable _ _ => true
  | .arrayOver (.object _) => true
  | _ => false
theorem mXw_is : mXw.all mXk = true := by decide +kernel
def mNs (U : State) : Prop := ∀ w ∈ mXw, va_Nw w U
theorem mNs.warm {s U : State} (hW : s.WarmedH U.vm) (h : mNs s) : mNs U := by
  intro w hw
  have h1 := List.all_eq_true.mp mXw_is w hw
  have h2 := h w hw
  unfold mXk at h1
  split at h1
  · exact va_Nw.warmM hW h2
  · exact va_Nw.warmC hW h2
  · exact va_AO.moved hW.alike h2
  · cases h1
theorem mNs.same {u U : State} (hv : u.vm = U.vm) (h : mNs u) : mNs U := by
  intro w hw
  have h1 := List.all_eq_true.mp mXw_is w hw
  have h2 := h w hw
  unfold mXk at h1
  split at h1
  · exact va_Nw.same rfl hv h2
  · exact va_Nw.same rfl hv h2
  · exact va_AO.moved (hv ▸ Vm.Alike.refl _) h2
  · cases h1
