/-! ===== the heap of the small machine, its instructions ===== -/
def mfty (a b : Nat) : FieldType := match mFT[a]? with
  | some t => t b
  | none => .int
def mdef (a N : Nat) : List Value := (List.range N).map (fun k => defaultValue (mfty a k))
/-- can a thing of the class a be stored in a row of C -/
def mcast (a : Nat) (C : String) : Bool := match mCl[a]? with
  | some c => decide (Cond.castable c.1 C ∈ mXw)
  | none => false
/-- an object's class's number and fields, outer or not -/
def mobjE (E : mE) (h : List mO) (a : Nat) : Option (Nat × List Value) := if a < E.length then (match E[a]? with
    | some (.inr o) => some o
    | _ => none) else (match h[a - E.length]? with
    | some (.inr o) => some o
    | _ => none)
/-- a row of the list, of the type t -/
def mrow (X t : Nat) (h : List mO) (a : Nat) : Option (Nat × List (Nat × Value)) := match mget X h a with
  | some (.inl x) => if x.1 = t then some x.2 else none
  | _ => none
def mwords (st : List Value) : Nat := (st.map fun v => v.category).sum
/-- what a copy of references needs of an element, and what it writes -/
def mcpO (E : mE) (h : List mO) (u : List (Nat × Value)) (sp i : Nat) : Bool := match mupR u (sp + i) with
  | none => true
  | some a => (match mobjE E h a with
    | some o => decide (o.1 = 0)
    | none => false)
def mcpW (u : List (Nat × Value)) (sp dp n : Nat) : List (Nat × Value) := (List.range n).map (fun i => (dp + i, va_rf (mupR u (sp + i))))
/-- an instruction that reads, writes or makes something of the heap: the next place, the stack, the heap -/
def mheap (E : mE) (e : mIns) (st : List Value) (h : mH) : Option (Nat × List Value × mH) := match e.2.1 with
  | .getfield _ => match st with
    | .ref q :: r => match mobjE E h.1 q with
      | some o => if o.1 = e.2.2.2.1 then (match mCl[e.2.2.2.1]? with
        | some _ => (match o.2[e.2.2.2.2.1]? with
          | some v => some (e.1 + 3, v :: r, h)
          | none => none)
        | none => none) else none
      | none => none
    | _ => none
  | .putfield _ => match st with
    | v :: .ref q :: r => match mget E.length h.1 q with
      | some (.inr o) => if o.1 = e.2.2.2.1 then (match mCl[e.2.2.2.1]? with
        | some _ => if e.2.2.2.2.1 < o.2.length ∧ narrow (mfty e.2.2.2.1 e.2.2.2.2.1) v = v ∧ fits (mfty e.2.2.2.1 e.2.2.2.2.1) v = true then some (e.1 + 3, r, (h.1.set (q - E.length) (.inr (o.1, o.2.set e.2.2.2.2.1 v)), h.2)) else none
        | none => none) else none
      | _ => none
    | _ => none
  | .iaload => match st with
    | .int i :: .ref q :: r => if q < E.length then (match E[q]? with
        | some (.inl (0, n, .inl f)) => if i < 0 ∨ n ≤ i.toNatClampNeg then none else some (e.1 + 1, .int (f i.toNatClampNeg) :: r, h)
        | _ => none) else (match mrow E.length 0 h.1 q with
        | some x => if i < 0 ∨ x.1 ≤ i.toNatClampNeg then none else some (e.1 + 1, .int (mupI x.2 i.toNatClampNeg) :: r, h)
        | none => none)
    | _ => none
  | .aaload => match st with
    | .int i :: .ref q :: r => if q < E.length then (match E[q]? with
        | some (.inl (t, n, .inr (.inr (.inr (.inr f))))) => (match (mETys[t]? : Option FieldType) with
          | some (.object _) => if i < 0 ∨ n ≤ i.toNatClampNeg then none else some (e.1 + 1, va_rf (f i.toNatClampNeg) :: r, h)
          | _ => none)
        | _ => none) else (match mrow E.length 3 h.1 q with
        | some x => (match (mTys[3]? : Option FieldType) with
          | some (.object _) => if i < 0 ∨ x.1 ≤ i.toNatClampNeg then none else some (e.1 + 1, va_rf (mupR x.2 i.toNatClampNeg) :: r, h)
          | _ => none)
        | none => none)
    | _ => none
  | .laload => match st with
    | .int i :: .ref q :: r => match mrow E.length 1 h.1 q with
      | some x => if mTys[1]? = some .long then (if i < 0 ∨ x.1 ≤ i.toNatClampNeg then none else some (e.1 + 1, .long (mupL x.2 i.toNatClampNeg) :: r, h)) else none
      | none => none
    | _ => none
  | .daload => match st with
    | .int i :: .ref q :: r => match mrow E.length 2 h.1 q with
      | some x => if mTys[2]? = some .double then (if i < 0 ∨ x.1 ≤ i.toNatClampNeg then none else some (e.1 + 1, .double (mupD x.2 i.toNatClampNeg) :: r, h)) else none
      | none => none
    | _ => none
  | .iastore => match st with
    | .int x :: .int i :: .ref q :: r => match mrow E.length 0 h.1 q with
      | some y => if i < 0 ∨ y.1 ≤ i.toNatClampNeg then none else some (e.1 + 1, r, (h.1.set (q - E.length) (.inl (0, y.1, (i.toNatClampNeg, .int x) :: y.2)), h.2))
      | none => none
    | _ => none
  | .lastore => match st with
    | .long x :: .int i :: .ref q :: r => match mrow E.length 1 h.1 q with
      | some y => if mTys[1]? = some .long then (if i < 0 ∨ y.1 ≤ i.toNatClampNeg then none else some (e.1 + 1, r, (h.1.set (q - E.length) (.inl (1, y.1, (i.toNatClampNeg, .long x) :: y.2)), h.2))) else none
      | none => none
    | _ => none
  | .dastore => match st with
    | .double x :: .int i :: .ref q :: r => match mrow E.length 2 h.1 q with
      | some y => if mTys[2]? = some .double then (if i < 0 ∨ y.1 ≤ i.toNatClampNeg then none else some (e.1 + 1, r, (h.1.set (q - E.length) (.inl (2, y.1, (i.toNatClampNeg, .double x) :: y.2)), h.2))) else none
      | none => none
    | _ => none
  | .aastore => match st with
    | .ref v :: .int i :: .ref q :: r => match mrow E.length 3 h.1 q, mobjE E h.1 v with
      | some y, some o => (match (mTys[3]? : Option FieldType) with
        | some (.object C) => if mcast o.1 C = true then (if i < 0 ∨ y.1 ≤ i.toNatClampNeg then none else some (e.1 + 1, r, (h.1.set (q - E.length) (.inl (3, y.1, (i.toNatClampNeg, .ref v) :: y.2)), h.2))) else none
        | _ => none)
      | _, _ => none
    | _ => none
  | .arraylength => match st with
    | .ref q :: r => if q < E.length then (match E[q]? with
        | some (.inl x) => (match mTys[x.1]? with
          | some _ => some (e.1 + 1, .int (Int32.ofNat x.2.1) :: r, h)
          | none => none)
        | _ => none) else (match mget E.length h.1 q with
        | some (.inl x) => if x.1 ≤ 3 then (match mTys[x.1]? with
          | some _ => some (e.1 + 1, .int (Int32.ofNat x.2.1) :: r, h)
          | none => none) else none
        | _ => none)
    | _ => none
  | .new _ => match mCl[e.2.2.2.1]? with
    | some c => some (e.1 + 3, .ref (E.length + h.1.length) :: st, (h.1 ++ [.inr (e.2.2.2.1, mdef e.2.2.2.1 c.2.2)], h.2.1 + 1, h.2.2 + c.2.2))
    | none => none
  | .newarray ty => match st with
    | .int n :: r => if n < 0 then none else (if n.toNatClampNeg * 8 ≤ 536870912 ∧ e.2.2.2.1 ≤ 2 then (if mTys[e.2.2.2.1]? = some (newarray.typeOf ty) then some (e.1 + 2, .ref (E.length + h.1.length) :: r, (h.1 ++ [.inl (e.2.2.2.1, n.toNatClampNeg, [])], h.2.1 + 1, h.2.2 + n.toNatClampNeg)) else none) else none)
    | _ => none
  | .anewarray _ => match st with
    | .int n :: r => if n < 0 then none else (if n.toNatClampNeg * 8 ≤ 536870912 ∧ e.2.2.2.1 = 3 then (match mTys[e.2.2.2.1]? with
        | some (.object C) => if Cond.arrayOver (.object C) ∈ mXw then some (e.1 + 3, .ref (E.length + h.1.length) :: r, (h.1 ++ [.inl (e.2.2.2.1, n.toNatClampNeg, [])], h.2.1 + 1, h.2.2 + n.toNatClampNeg)) else none
        | _ => none) else none)
    | _ => none
  | .ldc _ => if e.2.2.1 = 0 then some (e.1 + 2, .int (Int32.ofNat e.2.2.2.1) :: st, h) else (if e.2.2.1 = 1 then (match mMir[e.2.2.2.1]? with
    | some z => some (e.1 + 2, .ref z.2 :: st, h)
    | none => none) else none)
  | .invokevirtual _ => if e.2.2.2.1 = 994 then (match st with
    | .ref q :: r => (match mrow E.length 3 h.1 q, mMir[0]? with
      | some _, some z => if mTys[3]? = some (.object "java/lang/Object") ∧ z.1 = "[Ljava/lang/Object;" ∧ mwords r ≤ 8 then some (e.1 + 3, .ref z.2 :: r, h) else none
      | _, _ => none)
    | _ => none) else none
  | .invokestatic _ => if e.2.2.2.1 = 993 then (match st with
    | .int n :: .int dp :: .ref q :: .int sp :: .ref u :: r => (match mrow E.length 3 h.1 u, mrow E.length 3 h.1 q with
      | some x, some y => if (sp < 0 ∨ dp < 0 ∨ n < 0) ∨ (x.1 < sp.toNatClampNeg + n.toNatClampNeg ∨ y.1 < dp.toNatClampNeg + n.toNatClampNeg) ∨ 8 < mwords r then none else (if mTys[3]? = some (.object "java/lang/Object") ∧ mcast 0 "java/lang/Object" = true ∧ (List.range n.toNatClampNeg).all (mcpO E h.1 x.2 sp.toNatClampNeg) = true then some (e.1 + 3, r, (h.1.set (q - E.length) (.inl (3, y.1, mcpW x.2 sp.toNatClampNeg dp.toNatClampNeg n.toNatClampNeg ++ y.2)), h.2)) else none)
      | _, _ => none)
    | _ => none) else none
  | .ldc2_w _ => if e.2.2.1 = 0 then some (e.1 + 3, .long (Int64.ofNat e.2.2.2.1) :: st, h) else none
  | .getstatic _ => match mStat[e.2.2.2.1]? with
    | some z => if e.2.2.1 = 0 then some (e.1 + 3, z.2.2.2 :: st, h) else none
    | none => none
  | _ => none
/-! ===== what the tables say of it ===== -/
def mTBL : List Cond := lw_tbl.filter goodWord
theorem mTBL_of {w : Cond} {k : Nat} (h : lw_tbl[k]? = some w) (hg : goodWord w = true) : w ∈ mTBL := List.mem_filter.mpr ⟨List.mem_of_getElem? h, hg⟩
def mGc : MethodName := ⟨"java/lang/Object", "getClass", "()Ljava/lang/Class;"⟩
/-- how a field's instruction is linked: plainly, as a nest mate's, through a class that inherits it -/
def mlinkF (own : String) (idx n k : Nat) (o f d : String) : Bool := if n = 0 then decide (lw_tbl[k]? = some (.fieldLink own idx o f d)) else (if n = 1 then (match mXw[k]? with
  | some (.fieldLinkNest ow i r f1 d1 _) => decide (ow = own ∧ i = idx ∧ r = o ∧ f1 = f ∧ d1 = d)
  | _ => false) else (match lw_tbl[n]? with
  | some (.sameField r o1 f1 d1) => decide (o1 = o ∧ f1 = f ∧ d1 = d) && decide (lw_tbl[k]? = some (.fieldLink own idx r f d))
  | _ => false))
def mneedR (e : mIns) : Bool := decide (e.2.2.2.1 = 993) || decide (e.2.2.2.1 = 994)
def mchk (own : String) (init : Bool) (e : mIns) : Bool := match e.2.1 with
  | .getfield idx => match mCl[e.2.2.2.1]? with
    | some c => decide (e.2.2.2.2.1 < c.2.2) && mlinkF own idx e.2.2.1 e.2.2.2.2.2 (c.2.1 e.2.2.2.2.1).1 (c.2.1 e.2.2.2.2.1).2.1 (c.2.1 e.2.2.2.2.1).2.2.1
    | none => true
  | .putfield idx => match mCl[e.2.2.2.1]? with
    | some c => decide (e.2.2.2.2.1 < c.2.2) && ((mlinkF own idx e.2.2.1 e.2.2.2.2.2 (c.2.1 e.2.2.2.2.1).1 (c.2.1 e.2.2.2.2.1).2.1 (c.2.1 e.2.2.2.2.1).2.2.1 && decide (e.2.2.1 ≠ 1)) && (decide ((c.2.1 e.2.2.2.2.1).2.2.2 = false) || (decide ((c.2.1 e.2.2.2.2.1).2.2.2 = true) && init && decide ((c.2.1 e.2.2.2.2.1).1 = own))))
    | none => true
  | .new idx => match mCl[e.2.2.2.1]? with
    | some c => decide (lw_tbl[e.2.2.2.2.2]? = some (.classLink own idx c.1))
    | none => true
  | .anewarray idx => match mTys[e.2.2.2.1]? with
    | some (.object C) => decide (lw_tbl[e.2.2.2.2.2]? = some (.classLink own idx C))
    | _ => true
  | .ldc idx => if e.2.2.1 = 0 then decide (lw_tbl[e.2.2.2.2.2]? = some (.constant own idx (Int32.ofNat e.2.2.2.1))) else (if e.2.2.1 = 1 then (match mMir[e.2.2.2.1]? with
    | some z => decide (lw_tbl[e.2.2.2.2.2]? = some (.classLink own idx z.1))
    | none => true) else true)
  | .invokevirtual idx => if e.2.2.2.1 = 994 then decide (lw_tbl[e.2.2.2.2.2]? = some (.methodLink own idx mGc)) else true
  | .invokestatic idx => if e.2.2.2.1 = 993 then decide (lw_tbl[e.2.2.2.2.2]? = some (.methodLink own idx arraycopyName)) else true
  | .ldc2_w idx => if e.2.2.1 = 0 then decide (lw_tbl[e.2.2.2.2.2]? = some (.constantLong own idx (Int64.ofNat e.2.2.2.1))) else true
  | .getstatic idx => match mStat[e.2.2.2.1]? with
    | some z => if e.2.2.1 = 0 then decide (lw_tbl[e.2.2.2.2.2]? = some (.fieldLink own idx z.1 z.2.1 z.2.2.1)) else true
    | none => true
  | _ => true
def mNatOk : Bool := decide (lw_tbl[mNatPos.1]? = some (.selects "[Ljava/lang/Object;" mGc mGc)) && (decide (lw_tbl[mNatPos.2.1]? = some (.instanceMethod mGc)) && (decide (lw_tbl[mNatPos.2.2.1]? = some (.native mGc)) && (decide (lw_tbl[mNatPos.2.2.2.1]? = some (.native arraycopyName)) && (decide (lw_tbl[mNatPos.2.2.2.2.1]? = some (.static arraycopyName)) && (decide (lw_tbl[mNatPos.2.2.2.2.2]? = some (.initialized "java/lang/System")) && decide (Cond.declares mGc ∈ mXw))))))
theorem mNat_ok (h : mTys[3]? = some (.object "java/lang/Object")) : mNatOk = true := by simp [mTys] at h
