/-! ===== the heap of the small machine, its instructions ===== -/
def mfty (a b : Nat) : FieldType := match mFT[a]? with
  | some t => t b
  | none => .int
def mdef (a N : Nat) : List Value := (List.range N).map (fun k => defaultValue (mfty a k))
/-- a row of k things, all alike at first, by its type's number -/
def mnewA (t n : Nat) : Option vp_A := match t with
  | 0 => some (n, .inl (fun _ => 0))
  | 1 => some (n, .inr (.inl (fun _ => 0)))
  | 2 => some (n, .inr (.inr (.inr (.inl (fun _ => 0)))))
  | _ => none
/-- can a thing of the class a be stored in a row of C -/
def mcast (a : Nat) (C : String) : Bool := match mCl[a]? with
  | some c => decide (Cond.castable c.1 C ∈ mXw)
  | none => false
/-- an instruction that reads, writes or makes something of the heap: the next place, the stack, the heap -/
def mheap (E : mE) (e : mIns) (st : List Value) (h : mH) : Option (Nat × List Value × mH) := match e.2.1 with
  | .getfield _ => match st with
    | .ref q :: r => match mgetE E h.1 q with
      | some (.inr o) => if o.1 = e.2.2.2.1 then (match mCl[e.2.2.2.1]? with
        | some _ => (match o.2[e.2.2.2.2.1]? with
          | some v => some (e.1 + 3, v :: r, h)
          | none => none)
        | none => none) else none
      | _ => none
    | _ => none
  | .putfield _ => match st with
    | v :: .ref q :: r => match mget E.length h.1 q with
      | some (.inr o) => if o.1 = e.2.2.2.1 then (match mCl[e.2.2.2.1]? with
        | some _ => if e.2.2.2.2.1 < o.2.length ∧ narrow (mfty e.2.2.2.1 e.2.2.2.2.1) v = v ∧ fits (mfty e.2.2.2.1 e.2.2.2.2.1) v = true then some (e.1 + 3, r, (h.1.set (q - E.length) (.inr (o.1, o.2.set e.2.2.2.2.1 v)), h.2)) else none
        | none => none) else none
      | _ => none
    | _ => none
  | .iaload => match st with
    | .int i :: .ref q :: r => match mgetE E h.1 q with
      | some (.inl (0, n, .inl f)) => if i < 0 ∨ n ≤ i.toNatClampNeg then none else some (e.1 + 1, .int (f i.toNatClampNeg) :: r, h)
      | _ => none
    | _ => none
  | .aaload => match st with
    | .int i :: .ref q :: r => match mgetE E h.1 q with
      | some (.inl (t, n, .inr (.inr (.inr (.inr f))))) => (match mTys[t]? with
        | some (.object _) => if i < 0 ∨ n ≤ i.toNatClampNeg then none else some (e.1 + 1, va_rf (f i.toNatClampNeg) :: r, h)
        | _ => none)
      | _ => none
    | _ => none
  | .laload => match st with
    | .int i :: .ref q :: r => match mget E.length h.1 q with
      | some (.inl (1, n, .inr (.inl f))) => if mTys[1]? = some .long then (if i < 0 ∨ n ≤ i.toNatClampNeg then none else some (e.1 + 1, .long (f i.toNatClampNeg) :: r, h)) else none
      | _ => none
    | _ => none
  | .daload => match st with
    | .int i :: .ref q :: r => match mget E.length h.1 q with
      | some (.inl (2, n, .inr (.inr (.inr (.inl f))))) => if mTys[2]? = some .double then (if i < 0 ∨ n ≤ i.toNatClampNeg then none else some (e.1 + 1, .double (f i.toNatClampNeg) :: r, h)) else none
      | _ => none
    | _ => none
  | .iastore => match st with
    | .int x :: .int i :: .ref q :: r => match mget E.length h.1 q with
      | some (.inl (0, n, .inl f)) => if i < 0 ∨ n ≤ i.toNatClampNeg then none else some (e.1 + 1, r, (h.1.set (q - E.length) (.inl (0, n, .inl (upd f i.toNatClampNeg x))), h.2))
      | _ => none
    | _ => none
  | .lastore => match st with
    | .long x :: .int i :: .ref q :: r => match mget E.length h.1 q with
      | some (.inl (1, n, .inr (.inl f))) => if mTys[1]? = some .long then (if i < 0 ∨ n ≤ i.toNatClampNeg then none else some (e.1 + 1, r, (h.1.set (q - E.length) (.inl (1, n, .inr (.inl (vp_updL f i.toNatClampNeg x)))), h.2))) else none
      | _ => none
    | _ => none
  | .dastore => match st with
    | .double x :: .int i :: .ref q :: r => match mget E.length h.1 q with
      | some (.inl (2, n, .inr (.inr (.inr (.inl f))))) => if mTys[2]? = some .double then (if i < 0 ∨ n ≤ i.toNatClampNeg then none else some (e.1 + 1, r, (h.1.set (q - E.length) (.inl (2, n, .inr (.inr (.inr (.inl (vf_upd f i.toNatClampNeg x)))))), h.2))) else none
      | _ => none
    | _ => none
  | .aastore => match st with
    | .ref v :: .int i :: .ref q :: r => match mget E.length h.1 q, mgetE E h.1 v with
      | some (.inl (t, n, .inr (.inr (.inr (.inr f))))), some (.inr o) => (match mTys[t]? with
        | some (.object C) => if mcast o.1 C = true then (if i < 0 ∨ n ≤ i.toNatClampNeg then none else some (e.1 + 1, r, (h.1.set (q - E.length) (.inl (t, n, .inr (.inr (.inr (.inr (va_up f i.toNatClampNeg (some v))))))), h.2))) else none
        | _ => none)
      | _, _ => none
    | _ => none
  | .arraylength => match st with
    | .ref q :: r => match mgetE E h.1 q with
      | some (.inl x) => (match mTys[x.1]? with
        | some _ => some (e.1 + 1, .int (Int32.ofNat x.2.1) :: r, h)
        | none => none)
      | _ => none
    | _ => none
  | .new _ => match mCl[e.2.2.2.1]? with
    | some c => some (e.1 + 3, .ref (E.length + h.1.length) :: st, (h.1 ++ [.inr (e.2.2.2.1, mdef e.2.2.2.1 c.2.2)], h.2.1 + 1, h.2.2 + c.2.2))
    | none => none
  | .newarray ty => match st with
    | .int n :: r => if n < 0 then none else (if n.toNatClampNeg * 8 ≤ 536870912 then (if mTys[e.2.2.2.1]? = some (newarray.typeOf ty) then (match mnewA e.2.2.2.1 n.toNatClampNeg with
        | some x => some (e.1 + 2, .ref (E.length + h.1.length) :: r, (h.1 ++ [.inl (e.2.2.2.1, x)], h.2.1 + 1, h.2.2 + n.toNatClampNeg))
        | none => none) else none) else none)
    | _ => none
  | .anewarray _ => match st with
    | .int n :: r => if n < 0 then none else (if n.toNatClampNeg * 8 ≤ 536870912 then (match mTys[e.2.2.2.1]? with
        | some (.object C) => if Cond.arrayOver (.object C) ∈ mXw then some (e.1 + 3, .ref (E.length + h.1.length) :: r, (h.1 ++ [.inl (e.2.2.2.1, n.toNatClampNeg, .inr (.inr (.inr (.inr (fun _ => none)))))], h.2.1 + 1, h.2.2 + n.toNatClampNeg)) else none
        | _ => none) else none)
    | _ => none
  | .ldc _ => if e.2.2.1 = 0 then some (e.1 + 2, .int (Int32.ofNat e.2.2.2.1) :: st, h) else none
  | .ldc2_w _ => if e.2.2.1 = 0 then some (e.1 + 3, .long (Int64.ofNat e.2.2.2.1) :: st, h) else none
  | .getstatic _ => match mStat[e.2.2.2.1]? with
    | some z => if e.2.2.1 = 0 then some (e.1 + 3, z.2.2.2 :: st, h) else none
    | none => none
  | _ => none
/-! ===== what the tables say of it ===== -/
def mTBL : List Cond := lw_tbl.filter goodWord
theorem mTBL_of {w : Cond} {k : Nat} (h : lw_tbl[k]? = some w) (hg : goodWord w = true) : w ∈ mTBL := List.mem_filter.mpr ⟨List.mem_of_getElem? h, hg⟩
def mchk (own : String) (init : Bool) (e : mIns) : Bool := match e.2.1 with
  | .getfield idx => match mCl[e.2.2.2.1]? with
    | some c => decide (e.2.2.2.2.1 < c.2.2) && decide (lw_tbl[e.2.2.2.2.2]? = some (.fieldLink own idx (c.2.1 e.2.2.2.2.1).1 (c.2.1 e.2.2.2.2.1).2.1 (c.2.1 e.2.2.2.2.1).2.2.1))
    | none => true
  | .putfield idx => match mCl[e.2.2.2.1]? with
    | some c => decide (e.2.2.2.2.1 < c.2.2) && (decide (lw_tbl[e.2.2.2.2.2]? = some (.fieldLink own idx (c.2.1 e.2.2.2.2.1).1 (c.2.1 e.2.2.2.2.1).2.1 (c.2.1 e.2.2.2.2.1).2.2.1)) && (decide ((c.2.1 e.2.2.2.2.1).2.2.2 = false) || (decide ((c.2.1 e.2.2.2.2.1).2.2.2 = true) && init && decide ((c.2.1 e.2.2.2.2.1).1 = own))))
    | none => true
  | .new idx => match mCl[e.2.2.2.1]? with
    | some c => decide (lw_tbl[e.2.2.2.2.2]? = some (.classLink own idx c.1))
    | none => true
  | .anewarray idx => match mTys[e.2.2.2.1]? with
    | some (.object C) => decide (lw_tbl[e.2.2.2.2.2]? = some (.classLink own idx C))
    | _ => true
  | .ldc idx => if e.2.2.1 = 0 then decide (lw_tbl[e.2.2.2.2.2]? = some (.constant own idx (Int32.ofNat e.2.2.2.1))) else true
  | .ldc2_w idx => if e.2.2.1 = 0 then decide (lw_tbl[e.2.2.2.2.2]? = some (.constantLong own idx (Int64.ofNat e.2.2.2.1))) else true
  | .getstatic idx => match mStat[e.2.2.2.1]? with
    | some z => if e.2.2.1 = 0 then decide (lw_tbl[e.2.2.2.2.2]? = some (.fieldLink own idx z.1 z.2.1 z.2.2.1)) else true
    | none => true
  | _ => true
