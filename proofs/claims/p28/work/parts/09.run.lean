/-! ===== the small machine runs: instructions, calls, returns ===== -/
/-- an end: a return, or where an exception is made and thrown -/
def mterm (e : mIns) : Bool := match e.2.1 with
  | .ireturn | .lreturn | .dreturn | .areturn | .return_ => true
  | .new _ => decide (e.2.2.2.1 = 995)
  | _ => false
def minv (e : mIns) : Bool := match e.2.1 with
  | .invokevirtual _ => decide (e.2.2.2.1 ≠ 994)
  | .invokestatic _ => decide (e.2.2.2.1 ≠ 993)
  | .invokespecial _ => true
  | _ => false
/-- what a place at a return answers -/
def mretv (S : mS) : Option (Option Value) := match mlook (mcode S.1.1) S.1.2.1, mmeth S.1.1 with
  | some e, some y => match e.2.1, S.1.2.2.2, y.2.2.2.1 with
    | .ireturn, [.int x], some ty => if narrow ty (.int x) = .int x then some (some (.int x)) else none
    | .lreturn, [.long x], some .long => some (some (.long x))
    | .dreturn, [.double x], some .double => some (some (.double x))
    | .areturn, [.ref x], some (.object _) => some (some (.ref x))
    | .areturn, [.ref x], some (.array _) => some (some (.ref x))
    | .return_, [], none => some none
    | _, _, _ => none
  | _, _ => none
/-- what is thrown at a place -/
def mthrown (S : mS) : Option Nat := match mlook (mcode S.1.1) S.1.2.1 with
  | some e => (match e.2.1 with
    | .new _ => if e.2.2.2.1 = 995 then some e.2.2.2.2.1 else none
    | _ => none)
  | none => none
/-- a call: the called method, what it takes, what stays on the stack -/
def mcallee (E : mE) (e : mIns) (st : List Value) (h : List mO) : Option (Nat × List Value × List Value) := match mPos[e.2.2.2.1]?, mmeth e.2.2.2.1 with
  | some q, some y => if q.1 = 99999 then none else (if st.length < q.2.2.2.2.2 then none else (match e.2.1 with
    | .invokestatic _ => if q.2.2.2.2.1 = true ∧ e.2.2.1 ≤ 1 ∧ mwords (st.drop q.2.2.2.2.2) ≤ 8 ∧ (lg_sl (st.take q.2.2.2.2.2).reverse).length ≤ y.2.2.1 then some (e.2.2.2.1, (st.take q.2.2.2.2.2).reverse, st.drop q.2.2.2.2.2) else none
    | .invokespecial _ => (match st.drop q.2.2.2.2.2 with
      | .ref a :: r => if q.2.2.2.2.1 = false ∧ y.1.name = "<init>" ∧ y.2.2.2.1 = none ∧ mwords r ≤ 8 ∧ (lg_sl (.ref a :: (st.take q.2.2.2.2.2).reverse)).length ≤ y.2.2.1 then some (e.2.2.2.1, .ref a :: (st.take q.2.2.2.2.2).reverse, r) else none
      | _ => none)
    | .invokevirtual _ => (match st.drop q.2.2.2.2.2 with
      | .ref a :: r => (match mobjE E h a with
        | some o => (match mCl[o.1]? with
          | some cl => if q.2.2.2.2.1 = false ∧ q.2.2.1 ≠ 99999 ∧ e.2.2.1 = 0 ∧ cl.1 = y.1.cls ∧ mwords r ≤ 8 ∧ (lg_sl (.ref a :: (st.take q.2.2.2.2.2).reverse)).length ≤ y.2.2.1 then some (e.2.2.2.1, .ref a :: (st.take q.2.2.2.2.2).reverse, r) else none
          | none => none)
        | none => none)
      | _ => none)
    | _ => none))
  | _, _ => none
/-- Object.<init>, Math.min, Math.max -/
def mspec (j : Nat) (e : mIns) (st : List Value) : Option (Nat × List Value) := match mmeth j with
  | some y => (match e.2.1, st with
    | .invokespecial _, .ref _ :: r => if e.2.2.2.1 = 998 ∧ 1 ≤ y.2.2.2.2.2.1 ∧ mwords r + 12 ≤ y.2.2.2.2.2.2 then some (e.1 + 3, r) else none
    | .invokestatic _, .int b :: .int a :: r => if 1 ≤ y.2.2.2.2.2.1 ∧ mwords r + 13 ≤ y.2.2.2.2.2.2 then (if e.2.2.2.1 = 997 ∧ mMathPos.2.2.1 ≠ 99999 then some (e.1 + 3, .int (if b < a then b else a) :: r) else (if e.2.2.2.1 = 996 ∧ mMathPos.1 ≠ 99999 then some (e.1 + 3, .int (if a < b then b else a) :: r) else none)) else none
    | _, _ => none)
  | none => none
def mstep (E : mE) (e : mIns) (S : mS) : Option mS := match mmeth S.1.1 with
  | some y => match mpure y.2.2.1 e S.1.2.2.1 S.1.2.2.2 with
    | some r => some ((S.1.1, r.1, r.2.1, r.2.2), S.2)
    | none => match mheap E e S.1.2.2.2 S.2 with
      | some r => some ((S.1.1, r.1, S.1.2.2.1, r.2.1), r.2.2)
      | none => none
  | none => none
/-- room: what the called one nests and itself, within what the caller nests -/
def mfits (j k : Nat) : Bool := match mmeth j, mmeth k with
  | some x, some y => decide (y.2.2.2.2.2.1 + 1 ≤ x.2.2.2.2.2.1) && decide (8 + (y.2.2.1 + 11) + y.2.2.2.2.2.2 ≤ x.2.2.2.2.2.2)
  | _, _ => false
def ment (k : Nat) (as : List Value) (h : List mO) : mS := ((k, 0, lv_args 0 as, []), (h, 0, 0))
def mrunF (E : mE) (call : Nat → mS → Option mS) : Nat → mS → Option mS
  | 0, _ => none
  | n + 1, S => match mlook (mcode S.1.1) S.1.2.1 with
    | none => none
    | some e => if mterm e = true then some S else (if minv e = true then (if 990 < e.2.2.2.1 then (match mspec S.1.1 e S.1.2.2.2 with
        | none => none
        | some r => mrunF E call n ((S.1.1, r.1, S.1.2.2.1, r.2), S.2)) else (match mcallee E e S.1.2.2.2 S.2.1 with
        | none => none
        | some r => if mfits S.1.1 r.1 = true then (match call n (ment r.1 r.2.1 S.2.1) with
          | none => none
          | some S1 => (match mretv S1 with
            | none => none
            | some v => mrunF E call n ((S.1.1, e.1 + 3, S.1.2.2.1, v.toList ++ r.2.2), (S1.2.1, S.2.2.1 + S1.2.2.1, S.2.2.2 + S1.2.2.2)))) else none)) else (match mstep E e S with
        | none => none
        | some S1 => mrunF E call n S1))
def mexec (E : mE) : Nat → Nat → mS → Option mS
  | 0 => fun _ _ => none
  | d + 1 => mrunF E (mexec E d)
/-! what the tables say of the methods -/
def mMP (k : Nat) (y : mMth) (q : Nat × Nat × Nat × Nat × Bool × Nat) : Prop :=
  Cond.code y.1 y.2.1 y.2.2.1 y.2.2.2.1 ∈ mTBL ∧ (if q.2.2.2.2.1 = true then Cond.static y.1 ∈ mTBL else Cond.instanceMethod y.1 ∈ mTBL) ∧ (q.2.2.1 ≠ 99999 → Cond.selects y.1.cls y.1 y.1 ∈ mTBL) ∧ Cond.initialized y.1.cls ∈ mTBL ∧ plainName y.1.cls = true ∧
    (y.1.cls ≠ "java/lang/invoke/MethodHandle" ∧ y.1.cls ≠ "java/lang/invoke/VarHandle" ∧ (parseMethodDescriptor y.1.desc).map (fun d => d.parameters.length) = some q.2.2.2.2.2) ∧ y.2.2.2.2.1 = y.1.cls
def mchkP (k : Nat) : Bool := match mmeth k, mPos[k]? with
  | some y, some q => if q.1 = 99999 then true else decide (lw_tbl[q.1]? = some (.code y.1 y.2.1 y.2.2.1 y.2.2.2.1)) && ((if q.2.2.2.2.1 = true then decide (lw_tbl[q.2.1]? = some (.static y.1)) else decide (lw_tbl[q.2.1]? = some (.instanceMethod y.1))) && ((decide (q.2.2.1 = 99999) || decide (lw_tbl[q.2.2.1]? = some (.selects y.1.cls y.1 y.1))) && (decide (lw_tbl[q.2.2.2.1]? = some (.initialized y.1.cls)) && (plainName y.1.cls && (decide (y.1.cls ≠ "java/lang/invoke/MethodHandle" ∧ y.1.cls ≠ "java/lang/invoke/VarHandle" ∧ (parseMethodDescriptor y.1.desc).map (fun d => d.parameters.length) = some q.2.2.2.2.2) && decide (y.2.2.2.2.1 = y.1.cls))))))
  | _, _ => true
/-- what a call's instruction links -/
def mchkI (own : String) (e : mIns) : Bool := match e.2.1 with
  | .invokevirtual idx => match mmeth e.2.2.2.1 with
    | some y => if e.2.2.1 = 0 then decide (lw_tbl[e.2.2.2.2.2]? = some (.methodLink own idx y.1)) else true
    | none => true
  | .invokestatic idx => if e.2.2.2.1 = 997 then decide (lw_tbl[e.2.2.2.2.2]? = some (.methodLink own idx Lib.Math.min.name)) else (if e.2.2.2.1 = 996 then decide (lw_tbl[e.2.2.2.2.2]? = some (.methodLink own idx Lib.Math.max.name)) else (match mmeth e.2.2.2.1 with
    | some y => if e.2.2.1 = 0 then decide (lw_tbl[e.2.2.2.2.2]? = some (.methodLink own idx y.1)) else (match mXw[e.2.2.2.2.2]? with
      | some (.methodLinkNest o i z _) => decide (o = own ∧ i = idx ∧ z = y.1)
      | _ => false)
    | none => true))
  | .invokespecial idx => if e.2.2.2.1 = 998 then decide (lw_tbl[e.2.2.2.2.2]? = some (.methodLink own idx objectInit)) else (match mmeth e.2.2.2.1 with
    | some y => if e.2.2.1 = 0 then decide (lw_tbl[e.2.2.2.2.2]? = some (.methodLink own idx y.1)) else (match mXw[e.2.2.2.2.2]? with
      | some (.methodLinkNest o i z _) => decide (o = own ∧ i = idx ∧ z = y.1)
      | _ => false)
    | none => true)
  | _ => true
def mchkMI (j : Nat) : Bool := match mmeth j with
  | some y => (mcode j).all (fun e => mchkI y.2.2.2.2.1 e && (mchk y.2.2.2.2.1 (decide (y.1.name = "<init>")) e && (!(mneedR e) || (decide (1 ≤ y.2.2.2.2.2.1) && decide (40 ≤ y.2.2.2.2.2.2)))))
  | none => true
def mchkD (j : Nat) : Bool := match mmeth j with
  | some y => (mcode j).all (fun e => decide (decode y.2.1 e.1 = .ok (e.2.1, mlen e.2.1 e.2.2.1)))
  | none => true
