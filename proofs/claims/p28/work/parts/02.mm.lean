/-! A SMALL MACHINE over lists: what a method's instructions do, as a function of a heap that is a list of objects; later it is shown that the true machine goes the same way. A reference is the place of an object, counted from the outer things (rows that are only read: the first of them) on. -/
/-- a thing of the list: a row (its type's number, its length, what was written: the last first), or an object (its class's number, its fields) -/
abbrev mO : Type := (Nat × Nat × List (Nat × Value)) ⊕ (Nat × List Value)
/-- an outer thing: a row, whatever it holds, or an object -/
abbrev mX : Type := (Nat × vp_A) ⊕ (Nat × List Value)
/-- the outer things: rows and objects that are only read, the first places -/
abbrev mE : Type := List mX
abbrev mIns : Type := Nat × Instr × Nat × Nat × Nat × Nat
abbrev mMth : Type := MethodName × ByteArray × Nat × Option FieldType × String × Nat × Nat
abbrev mLv : Type := List (Nat × Value)
/-- heap, cells and slots made in this call -/
abbrev mH : Type := List mO × Nat × Nat
/-- method, place, locals, stack -/
abbrev mF : Type := Nat × Nat × mLv × List Value
abbrev mS : Type := mF × mH
def mlook (l : List mIns) (pc : Nat) : Option mIns := match l with
  | [] => none
  | e :: r => if e.1 = pc then some e else mlook r pc
def mcode (j : Nat) : List mIns := mCodes.getD j []
def mmeth (j : Nat) : Option mMth := mMeths[j]?
def mlv (l : mLv) (i : Nat) : Option Value := match l with
  | [] => none
  | q :: r => if q.1 = i then some q.2 else mlv r i
def mset1 (l : mLv) (i : Nat) (v : Value) : mLv := (i, v) :: l.filter (fun q => !(q.1 == i) && !(q.1 + 1 == i && q.2.category == 2))
def mset2 (l : mLv) (i : Nat) (v : Value) : mLv := (i, v) :: l.filter (fun q => !(q.1 == i) && (!(q.1 == i + 1) && !(q.1 + 1 == i && q.2.category == 2)))
def mget (X : Nat) (h : List mO) (a : Nat) : Option mO := if a < X then none else h[a - X]?
/-- what was written last at a place -/
def mup (u : List (Nat × Value)) (j : Nat) : Option Value := match u with
  | [] => none
  | q :: r => if q.1 = j then some q.2 else mup r j
def mupI (u : List (Nat × Value)) (j : Nat) : Int32 := match mup u j with
  | some (.int x) => x
  | _ => 0
def mupL (u : List (Nat × Value)) (j : Nat) : Int64 := match mup u j with
  | some (.long x) => x
  | _ => 0
def mupD (u : List (Nat × Value)) (j : Nat) : UInt64 := match mup u j with
  | some (.double x) => x
  | _ => 0
def mupR (u : List (Nat × Value)) (j : Nat) : Option Nat := match mup u j with
  | some (.ref x) => some x
  | _ => none
def mtgt (pc : Nat) (off : Int) : Nat := ((pc : Int) + off).toNat
def mjmp (pc : Nat) (off : Int) : Bool := decide (0 ≤ (pc : Int) + off)
/-- an instruction that stays in the method, and makes, reads or writes nothing of the heap: the next place, the locals, the stack -/
def mpure (nL : Nat) (e : mIns) (lv : mLv) (st : List Value) : Option (Nat × mLv × List Value) := match e.2.1 with
  | .iconst n => some (e.1 + 1, lv, .int (Int32.ofInt n) :: st)
  | .bipush n => some (e.1 + 2, lv, .int (Int8.ofInt n).toInt32 :: st)
  | .sipush n => some (e.1 + 3, lv, .int (Int16.ofInt n).toInt32 :: st)
  | .lconst n => some (e.1 + 1, lv, .long (Int64.ofNat (n : Nat)) :: st)
  | .dconst n => if (n : Nat) = 0 then some (e.1 + 1, lv, .double FP.dconst0 :: st) else none
  | .iload_n k => match mlv lv (k : Nat) with
    | some (.int x) => some (e.1 + 1, lv, .int x :: st)
    | _ => none
  | .iload i => match mlv lv i with
    | some (.int x) => some (e.1 + 2, lv, .int x :: st)
    | _ => none
  | .lload_n k => match mlv lv (k : Nat) with
    | some (.long x) => some (e.1 + 1, lv, .long x :: st)
    | _ => none
  | .lload i => match mlv lv i with
    | some (.long x) => some (e.1 + 2, lv, .long x :: st)
    | _ => none
  | .aload_n k => match mlv lv (k : Nat) with
    | some (.ref x) => some (e.1 + 1, lv, .ref x :: st)
    | _ => none
  | .aload i => match mlv lv i with
    | some (.ref x) => some (e.1 + 2, lv, .ref x :: st)
    | _ => none
  | .istore_n k => match st with
    | .int x :: r => if (k : Nat) < nL then some (e.1 + 1, mset1 lv (k : Nat) (.int x), r) else none
    | _ => none
  | .istore i => match st with
    | .int x :: r => if i < nL then some (e.1 + 2, mset1 lv i (.int x), r) else none
    | _ => none
  | .lstore_n k => match st with
    | .long x :: r => if (k : Nat) + 1 < nL then some (e.1 + 1, mset2 lv (k : Nat) (.long x), r) else none
    | _ => none
  | .lstore i => match st with
    | .long x :: r => if i + 1 < nL then some (e.1 + 2, mset2 lv i (.long x), r) else none
    | _ => none
  | .astore_n k => match st with
    | .ref x :: r => if (k : Nat) < nL then some (e.1 + 1, mset1 lv (k : Nat) (.ref x), r) else none
    | _ => none
  | .astore i => match st with
    | .ref x :: r => if i < nL then some (e.1 + 2, mset1 lv i (.ref x), r) else none
    | _ => none
  | .iinc i n => match mlv lv i with
    | some (.int x) => if i < nL then some (e.1 + 3, mset1 lv i (.int (x + Int32.ofInt n)), st) else none
    | _ => none
  | .iadd => match st with
    | .int y :: .int x :: r => some (e.1 + 1, lv, .int (x + y) :: r)
    | _ => none
  | .isub => match st with
    | .int y :: .int x :: r => some (e.1 + 1, lv, .int (x - y) :: r)
    | _ => none
  | .imul => match st with
    | .int y :: .int x :: r => some (e.1 + 1, lv, .int (x * y) :: r)
    | _ => none
  | .iand => match st with
    | .int y :: .int x :: r => some (e.1 + 1, lv, .int (x &&& y) :: r)
    | _ => none
  | .idiv => match st with
    | .int y :: .int x :: r => if y = 0 then none else some (e.1 + 1, lv, .int (x / y) :: r)
    | _ => none
  | .ineg => match st with
    | .int x :: r => some (e.1 + 1, lv, .int (-x) :: r)
    | _ => none
  | .ladd => match st with
    | .long y :: .long x :: r => some (e.1 + 1, lv, .long (x + y) :: r)
    | _ => none
  | .lmul => match st with
    | .long y :: .long x :: r => some (e.1 + 1, lv, .long (x * y) :: r)
    | _ => none
  | .i2l => match st with
    | .int x :: r => some (e.1 + 1, lv, .long x.toInt64 :: r)
    | _ => none
  | .dup => match st with
    | v :: r => if v.category = 1 then some (e.1 + 1, lv, v :: v :: r) else none
    | _ => none
  | .pop => match st with
    | v :: r => if v.category = 1 then some (e.1 + 1, lv, r) else none
    | _ => none
  | .aconst_null => some (e.1 + 1, lv, .null :: st)
  | .dup_x1 => match st with
    | v :: w :: r => if v.category = 1 ∧ w.category = 1 then some (e.1 + 1, lv, v :: w :: v :: r) else none
    | _ => none
  | .dup2 => match st with
    | v :: w :: r => if v.category = 1 ∧ w.category = 1 then some (e.1 + 1, lv, v :: w :: v :: w :: r) else none
    | _ => none
  | .if_acmp .eq off => match st with
    | .ref x :: .ref y :: r => if x = y ∧ mjmp e.1 off = true then some (mtgt e.1 off, lv, r) else none
    | _ => none
  | .if_acmp .ne off => match st with
    | .ref x :: .ref y :: r => if x = y ∧ mjmp e.1 off = true then some (e.1 + 3, lv, r) else none
    | _ => none
  | .goto off => if mjmp e.1 off then some (mtgt e.1 off, lv, st) else none
  | .ifCond .eq off => match st with
    | .int x :: r => if mjmp e.1 off then some (if x = 0 then mtgt e.1 off else e.1 + 3, lv, r) else none
    | _ => none
  | .ifCond .ne off => match st with
    | .int x :: r => if mjmp e.1 off then some (if x = 0 then e.1 + 3 else mtgt e.1 off, lv, r) else none
    | _ => none
  | .ifCond .lt off => match st with
    | .int x :: r => if mjmp e.1 off then some (if x < 0 then mtgt e.1 off else e.1 + 3, lv, r) else none
    | _ => none
  | .ifCond .ge off => match st with
    | .int x :: r => if mjmp e.1 off then some (if 0 ≤ x then mtgt e.1 off else e.1 + 3, lv, r) else none
    | _ => none
  | .ifCond .gt off => match st with
    | .int x :: r => if mjmp e.1 off then some (if 0 < x then mtgt e.1 off else e.1 + 3, lv, r) else none
    | _ => none
  | .ifCond .le off => match st with
    | .int x :: r => if mjmp e.1 off then some (if x ≤ 0 then mtgt e.1 off else e.1 + 3, lv, r) else none
    | _ => none
  | .if_icmp .eq off => match st with
    | .int y :: .int x :: r => if mjmp e.1 off then some (if x = y then mtgt e.1 off else e.1 + 3, lv, r) else none
    | _ => none
  | .if_icmp .ne off => match st with
    | .int y :: .int x :: r => if mjmp e.1 off then some (if x = y then e.1 + 3 else mtgt e.1 off, lv, r) else none
    | _ => none
  | .if_icmp .lt off => match st with
    | .int y :: .int x :: r => if mjmp e.1 off then some (if x < y then mtgt e.1 off else e.1 + 3, lv, r) else none
    | _ => none
  | .if_icmp .ge off => match st with
    | .int y :: .int x :: r => if mjmp e.1 off then some (if y ≤ x then mtgt e.1 off else e.1 + 3, lv, r) else none
    | _ => none
  | .if_icmp .gt off => match st with
    | .int y :: .int x :: r => if mjmp e.1 off then some (if y < x then mtgt e.1 off else e.1 + 3, lv, r) else none
    | _ => none
  | .if_icmp .le off => match st with
    | .int y :: .int x :: r => if mjmp e.1 off then some (if x ≤ y then mtgt e.1 off else e.1 + 3, lv, r) else none
    | _ => none
  | .irem => match st with
    | .int y :: .int x :: r => if y = 0 then none else some (e.1 + 1, lv, .int (x - x / y * y) :: r)
    | _ => none
  | .ishr => match st with
    | .int y :: .int x :: r => some (e.1 + 1, lv, .int (x >>> (y &&& 31)) :: r)
    | _ => none
  | .lcmp => match st with
    | .long y :: .long x :: r => some (e.1 + 1, lv, .int (lg_cmp x y) :: r)
    | _ => none
  | .i2d => match st with
    | .int x :: r => some (e.1 + 1, lv, .double (FP.i2d x) :: r)
    | _ => none
  | .l2d => match st with
    | .long x :: r => some (e.1 + 1, lv, .double (FP.l2d x) :: r)
    | _ => none
  | .ddiv => match st with
    | .double y :: .double x :: r => if FP.ddiv x y &&& 0x7fffffffffffffff ≤ 0x7ff0000000000000 then some (e.1 + 1, lv, .double (FP.ddiv x y) :: r) else none
    | _ => none
  | .dcmp op => match st with
    | .double y :: .double x :: r => some (e.1 + 1, lv, .int (Op.cmpValue (FP.dcmp x y) op) :: r)
    | _ => none
  | .dload_n k => match mlv lv (k : Nat) with
    | some (.double x) => some (e.1 + 1, lv, .double x :: st)
    | _ => none
  | .dload i => match mlv lv i with
    | some (.double x) => some (e.1 + 2, lv, .double x :: st)
    | _ => none
  | .dstore_n k => match st with
    | .double x :: r => if (k : Nat) + 1 < nL then some (e.1 + 1, mset2 lv (k : Nat) (.double x), r) else none
    | _ => none
  | .dstore i => match st with
    | .double x :: r => if i + 1 < nL then some (e.1 + 2, mset2 lv i (.double x), r) else none
    | _ => none
  | .tableswitch dflt lo hi offs => match st with
    | .int x :: r => if x.toInt < lo ∨ hi < x.toInt then (if mjmp e.1 dflt then some (mtgt e.1 dflt, lv, r) else none) else (match offs[(x.toInt - lo).toNat]? with
      | some off => if mjmp e.1 off then some (mtgt e.1 off, lv, r) else none
      | none => none)
    | _ => none
  | .lookupswitch dflt ps => match st with
    | .int x :: r => if (ps.toList.zip (ps.toList.drop 1)).all (fun (a, next) => a.1 < next.1) = true then (if mjmp e.1 (Op.lookupswitch.offset ps.toList dflt x.toInt) then some (mtgt e.1 (Op.lookupswitch.offset ps.toList dflt x.toInt), lv, r) else none) else none
    | _ => none
  | _ => none
