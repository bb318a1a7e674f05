/-! ===== runs of the abstract machine ===== -/
/-- 0 nothing, 1 a value, 2 and more: what is thrown -/
abbrev qRet : Type := Nat × qV × qW
abbrev qCall : Type := Nat → Nat → List qV → qW → Option qRet
abbrev qRun : Type := Nat → Nat → qL → List qV → qW → Option qRet
noncomputable def qargs : Nat → List qV → qL
  | _, [] => fun _ => (7, 0, 0)
  | i, v :: r => fun j => qif (Nat.beq j i) v (qargs (qif (Nat.ble 5 v.1) (Nat.add i 2) (Nat.succ i)) r j)
noncomputable def qtake : Nat → List qV → List qV → Option (List qV × List qV)
  | 0, acc, st => some (acc, st)
  | _ + 1, _, [] => none
  | n + 1, acc, v :: r => qtake n (v :: acc) r
noncomputable def qcats : List qV → Nat
  | [] => 0
  | v :: r => Nat.add (qif (Nat.ble 5 v.1) 2 1) (qcats r)
/-- what a call takes, what stays on the stack -/
noncomputable def qinv (X z u v : Nat) (st : List qV) (w : qW) : Option (List qV × List qV) := match qtake z [] st with
  | none => none
  | some (as, r) => qif (Nat.beq u 1) (match r with
      | [] => none
      | a :: r' => qg (Nat.beq a.1 1) (qg (Nat.ble r'.length 4) (qg (Nat.ble (qcats (a :: as)) (Nat.div v 64)) (some (a :: as, r')))))
    (qif (Nat.beq u 2) (match r with
      | [] => none
      | a :: r' => qg (Nat.beq a.1 1) (qg (Nat.ble X a.2.1) (qg (Nat.ble (Nat.succ a.2.1) w.2.1) (qg (Nat.beq (w.1 a.2.1).1 1) (qg (Nat.beq (w.1 a.2.1).2.1 (Nat.mod v 64)) (qg (Nat.ble r'.length 4) (qg (Nat.ble (qcats (a :: as)) (Nat.div v 64)) (some (a :: as, r')))))))))
    (qg (Nat.ble r.length 4) (qg (Nat.ble (qcats as) (Nat.div v 64)) (some (as, r)))))
/-- Object.<init>, Math.min, Math.max -/
noncomputable def qspec (op y v : Nat) (st : List qV) : Option (Nat × List qV) := qif (Nat.beq op 41) (match st with
    | [] => none
    | a :: r => qg (Nat.beq a.1 1) (qg (Nat.ble (Nat.add (Nat.mul 2 r.length) 12) v) (some (y, r)))) (match st with
  | a :: b :: r => qg (Nat.beq a.1 0) (qg (Nat.beq b.1 0) (qg (Nat.beq a.2.1 a.2.2) (qg (Nat.beq b.2.1 b.2.2) (qg (Nat.ble (Nat.add (Nat.mul 2 r.length) 13) v) (some (y, (qif (Nat.beq op 42) (qif (Nat.ble (Nat.succ a.2.1) b.2.1) a b) (qif (Nat.ble (Nat.succ b.2.1) a.2.1) a b)) :: r))))))
  | _ => none)
noncomputable def qend (op x z v : Nat) (st : List qV) (w : qW) : Option qRet := qif (Nat.beq op 46) (match st with
    | [] => some (Nat.add 2 x, (7, 0, 0), w)
    | _ => none) (qif (Nat.beq z 9) (match st with
    | [] => some (0, (7, 0, 0), w)
    | _ => none) (match st with
    | [a] => qg (qkind z a.1) (qg (qif (Nat.beq z 0) (qif (Nat.beq v 0) true (qif (Nat.ble 2147483648 a.2.1) (Nat.ble a.2.2 2147483649) false)) true) (some (1, a, w)))
    | _ => none))
noncomputable def qsum (w w' : qW) : qW := (w'.1, w'.2.1, Nat.add w.2.2.1 w'.2.2.1, Nat.add w.2.2.2 w'.2.2.2)
noncomputable def qzero (w : qW) : qW := (w.1, w.2.1, 0, 0)
noncomputable def qnone : qRun := fun _ _ _ _ _ => none
/-- what is the same at all levels: steps, the three of the library, ends -/
noncomputable def qplain (X : Nat) (bx : qX) (ih : qRun) (j op x y z u v : Nat) (e : mIns) (lv : qL) (st : List qV) (w : qW) : Option qRet := qif (Nat.ble 40 op) (qif (Nat.ble op 43) (match qspec op y v st with
      | none => none
      | some (y', st') => ih j y' lv st' w) (qif (Nat.ble op 46) (qend op x z v st w) none))
    (match qstep X bx v op x y z u e lv st w with
      | none => none
      | some (y', lv', st', w') => ih j y' lv' st' w')
noncomputable def qrunF (X : Nat) (bx : qX) (call : qCall) (n : Nat) : qRun := @Nat.rec (fun _ => qRun) qnone (fun n ih j pc lv st w => match qtab j pc with
  | (op, x, y, z, u, v, e) => qif (Nat.beq op 40) (match qinv X z u v st w with
      | none => none
      | some (as, r) => qg (Nat.ble u 2) (match call n x as (qzero w) with
        | none => none
        | some (t, val, w') => qif (Nat.beq t 0) (ih j y lv r (qsum w w')) (qif (Nat.beq t 1) (ih j y lv (val :: r) (qsum w w')) none)))
      (qplain X bx ih j op x y z u v e lv st w)) n
/-- a method from its entry -/
noncomputable def qcallF (X : Nat) (bx : qX) (call : qCall) : qCall := fun n k as w => qrunF X bx call n k 0 (qargs 0 as) [] w
noncomputable def qexec (X : Nat) (bx : qX) (d : Nat) : qCall := @Nat.rec (fun _ => qCall) (fun _ _ _ _ => none) (fun _ ih n k as w => qif (Nat.beq k mAddAll) (match as with
    | [a, c] => qg (Nat.beq a.1 1) (qg (Nat.beq c.1 1) (qg (Nat.ble X c.2.1) (qg (Nat.ble (Nat.succ c.2.1) w.2.1) (qg (Nat.beq (w.1 c.2.1).1 1) (qg (Nat.beq (w.1 c.2.1).2.1 1) (match ih n mToArr [c] (qzero w) with
      | none => none
      | some (t, val, w') => qg (Nat.beq t 1) (qrunF X bx ih n mAddAll 6 (qargs 0 [a, c]) [val] (qsum w w'))))))))
    | _ => none) (qrunF X bx ih n k 0 (qargs 0 as) [] w)) d
/-- where a throw is caught -/
def mcatchZ (j : Nat) (e : mIns) (z : Nat) : Option (Nat × Nat) := match e.2.1, mmeth j, mhof j with
  | .invokevirtual _, some y, some hd => (match mThr[z]? with
    | some tx => (match mXcls[tx.1]? with
      | some r => (match mhnd y.2.2.2.2.1 e.1 r.2.1 hd.2 with
        | some hp => (match mlook (mcode j) hp with
          | some eh => (match eh.2.1 with
            | .astore_n k => if (k : Nat) < y.2.2.1 then some (hp + 1, (k : Nat)) else none
            | .astore k => if k < y.2.2.1 then some (hp + 2, k) else none
            | _ => none)
          | none => none)
        | none => none)
      | none => none)
    | none => none)
  | _, _, _ => none
noncomputable def qrunX (X : Nat) (bx : qX) (call : qCall) (n : Nat) : qRun := @Nat.rec (fun _ => qRun) qnone (fun n ih j pc lv st w => match qtab j pc with
  | (op, x, y, z, u, v, e) => qif (Nat.beq op 40) (match qinv X z u v st w with
      | none => none
      | some (as, r) => qg (Nat.ble u 2) (match call n x as (qzero w) with
        | none => none
        | some (t, val, w') => qif (Nat.beq t 0) (ih j y lv r (qsum w w')) (qif (Nat.beq t 1) (ih j y lv (val :: r) (qsum w w')) (match mcatchZ j e (Nat.sub t 2) with
          | none => none
          | some (p, k) => ih j p (qset1 lv k (7, 0, 0)) [] (w'.1, w'.2.1, Nat.add w.2.2.1 (Nat.add w'.2.2.1 1), Nat.add w.2.2.2 (Nat.add w'.2.2.2 6))))))
      (qplain X bx ih j op x y z u v e lv st w)) n
noncomputable def qrunL (X : Nat) (bx : qX) (c0 : qCall) (n : Nat) : qRun := @Nat.rec (fun _ => qRun) qnone (fun n ih j pc lv st w => match qtab j pc with
  | (op, x, y, z, u, v, e) => qif (Nat.beq op 40) (match qinv X z u v st w with
      | none => none
      | some (as, r) => match qif (Nat.beq u 3) (qrunX X bx (qcallF X bx c0) n x 0 (qargs 0 as) [] (qzero w)) (qrunF X bx c0 n x 0 (qargs 0 as) [] (qzero w)) with
        | none => none
        | some (t, val, w') => qif (Nat.beq t 0) (ih j y lv r (qsum w w')) (qif (Nat.beq t 1) (ih j y lv (val :: r) (qsum w w')) none))
      (qplain X bx ih j op x y z u v e lv st w)) n
/-- a law's answer, and what it made -/
def qans (r : Option qRet) (mc ms : Nat) : Bool := match r with
  | some (t, v, w) => decide (t = 1 ∧ v.1 = 0 ∧ v.2.1 = 2147483649 ∧ v.2.2 = 2147483649) && (Nat.ble w.2.2.1 mc && Nat.ble w.2.2.2 ms)
  | none => false
