/-! ===== an abstract machine for the kernel: ints between bounds (counted from -2^31 on), a heap that is a function ===== -/
/-- tag (0 an int, 1 a reference, 2 null, 3 a reference to an Integer, 4 the script's head, 5 a long, 6 a double, 7 nothing), bounds -/
abbrev qV : Type := Nat × Nat × Nat
/-- 0 a row, 1 an object; its type or class; its length; its contents -/
abbrev qO : Type := Nat × Nat × Nat × (Nat → qV)
/-- heap, next place, cells and slots made -/
abbrev qW : Type := (Nat → qO) × Nat × Nat × Nat
abbrev qL : Type := Nat → qV
abbrev qI : Type := Nat × Nat × Nat × Nat × Nat × Nat × mIns
/-- the script: its length, its ints -/
abbrev qX : Type := Nat × (Nat → qV)
abbrev qT : Type := Nat × qL × List qV × qW
noncomputable def qif {α : Type} (b : Bool) (x y : α) : α := @Bool.rec (fun _ => α) y x b
noncomputable def qg {α : Type} (b : Bool) (x : Option α) : Option α := @Bool.rec (fun _ => Option α) none x b
theorem qg_some {α : Type} {b : Bool} {x : Option α} {r : α} (h : qg b x = some r) : b = true ∧ x = some r := by
  cases b
  · cases h
  · exact ⟨rfl, h⟩
theorem qif_t {α : Type} {b : Bool} {x y : α} (h : b = true) : qif b x y = x := by subst h; rfl
theorem qif_f {α : Type} {b : Bool} {x y : α} (h : b = false) : qif b x y = y := by subst h; rfl
noncomputable def qkind (z t : Nat) : Bool := qif (Nat.beq z 1) (qif (Nat.beq t 1) true (Nat.beq t 3)) (Nat.beq t z)
/-- what stays of a local ahead of one that is written -/
noncomputable def qc1 (a : qV) : qV := qif (Nat.ble 5 a.1) (7, 0, 0) a
noncomputable def qset1 (l : qL) (i : Nat) (v : qV) : qL := fun j => qif (Nat.beq j i) v (qif (Nat.beq (Nat.succ j) i) (qc1 (l j)) (l j))
noncomputable def qset2 (l : qL) (i : Nat) (v : qV) : qL := fun j => qif (Nat.beq j i) v (qif (Nat.beq j (Nat.succ i)) (7, 0, 0) (qif (Nat.beq (Nat.succ j) i) (qc1 (l j)) (l j)))
/-- what is looked up, once: a recursor asks for it -/
noncomputable def qsel (o : qO) : qO := @Prod.rec Nat (Nat × Nat × (Nat → qV)) (fun _ => qO) (fun k r => (k, r)) o
theorem qsel_eq (o : qO) : qsel o = o := by cases o; rfl
noncomputable def qput (H : Nat → qO) (a : Nat) (o : qO) : Nat → qO := fun q => qif (Nat.beq q a) o (qsel (H q))
noncomputable def qfld (f : Nat → qV) (b : Nat) (v : qV) : Nat → qV := fun j => qif (Nat.beq j b) v (f j)
noncomputable def qpush (y : Nat) (v : qV) (lv : qL) (st : List qV) (w : qW) : Option qT := some (y, lv, v :: st, w)
noncomputable def qload (x y z : Nat) (lv : qL) (st : List qV) (w : qW) : Option qT := qg (qkind z (lv x).1) (some (y, lv, lv x :: st, w))
noncomputable def qstore (nL x y z : Nat) (lv : qL) (st : List qV) (w : qW) : Option qT := match st with
  | [] => none
  | v :: r => qg (qkind z v.1) (qif (Nat.ble 5 z) (qg (Nat.ble (Nat.add x 2) nL) (some (y, qset2 lv x v, r, w))) (qg (Nat.ble (Nat.succ x) nL) (some (y, qset1 lv x v, r, w))))
noncomputable def qiinc (nL x y z : Nat) (lv : qL) (st : List qV) (w : qW) : Option qT := qg (Nat.beq (lv x).1 0) (qg (Nat.ble (Nat.succ x) nL) (qg (Nat.ble 2147483648 (Nat.add (lv x).2.1 z)) (qg (Nat.ble (Nat.add (lv x).2.2 z) 6442450943) (some (y, qset1 lv x (0, Nat.sub (Nat.add (lv x).2.1 z) 2147483648, Nat.sub (Nat.add (lv x).2.2 z) 2147483648), st, w)))))
noncomputable def qadd (y : Nat) (lv : qL) (st : List qV) (w : qW) : Option qT := match st with
  | a :: b :: r => qg (Nat.beq a.1 0) (qg (Nat.beq b.1 0) (qg (Nat.ble 2147483648 (Nat.add b.2.1 a.2.1)) (qg (Nat.ble (Nat.add b.2.2 a.2.2) 6442450943) (some (y, lv, (0, Nat.sub (Nat.add b.2.1 a.2.1) 2147483648, Nat.sub (Nat.add b.2.2 a.2.2) 2147483648) :: r, w)))))
  | _ => none
noncomputable def qsub (y : Nat) (lv : qL) (st : List qV) (w : qW) : Option qT := match st with
  | a :: b :: r => qg (Nat.beq a.1 0) (qg (Nat.beq b.1 0) (qg (Nat.ble a.2.2 (Nat.add b.2.1 2147483648)) (qg (Nat.ble (Nat.add b.2.2 2147483648) (Nat.add 4294967295 a.2.1)) (some (y, lv, (0, Nat.sub (Nat.add b.2.1 2147483648) a.2.2, Nat.sub (Nat.add b.2.2 2147483648) a.2.1) :: r, w)))))
  | _ => none
/-- the script's head, cut to five bits -/
noncomputable def qand (y : Nat) (lv : qL) (st : List qV) (w : qW) : Option qT := match st with
  | a :: b :: r => qg (Nat.beq a.1 0) (qg (Nat.beq a.2.1 2147483679) (qg (Nat.beq a.2.2 2147483679) (qg (Nat.beq b.1 4) (qg (Nat.ble b.2.1 31) (some (y, lv, (0, Nat.add b.2.1 2147483648, Nat.add b.2.1 2147483648) :: r, w))))))
  | _ => none
noncomputable def qdiv (y : Nat) (lv : qL) (st : List qV) (w : qW) : Option qT := match st with
  | a :: b :: r => qg (Nat.beq a.1 0) (qg (Nat.beq b.1 0) (qg (Nat.beq a.2.1 a.2.2) (qg (Nat.ble 2147483649 a.2.1) (qg (Nat.ble 2147483648 b.2.1) (some (y, lv, (0, Nat.add (Nat.div (Nat.sub b.2.1 2147483648) (Nat.sub a.2.1 2147483648)) 2147483648, Nat.add (Nat.div (Nat.sub b.2.2 2147483648) (Nat.sub a.2.1 2147483648)) 2147483648) :: r, w))))))
  | _ => none
noncomputable def qrem (y : Nat) (lv : qL) (st : List qV) (w : qW) : Option qT := match st with
  | a :: b :: r => qg (Nat.beq a.1 0) (qg (Nat.beq b.1 0) (qg (Nat.beq a.2.1 a.2.2) (qg (Nat.ble 2147483649 a.2.1) (qg (Nat.ble 2147483648 b.2.1) (some (y, lv, qif (Nat.beq b.2.1 b.2.2) (0, Nat.add (Nat.mod (Nat.sub b.2.1 2147483648) (Nat.sub a.2.1 2147483648)) 2147483648, Nat.add (Nat.mod (Nat.sub b.2.1 2147483648) (Nat.sub a.2.1 2147483648)) 2147483648) (0, 2147483648, Nat.sub a.2.1 1) :: r, w))))))
  | _ => none
/-- a half -/
noncomputable def qshr (y : Nat) (lv : qL) (st : List qV) (w : qW) : Option qT := match st with
  | a :: b :: r => qg (Nat.beq a.1 0) (qg (Nat.beq b.1 0) (qg (Nat.beq a.2.1 2147483649) (qg (Nat.beq a.2.2 2147483649) (qg (Nat.ble 2147483648 b.2.1) (some (y, lv, (0, Nat.add (Nat.div (Nat.sub b.2.1 2147483648) 2) 2147483648, Nat.add (Nat.div (Nat.sub b.2.2 2147483648) 2) 2147483648) :: r, w))))))
  | _ => none
noncomputable def qladd (y : Nat) (lv : qL) (st : List qV) (w : qW) : Option qT := match st with
  | a :: b :: r => qg (Nat.beq a.1 5) (qg (Nat.beq b.1 5) (some (y, lv, (5, Nat.mod (Nat.add b.2.1 a.2.1) 18446744073709551616, 0) :: r, w)))
  | _ => none
noncomputable def qlmul (y : Nat) (lv : qL) (st : List qV) (w : qW) : Option qT := match st with
  | a :: b :: r => qg (Nat.beq a.1 5) (qg (Nat.beq b.1 5) (some (y, lv, (5, Nat.mod (Nat.mul b.2.1 a.2.1) 18446744073709551616, 0) :: r, w)))
  | _ => none
noncomputable def qi2l (y : Nat) (lv : qL) (st : List qV) (w : qW) : Option qT := match st with
  | a :: r => qg (Nat.beq a.1 0) (qg (Nat.beq a.2.1 a.2.2) (some (y, lv, (5, qif (Nat.ble 2147483648 a.2.1) (Nat.sub a.2.1 2147483648) (Nat.sub (Nat.add a.2.1 18446744073709551616) 2147483648), 0) :: r, w)))
  | _ => none
noncomputable def qlcmp (y : Nat) (lv : qL) (st : List qV) (w : qW) : Option qT := match st with
  | a :: b :: r => qg (Nat.beq a.1 5) (qg (Nat.beq b.1 5) (qg (Nat.beq a.2.1 b.2.1) (some (y, lv, (0, 2147483648, 2147483648) :: r, w))))
  | _ => none
noncomputable def qdup (y : Nat) (lv : qL) (st : List qV) (w : qW) : Option qT := match st with
  | a :: r => qg (Nat.ble a.1 3) (some (y, lv, a :: a :: r, w))
  | _ => none
noncomputable def qpop (y : Nat) (lv : qL) (st : List qV) (w : qW) : Option qT := match st with
  | a :: r => qg (Nat.ble a.1 3) (some (y, lv, r, w))
  | _ => none
noncomputable def qdupx (y : Nat) (lv : qL) (st : List qV) (w : qW) : Option qT := match st with
  | a :: b :: r => qg (Nat.ble a.1 3) (qg (Nat.ble b.1 3) (some (y, lv, a :: b :: a :: r, w)))
  | _ => none
/-- a comparison: 0 less, 1 greater, 2 equal; where to go if so, and if not -/
noncomputable def qcmp (z l1 h1 l2 h2 x y : Nat) : Option Nat := qif (Nat.beq z 0) (qif (Nat.ble (Nat.succ h1) l2) (some x) (qg (Nat.ble h2 l1) (some y))) (qif (Nat.beq z 1) (qif (Nat.ble (Nat.succ h2) l1) (some x) (qg (Nat.ble h1 l2) (some y))) (qif (Nat.ble (Nat.succ h1) l2) (some y) (qif (Nat.ble (Nat.succ h2) l1) (some y) (qg (Nat.beq l1 h1) (qg (Nat.beq l2 h2) (qg (Nat.beq l1 l2) (some x)))))))
noncomputable def qifc (x y z : Nat) (lv : qL) (st : List qV) (w : qW) : Option qT := match st with
  | a :: r => qg (Nat.beq a.1 0) (match qcmp z a.2.1 a.2.2 2147483648 2147483648 x y with
    | some t => some (t, lv, r, w)
    | none => none)
  | _ => none
noncomputable def qicmp (x y z : Nat) (lv : qL) (st : List qV) (w : qW) : Option qT := match st with
  | a :: b :: r => qg (Nat.beq a.1 0) (qg (Nat.beq b.1 0) (match qcmp z b.2.1 b.2.2 a.2.1 a.2.2 x y with
    | some t => some (t, lv, r, w)
    | none => none))
  | _ => none
noncomputable def qacmp (x : Nat) (lv : qL) (st : List qV) (w : qW) : Option qT := match st with
  | a :: b :: r => qg (Nat.beq a.1 1) (qg (Nat.beq b.1 1) (qg (Nat.beq a.2.1 b.2.1) (some (x, lv, r, w))))
  | _ => none
noncomputable def qswitch (e : mIns) (lv : qL) (st : List qV) (w : qW) : Option qT := match st with
  | a :: r => qg (Nat.beq a.1 0) (qg (Nat.beq a.2.1 a.2.2) (match mpure 0 e [] [.int (Int32.ofInt (Int.subNatNat a.2.1 2147483648))] with
    | some t => some (t.1, lv, r, w)
    | none => none))
  | _ => none
noncomputable def qgetf (X x y z : Nat) (lv : qL) (st : List qV) (w : qW) : Option qT := match st with
  | a :: r => qg (Nat.beq a.1 1) (qg (Nat.ble X a.2.1) (qg (Nat.ble (Nat.succ a.2.1) w.2.1) (match w.1 a.2.1 with
    | (k, c, n, f) => qg (Nat.beq k 1) (qg (Nat.beq c z) (qg (Nat.ble (Nat.succ x) n) (some (y, lv, f x :: r, w)))))))
  | _ => none
/-- kinds of fields: 0 an int, 1 a boolean, 2 a reference -/
noncomputable def qfit (u : Nat) (v : qV) : Bool := qif (Nat.beq u 0) (Nat.beq v.1 0) (qif (Nat.beq u 1) (qif (Nat.beq v.1 0) (qif (Nat.ble 2147483648 v.2.1) (Nat.ble v.2.2 2147483649) false) false) (qif (Nat.beq u 2) (qif (Nat.beq v.1 1) true (Nat.beq v.1 2)) false))
noncomputable def qputf (X x y z u : Nat) (lv : qL) (st : List qV) (w : qW) : Option qT := match st with
  | v :: a :: r => qg (qfit u v) (qg (Nat.beq a.1 1) (qg (Nat.ble X a.2.1) (qg (Nat.ble (Nat.succ a.2.1) w.2.1) (match w.1 a.2.1 with
    | (k, c, n, f) => qg (Nat.beq k 1) (qg (Nat.beq c z) (qg (Nat.ble (Nat.succ x) n) (some (y, lv, r, (qput w.1 a.2.1 (1, c, n, qfld f x v), w.2)))))))))
  | _ => none
/-- an element of a row -/
noncomputable def qald (X : Nat) (bx : qX) (t y : Nat) (lv : qL) (st : List qV) (w : qW) : Option qT := match st with
  | i :: a :: r => qg (Nat.beq i.1 0) (qg (Nat.beq a.1 1) (qg (Nat.ble 2147483648 i.2.1) (qif (Nat.ble X a.2.1) (qg (Nat.ble (Nat.succ a.2.1) w.2.1) (qg (Nat.beq i.2.1 i.2.2) (match w.1 a.2.1 with
      | (k, c, n, f) => qg (Nat.beq k 0) (qg (Nat.beq c t) (qg (Nat.ble (Nat.succ (Nat.sub i.2.1 2147483648)) n) (some (y, lv, f (Nat.sub i.2.1 2147483648) :: r, w)))))))
    (qif (Nat.beq t 0) (qg (Nat.beq a.2.1 0) (qg (Nat.beq i.2.1 i.2.2) (qg (Nat.ble (Nat.succ (Nat.sub i.2.1 2147483648)) bx.1) (some (y, lv, bx.2 (Nat.sub i.2.1 2147483648) :: r, w)))))
    (qg (Nat.beq t 3) (qg (Nat.beq a.2.1 3) (qg (Nat.ble i.2.2 2147483903) (some (y, lv, (3, 0, 0) :: r, w)))))))))
  | _ => none
noncomputable def qel (t : Nat) (v : qV) : Bool := qif (Nat.beq t 0) (Nat.beq v.1 0) (qif (Nat.beq t 1) (Nat.beq v.1 5) (qif (Nat.beq t 3) (Nat.beq v.1 3) false))
noncomputable def qast (X t y : Nat) (lv : qL) (st : List qV) (w : qW) : Option qT := match st with
  | v :: i :: a :: r => qg (qel t v) (qg (Nat.beq i.1 0) (qg (Nat.beq i.2.1 i.2.2) (qg (Nat.beq a.1 1) (qg (Nat.ble 2147483648 i.2.1) (qg (Nat.ble X a.2.1) (qg (Nat.ble (Nat.succ a.2.1) w.2.1) (match w.1 a.2.1 with
    | (k, c, n, f) => qg (Nat.beq k 0) (qg (Nat.beq c t) (qg (Nat.ble (Nat.succ (Nat.sub i.2.1 2147483648)) n) (some (y, lv, r, (qput w.1 a.2.1 (0, c, n, qfld f (Nat.sub i.2.1 2147483648) v), w.2))))))))))))
  | _ => none
noncomputable def qlen (X : Nat) (bx : qX) (y : Nat) (lv : qL) (st : List qV) (w : qW) : Option qT := match st with
  | a :: r => qg (Nat.beq a.1 1) (qif (Nat.ble X a.2.1) (qg (Nat.ble (Nat.succ a.2.1) w.2.1) (match w.1 a.2.1 with
      | (k, c, n, _) => qg (Nat.beq k 0) (qg (Nat.ble c 3) (qg (Nat.ble n 2147483647) (some (y, lv, (0, Nat.add n 2147483648, Nat.add n 2147483648) :: r, w))))))
    (qif (Nat.beq a.2.1 0) (qg (Nat.ble bx.1 2147483647) (some (y, lv, (0, Nat.add bx.1 2147483648, Nat.add bx.1 2147483648) :: r, w))) (qg (Nat.beq a.2.1 2) (some (y, lv, (0, 2147483648, 2147483648) :: r, w)))))
  | _ => none
def qdefT (ty : FieldType) : qV := match ty with
  | .object _ | .array _ => (2, 0, 0)
  | .long => (5, 0, 0)
  | .double => (6, 0, 0)
  | .float => (7, 0, 0)
  | _ => (0, 2147483648, 2147483648)
def qdef (a : Nat) : Nat → qV := fun j => qdefT (mfty a j)
noncomputable def qnew (x y z : Nat) (lv : qL) (st : List qV) (w : qW) : Option qT := some (y, lv, (1, w.2.1, 0) :: st, (qput w.1 w.2.1 (1, z, x, qdef z), Nat.succ w.2.1, Nat.succ w.2.2.1, Nat.add w.2.2.2 x))
noncomputable def qdefR (t : Nat) : qV := qif (Nat.beq t 0) (0, 2147483648, 2147483648) (qif (Nat.beq t 1) (5, 0, 0) (qif (Nat.beq t 2) (6, 0, 0) (2, 0, 0)))
noncomputable def qnewa (y z : Nat) (lv : qL) (st : List qV) (w : qW) : Option qT := match st with
  | a :: r => qg (Nat.beq a.1 0) (qg (Nat.beq a.2.1 a.2.2) (qg (Nat.ble 2147483648 a.2.1) (qg (Nat.ble a.2.1 2147500000) (some (y, lv, (1, w.2.1, 0) :: r, (qput w.1 w.2.1 (0, z, Nat.sub a.2.1 2147483648, fun _ => qdefR z), Nat.succ w.2.1, Nat.succ w.2.2.1, Nat.add w.2.2.2 (Nat.sub a.2.1 2147483648)))))))
  | _ => none
/-- a class object of a row of references -/
noncomputable def qgetc (X x y : Nat) (lv : qL) (st : List qV) (w : qW) : Option qT := match st with
  | a :: r => qg (Nat.beq a.1 1) (qg (Nat.ble X a.2.1) (qg (Nat.ble (Nat.succ a.2.1) w.2.1) (match w.1 a.2.1 with
    | (k, c, _, _) => qg (Nat.beq k 0) (qg (Nat.beq c 3) (qg (Nat.ble r.length 4) (some (y, lv, (1, x, 0) :: r, w)))))))
  | _ => none
/-- elements that can be copied -/
noncomputable def qall (f : Nat → qV) (sp : Nat) (n : Nat) : Bool := @Nat.rec (fun _ => Bool) true (fun i ih => qif (qif (Nat.beq (f (Nat.add sp i)).1 3) true (Nat.beq (f (Nat.add sp i)).1 2)) ih false) n
/-- n elements of the row s, from sp on, into the row d, from dp on -/
noncomputable def qcopy1 (X y n dp sp d s : Nat) (lv : qL) (r : List qV) (w : qW) : Option qT := qg (Nat.ble X d) (qg (Nat.ble X s) (qg (Nat.ble (Nat.succ d) w.2.1) (qg (Nat.ble (Nat.succ s) w.2.1) (qg (Nat.ble r.length 4) (match w.1 s, w.1 d with
    | (ks, cs, ns, fs), (kd, cd, nd, fd) => qg (Nat.beq ks 0) (qg (Nat.beq cs 3) (qg (Nat.beq kd 0) (qg (Nat.beq cd 3) (qg (Nat.ble (Nat.add sp n) ns) (qg (Nat.ble (Nat.add dp n) nd) (qg (qall fs sp n) (some (y, lv, r, (qput w.1 d (0, cd, nd, fun j => qif (Nat.ble dp j) (qif (Nat.ble (Nat.succ j) (Nat.add dp n)) (fs (Nat.add sp (Nat.sub j dp))) (fd j)) (fd j)), w.2))))))))))))))
noncomputable def qcopy (X y : Nat) (lv : qL) (st : List qV) (w : qW) : Option qT := match st with
  | n :: dp :: d :: sp :: s :: r => qg (Nat.beq n.1 0) (qg (Nat.beq dp.1 0) (qg (Nat.beq sp.1 0) (qg (Nat.beq n.2.1 n.2.2) (qg (Nat.beq dp.2.1 dp.2.2) (qg (Nat.beq sp.2.1 sp.2.2) (qg (Nat.ble 2147483648 n.2.1) (qg (Nat.ble 2147483648 dp.2.1) (qg (Nat.ble 2147483648 sp.2.1) (qg (Nat.beq d.1 1) (qg (Nat.beq s.1 1) (qcopy1 X y (Nat.sub n.2.1 2147483648) (Nat.sub dp.2.1 2147483648) (Nat.sub sp.2.1 2147483648) d.2.1 s.2.1 lv r w)))))))))))
  | _ => none
/-- one instruction that calls nothing -/
noncomputable def qstep (X : Nat) (bx : qX) (nL op x y z u : Nat) (e : mIns) (lv : qL) (st : List qV) (w : qW) : Option qT :=
  qif (Nat.ble op 18)
    (qif (Nat.ble op 8)
      (qif (Nat.ble op 4)
        (qif (Nat.ble op 2) (qif (Nat.beq op 1) (qpush y (0, x, x) lv st w) (qif (Nat.beq op 2) (qpush y (5, x, 0) lv st w) none))
          (qif (Nat.beq op 3) (qpush y (6, 0, 0) lv st w) (qload x y z lv st w)))
        (qif (Nat.ble op 6) (qif (Nat.beq op 5) (qstore nL x y z lv st w) (qiinc nL x y z lv st w)) (qif (Nat.beq op 7) (qadd y lv st w) (qsub y lv st w))))
      (qif (Nat.ble op 13)
        (qif (Nat.ble op 11) (qif (Nat.beq op 10) (qand y lv st w) (qif (Nat.beq op 11) (qdiv y lv st w) none)) (qif (Nat.beq op 12) (qrem y lv st w) (qshr y lv st w)))
        (qif (Nat.ble op 16) (qif (Nat.beq op 14) (qladd y lv st w) (qif (Nat.beq op 15) (qlmul y lv st w) (qi2l y lv st w))) (qif (Nat.beq op 17) (qlcmp y lv st w) (qdup y lv st w)))))
    (qif (Nat.ble op 28)
      (qif (Nat.ble op 23)
        (qif (Nat.ble op 20) (qif (Nat.beq op 19) (qpop y lv st w) (qdupx y lv st w)) (qif (Nat.beq op 21) (some (x, lv, st, w)) (qif (Nat.beq op 22) (qifc x y z lv st w) (qicmp x y z lv st w))))
        (qif (Nat.ble op 25) (qif (Nat.beq op 24) (qacmp x lv st w) (qswitch e lv st w)) (qif (Nat.beq op 27) (qgetf X x y z lv st w) (qif (Nat.beq op 28) (qputf X x y z u lv st w) none))))
      (qif (Nat.ble op 33)
        (qif (Nat.ble op 30) (qif (Nat.beq op 29) (qald X bx x y lv st w) (qast X x y lv st w)) (qif (Nat.beq op 31) (qlen X bx y lv st w) (qif (Nat.beq op 32) (qnew x y z lv st w) (qnewa y z lv st w))))
        (qif (Nat.beq op 36) (qpush y (1, x, 0) lv st w) (qif (Nat.beq op 37) (qcopy X y lv st w) (qif (Nat.beq op 38) (qgetc X x y lv st w) none)))))
/-- what an instruction is for it: a number, operands -/
def qbias (x : Int32) : Nat := (x.toInt + 2147483648).toNat
def qfk (ty : FieldType) : Nat := match ty with
  | .int => 0
  | .boolean => 1
  | .object _ => 2
  | .array _ => 2
  | _ => 7
def qenc (e : mIns) : Nat × Nat × Nat × Nat × Nat := match e.2.1 with
  | .iconst n => (1, qbias (Int32.ofInt n), e.1 + 1, 0, 0)
  | .bipush n => (1, qbias (Int8.ofInt n).toInt32, e.1 + 2, 0, 0)
  | .sipush n => (1, qbias (Int16.ofInt n).toInt32, e.1 + 3, 0, 0)
  | .lconst n => (2, (n : Nat), e.1 + 1, 0, 0)
  | .dconst n => if (n : Nat) = 0 then (3, 0, e.1 + 1, 0, 0) else (99, 0, 0, 0, 0)
  | .iload_n k => (4, (k : Nat), e.1 + 1, 0, 0)
  | .iload i => (4, i, e.1 + 2, 0, 0)
  | .lload_n k => (4, (k : Nat), e.1 + 1, 5, 0)
  | .lload i => (4, i, e.1 + 2, 5, 0)
  | .aload_n k => (4, (k : Nat), e.1 + 1, 1, 0)
  | .aload i => (4, i, e.1 + 2, 1, 0)
  | .dload_n k => (4, (k : Nat), e.1 + 1, 6, 0)
  | .dload i => (4, i, e.1 + 2, 6, 0)
  | .istore_n k => (5, (k : Nat), e.1 + 1, 0, 0)
  | .istore i => (5, i, e.1 + 2, 0, 0)
  | .lstore_n k => (5, (k : Nat), e.1 + 1, 5, 0)
  | .lstore i => (5, i, e.1 + 2, 5, 0)
  | .astore_n k => (5, (k : Nat), e.1 + 1, 1, 0)
  | .astore i => (5, i, e.1 + 2, 1, 0)
  | .dstore_n k => (5, (k : Nat), e.1 + 1, 6, 0)
  | .dstore i => (5, i, e.1 + 2, 6, 0)
  | .iinc i n => (6, i, e.1 + 3, qbias (Int32.ofInt n), 0)
  | .iadd => (7, 0, e.1 + 1, 0, 0)
  | .isub => (8, 0, e.1 + 1, 0, 0)
  | .iand => (10, 0, e.1 + 1, 0, 0)
  | .idiv => (11, 0, e.1 + 1, 0, 0)
  | .irem => (12, 0, e.1 + 1, 0, 0)
  | .ishr => (13, 0, e.1 + 1, 0, 0)
  | .ladd => (14, 0, e.1 + 1, 0, 0)
  | .lmul => (15, 0, e.1 + 1, 0, 0)
  | .i2l => (16, 0, e.1 + 1, 0, 0)
  | .lcmp => (17, 0, e.1 + 1, 0, 0)
  | .dup => (18, 0, e.1 + 1, 0, 0)
  | .pop => (19, 0, e.1 + 1, 0, 0)
  | .dup_x1 => (20, 0, e.1 + 1, 0, 0)
  | .goto off => if mjmp e.1 off = true then (21, mtgt e.1 off, 0, 0, 0) else (99, 0, 0, 0, 0)
  | .ifCond cd off => if mjmp e.1 off = true then (match cd with
    | .lt => (22, mtgt e.1 off, e.1 + 3, 0, 0)
    | .ge => (22, e.1 + 3, mtgt e.1 off, 0, 0)
    | .gt => (22, mtgt e.1 off, e.1 + 3, 1, 0)
    | .le => (22, e.1 + 3, mtgt e.1 off, 1, 0)
    | .eq => (22, mtgt e.1 off, e.1 + 3, 2, 0)
    | .ne => (22, e.1 + 3, mtgt e.1 off, 2, 0)) else (99, 0, 0, 0, 0)
  | .if_icmp cd off => if mjmp e.1 off = true then (match cd with
    | .lt => (23, mtgt e.1 off, e.1 + 3, 0, 0)
    | .ge => (23, e.1 + 3, mtgt e.1 off, 0, 0)
    | .gt => (23, mtgt e.1 off, e.1 + 3, 1, 0)
    | .le => (23, e.1 + 3, mtgt e.1 off, 1, 0)
    | .eq => (23, mtgt e.1 off, e.1 + 3, 2, 0)
    | .ne => (23, e.1 + 3, mtgt e.1 off, 2, 0)) else (99, 0, 0, 0, 0)
  | .if_acmp .eq off => if mjmp e.1 off = true then (24, mtgt e.1 off, 0, 0, 0) else (99, 0, 0, 0, 0)
  | .if_acmp .ne off => if mjmp e.1 off = true then (24, e.1 + 3, 0, 0, 0) else (99, 0, 0, 0, 0)
  | .tableswitch _ _ _ _ => (25, 0, 0, 0, 0)
  | .lookupswitch _ _ => (25, 0, 0, 0, 0)
  | .getfield _ => if (mCl[e.2.2.2.1]?).isSome = true then (27, e.2.2.2.2.1, e.1 + 3, e.2.2.2.1, 0) else (99, 0, 0, 0, 0)
  | .putfield _ => if (mCl[e.2.2.2.1]?).isSome = true then (28, e.2.2.2.2.1, e.1 + 3, e.2.2.2.1, qfk (mfty e.2.2.2.1 e.2.2.2.2.1)) else (99, 0, 0, 0, 0)
  | .iaload => (29, 0, e.1 + 1, 0, 0)
  | .laload => (29, 1, e.1 + 1, 0, 0)
  | .aaload => (29, 3, e.1 + 1, 0, 0)
  | .iastore => (30, 0, e.1 + 1, 0, 0)
  | .lastore => (30, 1, e.1 + 1, 0, 0)
  | .aastore => (30, 3, e.1 + 1, 0, 0)
  | .arraylength => (31, 0, e.1 + 1, 0, 0)
  | .new _ => if e.2.2.2.1 = 995 then (46, e.2.2.2.2.1, 0, 0, 0) else (match mCl[e.2.2.2.1]? with
    | some c => if (List.range c.2.2).all (fun j => decide (mfty e.2.2.2.1 j ≠ .float)) = true then (32, c.2.2, e.1 + 3, e.2.2.2.1, 0) else (99, 0, 0, 0, 0)
    | none => (99, 0, 0, 0, 0))
  | .newarray ty => if e.2.2.2.1 ≤ 2 ∧ mTys[e.2.2.2.1]? = some (newarray.typeOf ty) then (33, 0, e.1 + 2, e.2.2.2.1, 0) else (99, 0, 0, 0, 0)
  | .anewarray _ => if e.2.2.2.1 = 3 ∧ mTys[3]? = some (.object "java/lang/Object") ∧ Cond.arrayOver (.object "java/lang/Object") ∈ mXw then (33, 0, e.1 + 3, 3, 0) else (99, 0, 0, 0, 0)
  | .ldc _ => if e.2.2.1 = 0 then (1, qbias (Int32.ofNat e.2.2.2.1), e.1 + 2, 0, 0) else (if e.2.2.1 = 1 then (match mMir[e.2.2.2.1]? with
    | some z => (36, z.2, e.1 + 2, 0, 0)
    | none => (99, 0, 0, 0, 0)) else (99, 0, 0, 0, 0))
  | .ldc2_w _ => if e.2.2.1 = 0 then (2, e.2.2.2.1, e.1 + 3, 0, 0) else (99, 0, 0, 0, 0)
  | .getstatic _ => if e.2.2.1 = 0 then (match mStat[e.2.2.2.1]? with
    | some z => (match z.2.2.2 with
      | .int x => (1, qbias x, e.1 + 3, 0, 0)
      | .ref q => (36, q, e.1 + 3, 0, 0)
      | _ => (99, 0, 0, 0, 0))
    | none => (99, 0, 0, 0, 0)) else (99, 0, 0, 0, 0)
  | .invokevirtual _ => if e.2.2.2.1 = 994 then (match mMir[0]? with
    | some z => if z.1 = "[Ljava/lang/Object;" ∧ mTys[3]? = some (.object "java/lang/Object") then (38, z.2, e.1 + 3, 0, 0) else (99, 0, 0, 0, 0)
    | none => (99, 0, 0, 0, 0)) else (40, e.2.2.2.1, e.1 + 3, 0, 2)
  | .invokespecial _ => if e.2.2.2.1 = 998 then (41, 0, e.1 + 3, 0, 0) else (40, e.2.2.2.1, e.1 + 3, 0, 1)
  | .invokestatic _ => if e.2.2.2.1 = 993 then (if mTys[3]? = some (.object "java/lang/Object") ∧ mcast 0 "java/lang/Object" = true then (37, 0, e.1 + 3, 0, 0) else (99, 0, 0, 0, 0)) else (if e.2.2.2.1 = 997 then (42, 0, e.1 + 3, 0, 0) else (if e.2.2.2.1 = 996 then (43, 0, e.1 + 3, 0, 0) else (40, e.2.2.2.1, e.1 + 3, 0, 0)))
  | .ireturn => (45, 0, 0, 0, 0)
  | .areturn => (45, 0, 0, 1, 0)
  | .lreturn => (45, 0, 0, 5, 0)
  | .dreturn => (45, 0, 0, 6, 0)
  | .return_ => (45, 0, 0, 9, 0)
  | _ => (99, 0, 0, 0, 0)
