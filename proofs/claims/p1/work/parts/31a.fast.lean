/-! ===== the abstract machine once more, as the kernel runs it fast: recursors in place, each place's doing worked out once ===== -/
theorem qg_def {α : Type} {b : Bool} {x : Option α} : qg b x = @Bool.rec (fun _ => Option α) none x b := by cases b <;> rfl
theorem qif_def {α : Type} {b : Bool} {x y : α} : qif b x y = @Bool.rec (fun _ => α) y x b := by cases b <;> rfl
noncomputable def qkindZ (z t : Nat) : Bool := @Bool.rec (fun _ => Bool) (Nat.beq t z) (@Bool.rec (fun _ => Bool) (Nat.beq t 3) true (Nat.beq t 1)) (Nat.beq z 1)
theorem qkindZ_eq (z t : Nat) : qkindZ z t = qkind z t := by
  unfold qkindZ
  rfl
noncomputable def qc1Z (a : qV) : qV := @Bool.rec (fun _ => qV) a (7, 0, 0) (Nat.ble 5 a.1)
theorem qc1Z_eq (a : qV) : qc1Z a = qc1 a := by
  unfold qc1Z
  rfl
noncomputable def qset1Z (l : qL) (i : Nat) (v : qV) : qL := fun j => @Bool.rec (fun _ => qV) (@Bool.rec (fun _ => qV) (l j) (qc1Z (l j)) (Nat.beq (Nat.succ j) i)) v (Nat.beq j i)
theorem qset1Z_eq (l : qL) (i : Nat) (v : qV) : qset1Z l i v = qset1 l i v := by
  unfold qset1Z
  simp only [qc1Z_eq]
  rfl
noncomputable def qset2Z (l : qL) (i : Nat) (v : qV) : qL := fun j => @Bool.rec (fun _ => qV) (@Bool.rec (fun _ => qV) (@Bool.rec (fun _ => qV) (l j) (qc1Z (l j)) (Nat.beq (Nat.succ j) i)) (7, 0, 0) (Nat.beq j (Nat.succ i))) v (Nat.beq j i)
theorem qset2Z_eq (l : qL) (i : Nat) (v : qV) : qset2Z l i v = qset2 l i v := by
  unfold qset2Z
  simp only [qc1Z_eq]
  rfl
noncomputable def qputZ (H : Nat → qO) (a : Nat) (o : qO) : Nat → qO := fun q => @Bool.rec (fun _ => qO) (qsel (H q)) o (Nat.beq q a)
theorem qputZ_eq (H : Nat → qO) (a : Nat) (o : qO) : qputZ H a o = qput H a o := by
  unfold qputZ
  rfl
noncomputable def qfldZ (f : Nat → qV) (b : Nat) (v : qV) : Nat → qV := fun j => @Bool.rec (fun _ => qV) (f j) v (Nat.beq j b)
theorem qfldZ_eq (f : Nat → qV) (b : Nat) (v : qV) : qfldZ f b v = qfld f b v := by
  unfold qfldZ
  rfl
noncomputable def qloadZ (x y z : Nat) (lv : qL) (st : List qV) (w : qW) : Option qT := @Bool.rec (fun _ => Option qT) none (some (y, lv, lv x :: st, w)) (qkindZ z (lv x).1)
theorem qloadZ_eq (x y z : Nat) (lv : qL) (st : List qV) (w : qW) : qloadZ x y z lv st w = qload x y z lv st w := by
  unfold qloadZ
  simp only [qkindZ_eq]
  rfl
noncomputable def qstoreZ (nL x y z : Nat) (lv : qL) (st : List qV) (w : qW) : Option qT := @List.rec qV (fun _ => Option qT) none (fun v r _ => @Bool.rec (fun _ => Option qT) none (@Bool.rec (fun _ => Option qT) (@Bool.rec (fun _ => Option qT) none (some (y, qset1Z lv x v, r, w)) (Nat.ble (Nat.succ x) nL)) (@Bool.rec (fun _ => Option qT) none (some (y, qset2Z lv x v, r, w)) (Nat.ble (Nat.add x 2) nL)) (Nat.ble 5 z)) (qkindZ z v.1)) st
theorem qstoreZ_eq (nL x y z : Nat) (lv : qL) (st : List qV) (w : qW) : qstoreZ nL x y z lv st w = qstore nL x y z lv st w := by
  unfold qstoreZ
  simp only [qkindZ_eq, qset1Z_eq, qset2Z_eq]
  conv => rhs; unfold qstore
  simp only [qg_def, qif_def]
  cases st with
  | nil => rfl
  | cons s0 t0 =>
    rfl
noncomputable def qiincZ (nL x y z : Nat) (lv : qL) (st : List qV) (w : qW) : Option qT := @Bool.rec (fun _ => Option qT) none (@Bool.rec (fun _ => Option qT) none (@Bool.rec (fun _ => Option qT) none (@Bool.rec (fun _ => Option qT) none (some (y, qset1Z lv x (0, Nat.sub (Nat.add (lv x).2.1 z) 2147483648, Nat.sub (Nat.add (lv x).2.2 z) 2147483648), st, w)) (Nat.ble (Nat.add (lv x).2.2 z) 6442450943)) (Nat.ble 2147483648 (Nat.add (lv x).2.1 z))) (Nat.ble (Nat.succ x) nL)) (Nat.beq (lv x).1 0)
theorem qiincZ_eq (nL x y z : Nat) (lv : qL) (st : List qV) (w : qW) : qiincZ nL x y z lv st w = qiinc nL x y z lv st w := by
  unfold qiincZ
  simp only [qset1Z_eq]
  rfl
noncomputable def qaddZ (y : Nat) (lv : qL) (st : List qV) (w : qW) : Option qT := @List.rec qV (fun _ => Option qT) none (fun a q1 _ => @List.rec qV (fun _ => Option qT) none (fun b r _ => @Bool.rec (fun _ => Option qT) none (@Bool.rec (fun _ => Option qT) none (@Bool.rec (fun _ => Option qT) none (@Bool.rec (fun _ => Option qT) none (some (y, lv, (0, Nat.sub (Nat.add b.2.1 a.2.1) 2147483648, Nat.sub (Nat.add b.2.2 a.2.2) 2147483648) :: r, w)) (Nat.ble (Nat.add b.2.2 a.2.2) 6442450943)) (Nat.ble 2147483648 (Nat.add b.2.1 a.2.1))) (Nat.beq b.1 0)) (Nat.beq a.1 0)) q1) st
theorem qaddZ_eq (y : Nat) (lv : qL) (st : List qV) (w : qW) : qaddZ y lv st w = qadd y lv st w := by
  unfold qaddZ
  conv => rhs; unfold qadd
  simp only [qg_def, qif_def]
  cases st with
  | nil => rfl
  | cons s0 t0 =>
    cases t0 with
    | nil => rfl
    | cons s1 t1 =>
      rfl
noncomputable def qandZ (y : Nat) (lv : qL) (st : List qV) (w : qW) : Option qT := @List.rec qV (fun _ => Option qT) none (fun a q1 _ => @List.rec qV (fun _ => Option qT) none (fun b r _ => @Bool.rec (fun _ => Option qT) none (@Bool.rec (fun _ => Option qT) none (@Bool.rec (fun _ => Option qT) none (@Bool.rec (fun _ => Option qT) none (@Bool.rec (fun _ => Option qT) none (some (y, lv, (0, Nat.add b.2.1 2147483648, Nat.add b.2.1 2147483648) :: r, w)) (Nat.ble b.2.1 31)) (Nat.beq b.1 4)) (Nat.beq a.2.2 2147483679)) (Nat.beq a.2.1 2147483679)) (Nat.beq a.1 0)) q1) st
theorem qandZ_eq (y : Nat) (lv : qL) (st : List qV) (w : qW) : qandZ y lv st w = qand y lv st w := by
  unfold qandZ
  conv => rhs; unfold qand
  simp only [qg_def, qif_def]
  cases st with
  | nil => rfl
  | cons s0 t0 =>
    cases t0 with
    | nil => rfl
    | cons s1 t1 =>
      rfl
noncomputable def qdivZ (y : Nat) (lv : qL) (st : List qV) (w : qW) : Option qT := @List.rec qV (fun _ => Option qT) none (fun a q1 _ => @List.rec qV (fun _ => Option qT) none (fun b r _ => @Bool.rec (fun _ => Option qT) none (@Bool.rec (fun _ => Option qT) none (@Bool.rec (fun _ => Option qT) none (@Bool.rec (fun _ => Option qT) none (@Bool.rec (fun _ => Option qT) none (some (y, lv, (0, Nat.add (Nat.div (Nat.sub b.2.1 2147483648) (Nat.sub a.2.1 2147483648)) 2147483648, Nat.add (Nat.div (Nat.sub b.2.2 2147483648) (Nat.sub a.2.1 2147483648)) 2147483648) :: r, w)) (Nat.ble 2147483648 b.2.1)) (Nat.ble 2147483649 a.2.1)) (Nat.beq a.2.1 a.2.2)) (Nat.beq b.1 0)) (Nat.beq a.1 0)) q1) st
theorem qdivZ_eq (y : Nat) (lv : qL) (st : List qV) (w : qW) : qdivZ y lv st w = qdiv y lv st w := by
  unfold qdivZ
  conv => rhs; unfold qdiv
  simp only [qg_def, qif_def]
  cases st with
  | nil => rfl
  | cons s0 t0 =>
    cases t0 with
    | nil => rfl
    | cons s1 t1 =>
      rfl
noncomputable def qremZ (y : Nat) (lv : qL) (st : List qV) (w : qW) : Option qT := @List.rec qV (fun _ => Option qT) none (fun a q1 _ => @List.rec qV (fun _ => Option qT) none (fun b r _ => @Bool.rec (fun _ => Option qT) none (@Bool.rec (fun _ => Option qT) none (@Bool.rec (fun _ => Option qT) none (@Bool.rec (fun _ => Option qT) none (@Bool.rec (fun _ => Option qT) none (some (y, lv, @Bool.rec (fun _ => qV) (0, 2147483648, Nat.sub a.2.1 1) (0, Nat.add (Nat.mod (Nat.sub b.2.1 2147483648) (Nat.sub a.2.1 2147483648)) 2147483648, Nat.add (Nat.mod (Nat.sub b.2.1 2147483648) (Nat.sub a.2.1 2147483648)) 2147483648) (Nat.beq b.2.1 b.2.2) :: r, w)) (Nat.ble 2147483648 b.2.1)) (Nat.ble 2147483649 a.2.1)) (Nat.beq a.2.1 a.2.2)) (Nat.beq b.1 0)) (Nat.beq a.1 0)) q1) st
theorem qremZ_eq (y : Nat) (lv : qL) (st : List qV) (w : qW) : qremZ y lv st w = qrem y lv st w := by
  unfold qremZ
  conv => rhs; unfold qrem
  simp only [qg_def, qif_def]
  cases st with
  | nil => rfl
  | cons s0 t0 =>
    cases t0 with
    | nil => rfl
    | cons s1 t1 =>
      rfl
noncomputable def qladdZ (y : Nat) (lv : qL) (st : List qV) (w : qW) : Option qT := @List.rec qV (fun _ => Option qT) none (fun a q1 _ => @List.rec qV (fun _ => Option qT) none (fun b r _ => @Bool.rec (fun _ => Option qT) none (@Bool.rec (fun _ => Option qT) none (some (y, lv, (5, Nat.mod (Nat.add b.2.1 a.2.1) 18446744073709551616, 0) :: r, w)) (Nat.beq b.1 5)) (Nat.beq a.1 5)) q1) st
theorem qladdZ_eq (y : Nat) (lv : qL) (st : List qV) (w : qW) : qladdZ y lv st w = qladd y lv st w := by
  unfold qladdZ
  conv => rhs; unfold qladd
  simp only [qg_def, qif_def]
  cases st with
  | nil => rfl
  | cons s0 t0 =>
    cases t0 with
    | nil => rfl
    | cons s1 t1 =>
      rfl
noncomputable def qlmulZ (y : Nat) (lv : qL) (st : List qV) (w : qW) : Option qT := @List.rec qV (fun _ => Option qT) none (fun a q1 _ => @List.rec qV (fun _ => Option qT) none (fun b r _ => @Bool.rec (fun _ => Option qT) none (@Bool.rec (fun _ => Option qT) none (some (y, lv, (5, Nat.mod (Nat.mul b.2.1 a.2.1) 18446744073709551616, 0) :: r, w)) (Nat.beq b.1 5)) (Nat.beq a.1 5)) q1) st
theorem qlmulZ_eq (y : Nat) (lv : qL) (st : List qV) (w : qW) : qlmulZ y lv st w = qlmul y lv st w := by
  unfold qlmulZ
  conv => rhs; unfold qlmul
  simp only [qg_def, qif_def]
  cases st with
  | nil => rfl
  | cons s0 t0 =>
    cases t0 with
    | nil => rfl
    | cons s1 t1 =>
      rfl
noncomputable def qlcmpZ (y : Nat) (lv : qL) (st : List qV) (w : qW) : Option qT := @List.rec qV (fun _ => Option qT) none (fun a q1 _ => @List.rec qV (fun _ => Option qT) none (fun b r _ => @Bool.rec (fun _ => Option qT) none (@Bool.rec (fun _ => Option qT) none (@Bool.rec (fun _ => Option qT) none (some (y, lv, (0, 2147483648, 2147483648) :: r, w)) (Nat.beq a.2.1 b.2.1)) (Nat.beq b.1 5)) (Nat.beq a.1 5)) q1) st
theorem qlcmpZ_eq (y : Nat) (lv : qL) (st : List qV) (w : qW) : qlcmpZ y lv st w = qlcmp y lv st w := by
  unfold qlcmpZ
  conv => rhs; unfold qlcmp
  simp only [qg_def, qif_def]
  cases st with
  | nil => rfl
  | cons s0 t0 =>
    cases t0 with
    | nil => rfl
    | cons s1 t1 =>
      rfl
noncomputable def qdupZ (y : Nat) (lv : qL) (st : List qV) (w : qW) : Option qT := @List.rec qV (fun _ => Option qT) none (fun a r _ => @Bool.rec (fun _ => Option qT) none (some (y, lv, a :: a :: r, w)) (Nat.ble a.1 3)) st
theorem qdupZ_eq (y : Nat) (lv : qL) (st : List qV) (w : qW) : qdupZ y lv st w = qdup y lv st w := by
  unfold qdupZ
  conv => rhs; unfold qdup
  simp only [qg_def, qif_def]
  cases st with
  | nil => rfl
  | cons s0 t0 =>
    rfl
noncomputable def qpopZ (y : Nat) (lv : qL) (st : List qV) (w : qW) : Option qT := @List.rec qV (fun _ => Option qT) none (fun a r _ => @Bool.rec (fun _ => Option qT) none (some (y, lv, r, w)) (Nat.ble a.1 3)) st
theorem qpopZ_eq (y : Nat) (lv : qL) (st : List qV) (w : qW) : qpopZ y lv st w = qpop y lv st w := by
  unfold qpopZ
  conv => rhs; unfold qpop
  simp only [qg_def, qif_def]
  cases st with
  | nil => rfl
  | cons s0 t0 =>
    rfl
noncomputable def qdupxZ (y : Nat) (lv : qL) (st : List qV) (w : qW) : Option qT := @List.rec qV (fun _ => Option qT) none (fun a q1 _ => @List.rec qV (fun _ => Option qT) none (fun b r _ => @Bool.rec (fun _ => Option qT) none (@Bool.rec (fun _ => Option qT) none (some (y, lv, a :: b :: a :: r, w)) (Nat.ble b.1 3)) (Nat.ble a.1 3)) q1) st
theorem qdupxZ_eq (y : Nat) (lv : qL) (st : List qV) (w : qW) : qdupxZ y lv st w = qdupx y lv st w := by
  unfold qdupxZ
  conv => rhs; unfold qdupx
  simp only [qg_def, qif_def]
  cases st with
  | nil => rfl
  | cons s0 t0 =>
    cases t0 with
    | nil => rfl
    | cons s1 t1 =>
      rfl
noncomputable def qcmpZ (z l1 h1 l2 h2 x y : Nat) : Option Nat := @Bool.rec (fun _ => Option Nat) (@Bool.rec (fun _ => Option Nat) (@Bool.rec (fun _ => Option Nat) (@Bool.rec (fun _ => Option Nat) (@Bool.rec (fun _ => Option Nat) none (@Bool.rec (fun _ => Option Nat) none (@Bool.rec (fun _ => Option Nat) none (some x) (Nat.beq l1 l2)) (Nat.beq l2 h2)) (Nat.beq l1 h1)) (some y) (Nat.ble (Nat.succ h2) l1)) (some y) (Nat.ble (Nat.succ h1) l2)) (@Bool.rec (fun _ => Option Nat) (@Bool.rec (fun _ => Option Nat) none (some y) (Nat.ble h1 l2)) (some x) (Nat.ble (Nat.succ h2) l1)) (Nat.beq z 1)) (@Bool.rec (fun _ => Option Nat) (@Bool.rec (fun _ => Option Nat) none (some y) (Nat.ble h2 l1)) (some x) (Nat.ble (Nat.succ h1) l2)) (Nat.beq z 0)
theorem qcmpZ_eq (z l1 h1 l2 h2 x y : Nat) : qcmpZ z l1 h1 l2 h2 x y = qcmp z l1 h1 l2 h2 x y := by
  unfold qcmpZ
  rfl
noncomputable def qifcZ (x y z : Nat) (lv : qL) (st : List qV) (w : qW) : Option qT := @List.rec qV (fun _ => Option qT) none (fun a r _ => @Bool.rec (fun _ => Option qT) none (@Option.rec Nat (fun _ => Option qT) none (fun t => some (t, lv, r, w)) (qcmpZ z a.2.1 a.2.2 2147483648 2147483648 x y)) (Nat.beq a.1 0)) st
theorem qifcZ_eq (x y z : Nat) (lv : qL) (st : List qV) (w : qW) : qifcZ x y z lv st w = qifc x y z lv st w := by
  unfold qifcZ
  simp only [qcmpZ_eq]
  conv => rhs; unfold qifc
  simp only [qg_def, qif_def]
  cases st with
  | nil => rfl
  | cons s0 t0 =>
    dsimp only
    generalize qcmp _ _ _ _ _ _ _ = o
    cases o <;> rfl
noncomputable def qicmpZ (x y z : Nat) (lv : qL) (st : List qV) (w : qW) : Option qT := @List.rec qV (fun _ => Option qT) none (fun a q1 _ => @List.rec qV (fun _ => Option qT) none (fun b r _ => @Bool.rec (fun _ => Option qT) none (@Bool.rec (fun _ => Option qT) none (@Option.rec Nat (fun _ => Option qT) none (fun t => some (t, lv, r, w)) (qcmpZ z b.2.1 b.2.2 a.2.1 a.2.2 x y)) (Nat.beq b.1 0)) (Nat.beq a.1 0)) q1) st
theorem qicmpZ_eq (x y z : Nat) (lv : qL) (st : List qV) (w : qW) : qicmpZ x y z lv st w = qicmp x y z lv st w := by
  unfold qicmpZ
  simp only [qcmpZ_eq]
  conv => rhs; unfold qicmp
  simp only [qg_def, qif_def]
  cases st with
  | nil => rfl
  | cons s0 t0 =>
    cases t0 with
    | nil => rfl
    | cons s1 t1 =>
      dsimp only
      generalize qcmp _ _ _ _ _ _ _ = o
      cases o <;> rfl
noncomputable def qacmpZ (x : Nat) (lv : qL) (st : List qV) (w : qW) : Option qT := @List.rec qV (fun _ => Option qT) none (fun a q1 _ => @List.rec qV (fun _ => Option qT) none (fun b r _ => @Bool.rec (fun _ => Option qT) none (@Bool.rec (fun _ => Option qT) none (@Bool.rec (fun _ => Option qT) none (some (x, lv, r, w)) (Nat.beq a.2.1 b.2.1)) (Nat.beq b.1 1)) (Nat.beq a.1 1)) q1) st
theorem qacmpZ_eq (x : Nat) (lv : qL) (st : List qV) (w : qW) : qacmpZ x lv st w = qacmp x lv st w := by
  unfold qacmpZ
  conv => rhs; unfold qacmp
  simp only [qg_def, qif_def]
  cases st with
  | nil => rfl
  | cons s0 t0 =>
    cases t0 with
    | nil => rfl
    | cons s1 t1 =>
      rfl
noncomputable def qgetfZ (X x y z : Nat) (lv : qL) (st : List qV) (w : qW) : Option qT := @List.rec qV (fun _ => Option qT) none (fun a r _ => @Bool.rec (fun _ => Option qT) none (@Bool.rec (fun _ => Option qT) none (@Bool.rec (fun _ => Option qT) none (@Prod.rec Nat (Nat × Nat × (Nat → qV)) (fun _ => Option qT) (fun k r1 => @Prod.rec Nat (Nat × (Nat → qV)) (fun _ => Option qT) (fun c r2 => @Prod.rec Nat (Nat → qV) (fun _ => Option qT) (fun n f => @Bool.rec (fun _ => Option qT) none (@Bool.rec (fun _ => Option qT) none (@Bool.rec (fun _ => Option qT) none (some (y, lv, f x :: r, w)) (Nat.ble (Nat.succ x) n)) (Nat.beq c z)) (Nat.beq k 1)) r2) r1) (w.1 a.2.1)) (Nat.ble (Nat.succ a.2.1) w.2.1)) (Nat.ble X a.2.1)) (Nat.beq a.1 1)) st
theorem qgetfZ_eq (X x y z : Nat) (lv : qL) (st : List qV) (w : qW) : qgetfZ X x y z lv st w = qgetf X x y z lv st w := by
  unfold qgetfZ
  conv => rhs; unfold qgetf
  simp only [qg_def, qif_def]
  cases st with
  | nil => rfl
  | cons s0 t0 =>
    rfl
noncomputable def qfitZ (u : Nat) (v : qV) : Bool := @Bool.rec (fun _ => Bool) (@Bool.rec (fun _ => Bool) (@Bool.rec (fun _ => Bool) false (@Bool.rec (fun _ => Bool) (Nat.beq v.1 2) true (Nat.beq v.1 1)) (Nat.beq u 2)) (@Bool.rec (fun _ => Bool) false (@Bool.rec (fun _ => Bool) false (Nat.ble v.2.2 2147483649) (Nat.ble 2147483648 v.2.1)) (Nat.beq v.1 0)) (Nat.beq u 1)) (Nat.beq v.1 0) (Nat.beq u 0)
theorem qfitZ_eq (u : Nat) (v : qV) : qfitZ u v = qfit u v := by
  unfold qfitZ
  rfl
noncomputable def qputfZ (X x y z u : Nat) (lv : qL) (st : List qV) (w : qW) : Option qT := @List.rec qV (fun _ => Option qT) none (fun v q1 _ => @List.rec qV (fun _ => Option qT) none (fun a r _ => @Bool.rec (fun _ => Option qT) none (@Bool.rec (fun _ => Option qT) none (@Bool.rec (fun _ => Option qT) none (@Bool.rec (fun _ => Option qT) none (@Prod.rec Nat (Nat × Nat × (Nat → qV)) (fun _ => Option qT) (fun k r1 => @Prod.rec Nat (Nat × (Nat → qV)) (fun _ => Option qT) (fun c r2 => @Prod.rec Nat (Nat → qV) (fun _ => Option qT) (fun n f => @Bool.rec (fun _ => Option qT) none (@Bool.rec (fun _ => Option qT) none (@Bool.rec (fun _ => Option qT) none (some (y, lv, r, (qputZ w.1 a.2.1 (1, c, n, qfldZ f x v), w.2))) (Nat.ble (Nat.succ x) n)) (Nat.beq c z)) (Nat.beq k 1)) r2) r1) (w.1 a.2.1)) (Nat.ble (Nat.succ a.2.1) w.2.1)) (Nat.ble X a.2.1)) (Nat.beq a.1 1)) (qfitZ u v)) q1) st
theorem qputfZ_eq (X x y z u : Nat) (lv : qL) (st : List qV) (w : qW) : qputfZ X x y z u lv st w = qputf X x y z u lv st w := by
  unfold qputfZ
  simp only [qputZ_eq, qfldZ_eq, qfitZ_eq]
  conv => rhs; unfold qputf
  simp only [qg_def, qif_def]
  cases st with
  | nil => rfl
  | cons s0 t0 =>
    cases t0 with
    | nil => rfl
    | cons s1 t1 =>
      rfl
noncomputable def qlenZ (X : Nat) (bx : qX) (y : Nat) (lv : qL) (st : List qV) (w : qW) : Option qT := @List.rec qV (fun _ => Option qT) none (fun a r _ => @Bool.rec (fun _ => Option qT) none (@Bool.rec (fun _ => Option qT) (@Bool.rec (fun _ => Option qT) (@Bool.rec (fun _ => Option qT) none (some (y, lv, (0, 2147483648, 2147483648) :: r, w)) (Nat.beq a.2.1 2)) (@Bool.rec (fun _ => Option qT) none (some (y, lv, (0, Nat.add bx.1 2147483648, Nat.add bx.1 2147483648) :: r, w)) (Nat.ble bx.1 2147483647)) (Nat.beq a.2.1 0)) (@Bool.rec (fun _ => Option qT) none (@Prod.rec Nat (Nat × Nat × (Nat → qV)) (fun _ => Option qT) (fun k r1 => @Prod.rec Nat (Nat × (Nat → qV)) (fun _ => Option qT) (fun c r2 => @Prod.rec Nat (Nat → qV) (fun _ => Option qT) (fun n _ => @Bool.rec (fun _ => Option qT) none (@Bool.rec (fun _ => Option qT) none (@Bool.rec (fun _ => Option qT) none (some (y, lv, (0, Nat.add n 2147483648, Nat.add n 2147483648) :: r, w)) (Nat.ble n 2147483647)) (Nat.ble c 3)) (Nat.beq k 0)) r2) r1) (w.1 a.2.1)) (Nat.ble (Nat.succ a.2.1) w.2.1)) (Nat.ble X a.2.1)) (Nat.beq a.1 1)) st
theorem qlenZ_eq (X : Nat) (bx : qX) (y : Nat) (lv : qL) (st : List qV) (w : qW) : qlenZ X bx y lv st w = qlen X bx y lv st w := by
  unfold qlenZ
  conv => rhs; unfold qlen
  simp only [qg_def, qif_def]
  cases st with
  | nil => rfl
  | cons s0 t0 =>
    rfl
abbrev qK : Type := Nat → qL → List qV → qW → Option qRet
abbrev qIn : Type := List qV → qW → Option (List qV × List qV)
abbrev qH : Type := Nat → Nat → Nat → mIns → qIn → qK → qL → List qV → qW → Option qRet
abbrev qLf : Type := qX → qH → qK → qL → List qV → qW → Option qRet
noncomputable def qgoto (x : Nat) (lv : qL) (st : List qV) (w : qW) : Option qT := some (x, lv, st, w)
noncomputable def qlS (f : qX → qL → List qV → qW → Option qT) : qLf := fun bx _ k lv st w => @Option.rec qT (fun _ => Option qRet) none (fun t => @Prod.rec Nat (qL × List qV × qW) (fun _ => Option qRet) (fun y t1 => @Prod.rec qL (List qV × qW) (fun _ => Option qRet) (fun l t2 => @Prod.rec (List qV) qW (fun _ => Option qRet) (fun s w1 => k y l s w1) t2) t1) t) (f bx lv st w)
noncomputable def qlN : qLf × Nat := (fun _ _ _ _ _ _ => none, 0)
noncomputable def qlC (x y u : Nat) (e : mIns) (inv : qIn) : qLf := fun _ H k lv st w => H x y u e inv k lv st w
noncomputable def qlE (f : List qV → qW → Option qRet) : qLf := fun _ _ _ _ st w => f st w
noncomputable def qlM (f : List qV → Option (Nat × List qV)) : qLf := fun _ _ k lv st w => @Option.rec (Nat × List qV) (fun _ => Option qRet) none (fun t => @Prod.rec Nat (List qV) (fun _ => Option qRet) (fun y s => k y lv s w) t) (f st)
noncomputable def qtakeZ (n : Nat) : List qV → List qV → Option (List qV × List qV) := @Nat.rec (fun _ => List qV → List qV → Option (List qV × List qV)) (fun acc st => some (acc, st)) (fun _ ih acc st => @List.rec qV (fun _ => Option (List qV × List qV)) none (fun v r _ => ih (v :: acc) r) st) n
theorem qtakeZ_eq (n : Nat) : ∀ (acc st : List qV), qtakeZ n acc st = qtake n acc st := by
  induction n with
  | zero => exact fun acc st => rfl
  | succ n ih =>
    intro acc st
    cases st with
    | nil => rfl
    | cons v r => exact ih (v :: acc) r
noncomputable def qcatsZ (l : List qV) : Nat := @List.rec qV (fun _ => Nat) 0 (fun v _ ih => Nat.add (@Bool.rec (fun _ => Nat) 1 2 (Nat.ble 5 v.1)) ih) l
theorem qcatsZ_eq (l : List qV) : qcatsZ l = qcats l := by
  induction l with
  | nil => rfl
  | cons v r ih => exact congrArg (Nat.add (qif (Nat.ble 5 v.1) 2 1)) ih
noncomputable def qcntZ (l : List qV) : Nat := @List.rec qV (fun _ => Nat) 0 (fun _ _ ih => Nat.succ ih) l
theorem qcntZ_eq (l : List qV) : qcntZ l = l.length := by
  induction l with
  | nil => rfl
  | cons v r ih => exact congrArg Nat.succ ih
noncomputable def qargsZ (i : Nat) (as : List qV) : qL := @List.rec qV (fun _ => Nat → qL) (fun _ _ => (7, 0, 0)) (fun v _ ih i j => @Bool.rec (fun _ => qV) (ih (@Bool.rec (fun _ => Nat) (Nat.succ i) (Nat.add i 2) (Nat.ble 5 v.1)) j) v (Nat.beq j i)) as i
theorem qargsZ_eq (as : List qV) : ∀ i : Nat, qargsZ i as = qargs i as := by
  induction as with
  | nil => exact fun i => rfl
  | cons v r ih =>
    intro i
    funext j
    show qif (Nat.beq j i) v (qargsZ (qif (Nat.ble 5 v.1) (Nat.add i 2) (Nat.succ i)) r j) = qif (Nat.beq j i) v (qargs (qif (Nat.ble 5 v.1) (Nat.add i 2) (Nat.succ i)) r j)
    rw [ih]
noncomputable def qinv0 (z v : Nat) (st : List qV) (_ : qW) : Option (List qV × List qV) := @Option.rec (List qV × List qV) (fun _ => Option (List qV × List qV)) none (fun p => @Prod.rec (List qV) (List qV) (fun _ => Option (List qV × List qV)) (fun as r => @Bool.rec (fun _ => Option (List qV × List qV)) none (@Bool.rec (fun _ => Option (List qV × List qV)) none (some (as, r)) (Nat.ble (qcatsZ as) (Nat.div v 64))) (Nat.ble (qcntZ r) 4)) p) (qtakeZ z [] st)
noncomputable def qinv1 (z v : Nat) (st : List qV) (_ : qW) : Option (List qV × List qV) := @Option.rec (List qV × List qV) (fun _ => Option (List qV × List qV)) none (fun p => @Prod.rec (List qV) (List qV) (fun _ => Option (List qV × List qV)) (fun as r => @List.rec qV (fun _ => Option (List qV × List qV)) none (fun a r' _ => @Bool.rec (fun _ => Option (List qV × List qV)) none (@Bool.rec (fun _ => Option (List qV × List qV)) none (@Bool.rec (fun _ => Option (List qV × List qV)) none (some (a :: as, r')) (Nat.ble (qcatsZ (a :: as)) (Nat.div v 64))) (Nat.ble (qcntZ r') 4)) (Nat.beq a.1 1)) r) p) (qtakeZ z [] st)
noncomputable def qinv2 (z v : Nat) (st : List qV) (w : qW) : Option (List qV × List qV) := @Option.rec (List qV × List qV) (fun _ => Option (List qV × List qV)) none (fun p => @Prod.rec (List qV) (List qV) (fun _ => Option (List qV × List qV)) (fun as r => @List.rec qV (fun _ => Option (List qV × List qV)) none (fun a r' _ => @Bool.rec (fun _ => Option (List qV × List qV)) none (@Bool.rec (fun _ => Option (List qV × List qV)) none (@Bool.rec (fun _ => Option (List qV × List qV)) none (@Bool.rec (fun _ => Option (List qV × List qV)) none (@Bool.rec (fun _ => Option (List qV × List qV)) none (@Bool.rec (fun _ => Option (List qV × List qV)) none (@Bool.rec (fun _ => Option (List qV × List qV)) none (some (a :: as, r')) (Nat.ble (qcatsZ (a :: as)) (Nat.div v 64))) (Nat.ble (qcntZ r') 4)) (Nat.beq (w.1 a.2.1).2.1 (Nat.mod v 64))) (Nat.beq (w.1 a.2.1).1 1)) (Nat.ble (Nat.succ a.2.1) w.2.1)) (Nat.ble 261 a.2.1)) (Nat.beq a.1 1)) r) p) (qtakeZ z [] st)
theorem qinvZ_eq (z u v : Nat) (st : List qV) (w : qW) : qinv 261 z u v st w = qif (Nat.beq u 1) (qinv1 z v st w) (qif (Nat.beq u 2) (qinv2 z v st w) (qinv0 z v st w)) := by
  unfold qinv qinv0 qinv1 qinv2
  simp only [qtakeZ_eq, qcatsZ_eq, qcntZ_eq]
  cases qtake z [] st with
  | none =>
    cases Nat.beq u 1 <;> cases Nat.beq u 2 <;> rfl
  | some q =>
    obtain ⟨as, r⟩ := q
    cases Nat.beq u 1 with
    | true => cases r <;> rfl
    | false =>
      cases Nat.beq u 2 with
      | true => cases r <;> rfl
      | false => rfl
noncomputable def qendT (x : Nat) (st : List qV) (w : qW) : Option qRet := @List.rec qV (fun _ => Option qRet) (some (Nat.add 2 x, (7, 0, 0), w)) (fun _ _ _ => none) st
noncomputable def qendV (st : List qV) (w : qW) : Option qRet := @List.rec qV (fun _ => Option qRet) (some (0, (7, 0, 0), w)) (fun _ _ _ => none) st
noncomputable def qendR (z v : Nat) (st : List qV) (w : qW) : Option qRet := @List.rec qV (fun _ => Option qRet) none (fun a t _ => @List.rec qV (fun _ => Option qRet) (@Bool.rec (fun _ => Option qRet) none (@Bool.rec (fun _ => Option qRet) none (some (1, a, w)) (@Bool.rec (fun _ => Bool) true (@Bool.rec (fun _ => Bool) (@Bool.rec (fun _ => Bool) false (Nat.ble a.2.2 2147483649) (Nat.ble 2147483648 a.2.1)) true (Nat.beq v 0)) (Nat.beq z 0))) (qkindZ z a.1)) (fun _ _ _ => none) t) st
theorem qendZ_eq (op x z v : Nat) (st : List qV) (w : qW) : qend op x z v st w = qif (Nat.beq op 46) (qendT x st w) (qif (Nat.beq z 9) (qendV st w) (qendR z v st w)) := by
  unfold qend qendR
  simp only [qkindZ_eq]
  cases st with
  | nil => rfl
  | cons a t => cases t <;> rfl
/-- what a place does -/
noncomputable def qleafS (nL op x y z u : Nat) (e : mIns) : qLf × Nat := (qif (Nat.ble op 18) (qif (Nat.ble op 8) (qif (Nat.ble op 4) (qif (Nat.ble op 2) (qif (Nat.beq op 1) (qlS (fun _ => qpush y (0, x, x)), 0) (qif (Nat.beq op 2) (qlS (fun _ => qpush y (5, x, 0)), 0) qlN)) (qif (Nat.beq op 3) (qlS (fun _ => qpush y (6, 0, 0)), 0) (qlS (fun _ => qloadZ x y z), 0))) (qif (Nat.ble op 6) (qif (Nat.beq op 5) (qlS (fun _ => qstoreZ nL x y z), 0) (qlS (fun _ => qiincZ nL x y z), 0)) (qif (Nat.beq op 7) (qlS (fun _ => qaddZ y), 0) (qlS (fun _ => qsub y), 0)))) (qif (Nat.ble op 13) (qif (Nat.ble op 11) (qif (Nat.beq op 10) (qlS (fun _ => qandZ y), 0) (qif (Nat.beq op 11) (qlS (fun _ => qdivZ y), 0) qlN)) (qif (Nat.beq op 12) (qlS (fun _ => qremZ y), 0) (qlS (fun _ => qshr y), 0))) (qif (Nat.ble op 16) (qif (Nat.beq op 14) (qlS (fun _ => qladdZ y), 0) (qif (Nat.beq op 15) (qlS (fun _ => qlmulZ y), 0) (qlS (fun _ => qi2l y), 0))) (qif (Nat.beq op 17) (qlS (fun _ => qlcmpZ y), 0) (qlS (fun _ => qdupZ y), 0))))) (qif (Nat.ble op 28) (qif (Nat.ble op 23) (qif (Nat.ble op 20) (qif (Nat.beq op 19) (qlS (fun _ => qpopZ y), 0) (qlS (fun _ => qdupxZ y), 0)) (qif (Nat.beq op 21) (qlS (fun _ => qgoto x), 0) (qif (Nat.beq op 22) (qlS (fun _ => qifcZ x y z), 0) (qlS (fun _ => qicmpZ x y z), 0)))) (qif (Nat.ble op 25) (qif (Nat.beq op 24) (qlS (fun _ => qacmpZ x), 0) (qlS (fun _ => qswitch e), 0)) (qif (Nat.beq op 27) (qlS (fun _ => qgetfZ 261 x y z), 0) (qif (Nat.beq op 28) (qlS (fun _ => qputfZ 261 x y z u), 0) qlN)))) (qif (Nat.ble op 33) (qif (Nat.ble op 30) (qif (Nat.beq op 29) (qlS (fun bx => qald 261 bx x y), 0) (qlS (fun _ => qast 261 x y), 0)) (qif (Nat.beq op 31) (qlS (fun bx => qlenZ 261 bx y), 0) (qif (Nat.beq op 32) (qlS (fun _ => qnew x y z), 0) (qlS (fun _ => qnewa y z), 0)))) (qif (Nat.beq op 36) (qlS (fun _ => qpush y (1, x, 0)), 0) (qif (Nat.beq op 37) (qlS (fun _ => qcopy 261 y), 0) (qif (Nat.beq op 38) (qlS (fun _ => qgetc 261 x y), 0) qlN))))))
noncomputable def qleaf (op x y z u v : Nat) (e : mIns) : qLf × Nat := qif (Nat.beq op 40) (qif (Nat.beq u 1) (qlC x y u e (qinv1 z v), 0) (qif (Nat.beq u 2) (qlC x y u e (qinv2 z v), 0) (qlC x y u e (qinv0 z v), 0))) (qif (Nat.ble 40 op) (qif (Nat.ble op 43) (qlM (qspec op y v), 0) (qif (Nat.ble op 46) (qif (Nat.beq op 46) (qlE (qendT x), 0) (qif (Nat.beq z 9) (qlE qendV, 0) (qlE (qendR z v), 0))) qlN)) (qleafS v op x y z u e))
theorem qif_1 {b : Bool} {f g : qLf × Nat} : (qif b f g).1 = qif b f.1 g.1 := by cases b <;> rfl
theorem qif_6 {b : Bool} {f g : qLf} {bx : qX} {H : qH} {k : qK} {lv : qL} {st : List qV} {w : qW} : (qif b f g) bx H k lv st w = qif b (f bx H k lv st w) (g bx H k lv st w) := by cases b <;> rfl
noncomputable def qbind (k : qK) (r : Option qT) : Option qRet := match r with
  | none => none
  | some (y', lv', st', w') => k y' lv' st' w'
theorem qif_b {b : Bool} {k : qK} {f g : Option qT} : qbind k (qif b f g) = qif b (qbind k f) (qbind k g) := by cases b <;> rfl
theorem qlS_eq {f : qX → qL → List qV → qW → Option qT} {bx : qX} {H : qH} {k : qK} {lv : qL} {st : List qV} {w : qW} : qlS f bx H k lv st w = qbind k (f bx lv st w) := by
  unfold qlS qbind
  cases f bx lv st w with
  | none => rfl
  | some t => rfl
theorem qlN_eq {bx : qX} {H : qH} {k : qK} {lv : qL} {st : List qV} {w : qW} : qlN.1 bx H k lv st w = qbind k none := rfl
theorem qleafS_eq (nL op x y z u : Nat) (e : mIns) (bx : qX) (H : qH) (k : qK) (lv : qL) (st : List qV) (w : qW) : (qleafS nL op x y z u e).1 bx H k lv st w = qbind k (qstep 261 bx nL op x y z u e lv st w) := by
  unfold qleafS qstep
  simp only [qif_1, qif_6, qif_b, qlS_eq, qlN_eq, qgoto, qloadZ_eq, qstoreZ_eq, qiincZ_eq, qaddZ_eq, qandZ_eq, qdivZ_eq, qremZ_eq, qladdZ_eq, qlmulZ_eq, qlcmpZ_eq, qdupZ_eq, qpopZ_eq, qdupxZ_eq, qifcZ_eq, qicmpZ_eq, qacmpZ_eq, qgetfZ_eq, qputfZ_eq, qlenZ_eq]
theorem qleaf_eq (op x y z u v : Nat) (e : mIns) (bx : qX) (H : qH) (k : qK) (lv : qL) (st : List qV) (w : qW) : (qleaf op x y z u v e).1 bx H k lv st w = qif (Nat.beq op 40) (H x y u e (qinv 261 z u v) k lv st w) (qif (Nat.ble 40 op) (qif (Nat.ble op 43) (match qspec op y v st with
      | none => none
      | some (y', st') => k y' lv st' w) (qif (Nat.ble op 46) (qend op x z v st w) none))
    (qbind k (qstep 261 bx v op x y z u e lv st w))) := by
  have h1 : qinv 261 z u v = qif (Nat.beq u 1) (qinv1 z v) (qif (Nat.beq u 2) (qinv2 z v) (qinv0 z v)) := by
    funext st w
    rw [qinvZ_eq]
    cases Nat.beq u 1 <;> cases Nat.beq u 2 <;> rfl
  have h2 : (match qspec op y v st with
      | none => none
      | some (y', st') => k y' lv st' w) = qlM (qspec op y v) bx H k lv st w := by
    unfold qlM
    cases qspec op y v st with
    | none => rfl
    | some q => rfl
  rw [h1, h2, qendZ_eq]
  unfold qleaf
  simp only [qif_1, qif_6, qleafS_eq]
  cases Nat.beq op 40 with
  | true => cases Nat.beq u 1 <;> cases Nat.beq u 2 <;> rfl
  | false => rfl
noncomputable def qlfT (t : qI) : qLf × Nat := match t with
  | (op, x, y, z, u, v, e) => qleaf op x y z u v e
noncomputable def qfzP (f : Nat → qLf × Nat) (n : Nat) : qLf × Nat := @Nat.rec (fun _ => qLf × Nat) (f 0) (fun k _ => f (Nat.succ k)) n
noncomputable def qsP (t : qLf × Nat) : qLf × Nat := @Prod.rec qLf Nat (fun _ => qLf × Nat) (fun a b => (a, b)) t
/-- the numbers first, then what is there: each place is worked out once -/
noncomputable def qplace (j pc : Nat) : qLf × Nat := qfzP (fun i => qfzP (fun p => qsP (qlfT (qtab0 i p))) pc) j
theorem qplace_eq (j pc : Nat) : qplace j pc = qlfT (qtab j pc) := by
  have h1 : ∀ (f : Nat → qLf × Nat) (n : Nat), qfzP f n = f n := fun f n => by cases n <;> rfl
  unfold qplace
  rw [h1, h1, qtab_eq]
  rfl
noncomputable def qrunZ (bx : qX) (Hs : Nat → Nat → qH) (n : Nat) : qRun := @Nat.rec (fun _ => qRun) qnone (fun n ih j pc lv st w => @Prod.rec qLf Nat (fun _ => Option qRet) (fun g _ => g bx (Hs n j) (ih j) lv st w) (qplace j pc)) n
noncomputable def qhR (y : Nat) (k : qK) (lv : qL) (r : List qV) (w : qW) (q : Option qRet) : Option qRet := @Option.rec qRet (fun _ => Option qRet) none (fun q => @Prod.rec Nat (qV × qW) (fun _ => Option qRet) (fun t p => @Prod.rec qV qW (fun _ => Option qRet) (fun val w' => @Bool.rec (fun _ => Option qRet) (@Bool.rec (fun _ => Option qRet) none (k y lv (val :: r) (qsum w w')) (Nat.beq t 1)) (k y lv r (qsum w w')) (Nat.beq t 0)) p) q) q
noncomputable def qhF (call : qCall) : Nat → Nat → qH := fun n _ x y u _ inv k lv st w => @Option.rec (List qV × List qV) (fun _ => Option qRet) none (fun p => @Prod.rec (List qV) (List qV) (fun _ => Option qRet) (fun as r => @Bool.rec (fun _ => Option qRet) none (qhR y k lv r w (call n x as (qzero w))) (Nat.ble u 2)) p) (inv st w)
noncomputable def qhX (call : qCall) : Nat → Nat → qH := fun n j x y u e inv k lv st w => match inv st w with
  | none => none
  | some (as, r) => qg (Nat.ble u 2) (match call n x as (qzero w) with
    | none => none
    | some (t, val, w') => qif (Nat.beq t 0) (k y lv r (qsum w w')) (qif (Nat.beq t 1) (k y lv (val :: r) (qsum w w')) (match mcatchZ j e (Nat.sub t 2) with
      | none => none
      | some (p, i) => k p (qset1 lv i (7, 0, 0)) [] (w'.1, w'.2.1, Nat.add w.2.2.1 (Nat.add w'.2.2.1 1), Nat.add w.2.2.2 (Nat.add w'.2.2.2 6)))))
noncomputable def qcallZ (bx : qX) (call : qCall) : qCall := fun n k as w => qrunZ bx (qhF call) n k 0 (qargsZ 0 as) [] w
noncomputable def qhL (bx : qX) (c0 : qCall) : Nat → Nat → qH := fun n _ x y u _ inv k lv st w => @Option.rec (List qV × List qV) (fun _ => Option qRet) none (fun p => @Prod.rec (List qV) (List qV) (fun _ => Option qRet) (fun as r => qhR y k lv r w (@Bool.rec (fun _ => Option qRet) (qrunZ bx (qhF c0) n x 0 (qargsZ 0 as) [] (qzero w)) (qrunZ bx (qhX (qcallZ bx c0)) n x 0 (qargsZ 0 as) [] (qzero w)) (Nat.beq u 3))) p) (inv st w)
noncomputable def qaddZ9 (bx : qX) (ih : qCall) (n : Nat) (as : List qV) (w : qW) : Option qRet := match as with
    | [a, c] => qg (Nat.beq a.1 1) (qg (Nat.beq c.1 1) (qg (Nat.ble 261 c.2.1) (qg (Nat.ble (Nat.succ c.2.1) w.2.1) (qg (Nat.beq (w.1 c.2.1).1 1) (qg (Nat.beq (w.1 c.2.1).2.1 1) (match ih n mToArr [c] (qzero w) with
      | none => none
      | some (t, val, w') => qg (Nat.beq t 1) (qrunZ bx (qhF ih) n mAddAll 6 (qargsZ 0 [a, c]) [val] (qsum w w'))))))))
    | _ => none
noncomputable def qexecZ (bx : qX) (d : Nat) : qCall := @Nat.rec (fun _ => qCall) (fun _ _ _ _ => none) (fun _ ih n k as w => @Bool.rec (fun _ => Option qRet) (qrunZ bx (qhF ih) n k 0 (qargsZ 0 as) [] w) (qaddZ9 bx ih n as w) (Nat.beq k mAddAll)) d
theorem qplainZ_eq {bx : qX} {H : qH} {ih : qRun} {j op x y z u v : Nat} {e : mIns} {lv : qL} {st : List qV} {w : qW} : (qleaf op x y z u v e).1 bx H (ih j) lv st w = qif (Nat.beq op 40) (H x y u e (qinv 261 z u v) (ih j) lv st w) (qplain 261 bx ih j op x y z u v e lv st w) := qleaf_eq op x y z u v e bx H (ih j) lv st w
theorem qrunZ_at (bx : qX) (Hs : Nat → Nat → qH) (n j pc : Nat) (lv : qL) (st : List qV) (w : qW) : qrunZ bx Hs (n + 1) j pc lv st w = (match qtab j pc with
    | (op, x, y, z, u, v, e) => qif (Nat.beq op 40) (Hs n j x y u e (qinv 261 z u v) (qrunZ bx Hs n j) lv st w) (qplain 261 bx (qrunZ bx Hs n) j op x y z u v e lv st w)) := by
  have h1 : qrunZ bx Hs (n + 1) j pc lv st w = (qplace j pc).1 bx (Hs n j) (qrunZ bx Hs n j) lv st w := rfl
  rw [h1, qplace_eq]
  generalize qtab j pc = t
  obtain ⟨op, x, y, z, u, v, e⟩ := t
  exact qplainZ_eq
theorem qrunZ_F (bx : qX) (call : qCall) : ∀ n : Nat, qrunF 261 bx call n = qrunZ bx (qhF call) n := by
  intro n
  induction n with
  | zero => rfl
  | succ n ih =>
    funext j pc lv st w
    rw [qrunZ_at, ← ih]
    have h1 : qrunF 261 bx call (n + 1) j pc lv st w = (match qtab j pc with
      | (op, x, y, z, u, v, e) => qif (Nat.beq op 40) (match qinv 261 z u v st w with
          | none => none
          | some (as, r) => qg (Nat.ble u 2) (match call n x as (qzero w) with
            | none => none
            | some (t, val, w') => qif (Nat.beq t 0) (qrunF 261 bx call n j y lv r (qsum w w')) (qif (Nat.beq t 1) (qrunF 261 bx call n j y lv (val :: r) (qsum w w')) none)))
          (qplain 261 bx (qrunF 261 bx call n) j op x y z u v e lv st w)) := rfl
    rw [h1]
    generalize qtab j pc = t
    obtain ⟨op, x, y, z, u, v, e⟩ := t
    dsimp only
    congr 1
    unfold qhF qhR
    cases qinv 261 z u v st w with
    | none => rfl
    | some q =>
      obtain ⟨as, r⟩ := q
      dsimp only
      cases call n x as (qzero w) with
      | none => rfl
      | some q2 => rfl
theorem qrunZ_X (bx : qX) (call : qCall) : ∀ n : Nat, qrunX 261 bx call n = qrunZ bx (qhX call) n := by
  intro n
  induction n with
  | zero => rfl
  | succ n ih =>
    funext j pc lv st w
    rw [qrunZ_at, ← ih]
    rfl
theorem qcallZ_eq (bx : qX) (call : qCall) : qcallF 261 bx call = qcallZ bx call := by
  funext n k as w
  unfold qcallF qcallZ
  rw [qrunZ_F, qargsZ_eq]
theorem qrunZ_L (bx : qX) (c0 : qCall) : ∀ n : Nat, qrunL 261 bx c0 n = qrunZ bx (qhL bx c0) n := by
  intro n
  induction n with
  | zero => rfl
  | succ n ih =>
    funext j pc lv st w
    rw [qrunZ_at, ← ih]
    have h1 : qrunL 261 bx c0 (n + 1) j pc lv st w = (match qtab j pc with
      | (op, x, y, z, u, v, e) => qif (Nat.beq op 40) (match qinv 261 z u v st w with
          | none => none
          | some (as, r) => match qif (Nat.beq u 3) (qrunX 261 bx (qcallF 261 bx c0) n x 0 (qargs 0 as) [] (qzero w)) (qrunF 261 bx c0 n x 0 (qargs 0 as) [] (qzero w)) with
            | none => none
            | some (t, val, w') => qif (Nat.beq t 0) (qrunL 261 bx c0 n j y lv r (qsum w w')) (qif (Nat.beq t 1) (qrunL 261 bx c0 n j y lv (val :: r) (qsum w w')) none))
          (qplain 261 bx (qrunL 261 bx c0 n) j op x y z u v e lv st w)) := rfl
    rw [h1]
    generalize qtab j pc = t
    obtain ⟨op, x, y, z, u, v, e⟩ := t
    dsimp only
    congr 1
    unfold qhL qhR
    rw [← qcallZ_eq]
    simp only [← qrunZ_F, ← qrunZ_X, qargsZ_eq]
    cases qinv 261 z u v st w with
    | none => rfl
    | some q =>
      obtain ⟨as, r⟩ := q
      dsimp only
      generalize qrunX 261 bx (qcallF 261 bx c0) n x 0 (qargs 0 as) [] (qzero w) = o1
      generalize qrunF 261 bx c0 n x 0 (qargs 0 as) [] (qzero w) = o2
      cases Nat.beq u 3 with
      | true => cases o1 <;> rfl
      | false => cases o2 <;> rfl
theorem qexecZ_eq (bx : qX) : ∀ d : Nat, qexec 261 bx d = qexecZ bx d := by
  intro d
  induction d with
  | zero => rfl
  | succ d ih =>
    funext n k as w
    show qif (Nat.beq k mAddAll) _ _ = qif (Nat.beq k mAddAll) (qaddZ9 bx (qexecZ bx d) n as w) (qrunZ bx (qhF (qexecZ bx d)) n k 0 (qargsZ 0 as) [] w)
    unfold qaddZ9
    simp only [← ih, ← qrunZ_F, qargsZ_eq]
    rfl
