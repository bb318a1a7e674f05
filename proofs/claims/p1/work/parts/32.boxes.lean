/-! ===== one call from the loop's head, on boxes of scripts ===== -/
def qbox (op : Nat) (a b c d : qV) : qX := (5, fun i => match i with
  | 0 => (4, op, 0)
  | 1 => a
  | 2 => b
  | 3 => c
  | 4 => d
  | _ => (7, 0, 0))
noncomputable def qgo (bx : qX) : Option qRet := qrunZ bx (qhL bx (qexecZ bx 24)) 3984 qLaw 28 ql0 [] qw0
theorem qgo_eq (bx : qX) : qgo bx = qrunL 261 bx (qexec 261 bx 24) 3984 qLaw 28 ql0 [] qw0 := by
  unfold qgo
  rw [← qexecZ_eq, ← qrunZ_L]
noncomputable def qchk (k : Nat) (a b c d : qV) : Bool := qans (qgo (qbox k a b c d)) 600002 7302232
/-- from a bound to a bound, both counted from -2^31 on -/
def qiv (q : Nat × Nat) : qV := (0, q.1, q.2)
def qdigs : List (Nat × Nat) := [(2147483648, 2147483657), (2147483658, 2147483747), (2147483748, 2147484647), (2147484648, 2147493647), (2147493648, 2147583647), (2147583648, 2148483647), (2148483648, 2157483647), (2157483648, 2247483647), (2247483648, 3147483647), (3147483648, 4294967295)]
def qneg : Nat × Nat := (0, 2147483647)
def qpos : Nat × Nat := (2147483648, 4294967295)
/-- below, within, above -/
def qout (lo hi : Nat) : List (Nat × Nat) := [(0, 2147483647 + lo), (2147483649 + hi, 4294967295)]
def qin (lo hi : Nat) : Nat × Nat := (2147483648 + lo, 2147483648 + hi)
def qone (n : Nat) : List (Nat × Nat) := (List.range n).map (fun i => (2147483648 + i, 2147483648 + i))
set_option maxRecDepth 100000 in
theorem qb_short : (List.range 5).all (fun L => qans (qgo (qbxL L)) 600002 7302232) = true := by decide +kernel
set_option maxRecDepth 100000 in
theorem qb_0 : (qout 0 45 ++ [qin 0 45]).all (fun q => qchk 0 (qiv q) qany qany qany) = true := by decide +kernel
set_option maxRecDepth 100000 in
theorem qb_1 : (qneg :: qdigs).all (fun q => qchk 1 (qiv q) qany qany qany) = true := by decide +kernel
set_option maxRecDepth 100000 in
theorem qb_2a : (qout 0 25).all (fun q => qchk 2 (qiv q) qany qany qany) = true := by decide +kernel
set_option maxRecDepth 100000 in
theorem qb_2b : (qout 1 12 ++ (qone 13).drop 1).all (fun q => qchk 2 (qiv (qin 0 25)) (qiv q) qany qany) = true := by decide +kernel
set_option maxRecDepth 100000 in
theorem qb_3a : qchk 3 (qiv qneg) qany qany qany = true := by decide +kernel
set_option maxRecDepth 100000 in
theorem qb_3b : qchk 3 (qiv qpos) (qiv qneg) qany qany = true := by decide +kernel
set_option maxRecDepth 100000 in
theorem qb_3c : qchk 3 (qiv qpos) (qiv qpos) (qiv qneg) qany = true := by decide +kernel
set_option maxRecDepth 100000 in
theorem qb_3d : (qout 0 45).all (fun q => qchk 3 (qiv qpos) (qiv qpos) (qiv qpos) (qiv q)) = true := by decide +kernel
set_option maxRecDepth 100000 in
theorem qb_4 : qchk 4 qany qany qany qany = true := by decide +kernel
set_option maxRecDepth 100000 in
theorem qb_5a : (qout 0 2).all (fun q => qchk 5 (qiv q) qany qany qany) = true := by decide +kernel
set_option maxRecDepth 100000 in
theorem qb_5b : ([(0, 2147483646), (2147483647, 2147483651), (2147483652, 4294967295)] : List (Nat × Nat)).all (fun q => qchk 5 (qiv (qin 0 0)) (qiv q) qany qany) = true := by decide +kernel
set_option maxRecDepth 100000 in
theorem qb_5c : ([(0, 2147483646), (2147483647, 2147483649), (2147483650, 4294967295)] : List (Nat × Nat)).all (fun q => qchk 5 (qiv (qin 1 1)) (qiv q) qany qany && qchk 5 (qiv (qin 2 2)) (qiv q) qany qany) = true := by decide +kernel
set_option maxRecDepth 100000 in
theorem qb_6 : (qout 1 100 ++ [qin 1 100]).all (fun q => qchk 6 (qiv q) qany qany qany) = true := by decide +kernel
set_option maxRecDepth 100000 in
theorem qb_7a : (qout 0 19).all (fun q => qchk 7 (qiv q) qany qany qany) = true := by decide +kernel
set_option maxRecDepth 100000 in
theorem qb_7b : (qone 20).all (fun c => (qout 0 3 ++ [qin 0 3]).all (fun q => qchk 7 (qiv c) (qiv q) qany qany)) = true := by decide +kernel
set_option maxRecDepth 100000 in
theorem qb_8 : (qout 0 2 ++ qone 3).all (fun q => qchk 8 (qiv q) qany qany qany) = true := by decide +kernel
set_option maxRecDepth 100000 in
theorem qb_9 : (qout 0 3 ++ qone 4).all (fun q => qchk 9 (qiv q) qany qany qany) = true := by decide +kernel
set_option maxRecDepth 100000 in
theorem qb_10 : (qout 0 6 ++ qone 7).all (fun q => qchk 10 (qiv q) qany qany qany) = true := by decide +kernel
set_option maxRecDepth 100000 in
theorem qb_22 : (qout 0 3 ++ qone 4).all (fun q => qchk 22 (qiv q) qany qany qany) = true := by decide +kernel
set_option maxRecDepth 100000 in
theorem qb_rows : ([11, 12, 13, 14, 15, 16, 17, 18, 19, 21, 23] : List Nat).all (fun k => qchk k (qiv qneg) qany qany qany && qchk k (qiv qpos) qany qany qany) = true := by decide +kernel
set_option maxRecDepth 100000 in
theorem qb_20 : ([qneg, qpos] : List (Nat × Nat)).all (fun a => ([qneg, qpos] : List (Nat × Nat)).all (fun b => qchk 20 (qiv a) (qiv b) qany qany)) = true := by decide +kernel
set_option maxRecDepth 100000 in
theorem qb_rest : ([24, 25, 26, 27, 28, 29, 30, 31] : List Nat).all (fun k => qchk k qany qany qany qany) = true := by decide +kernel
