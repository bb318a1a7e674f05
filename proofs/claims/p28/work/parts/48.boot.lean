/-! ===== a new Tallow, as the kernel runs it; the law's run whole ===== -/
def mE0 : mE := [mOp, mOp]
set_option maxRecDepth 100000 in
theorem bt_run : mceq (mclosed mE0 8 3000 76 [.ref 2] [.inr (6, [.null, .null, .null, .null, .null, .null, .int 0])]) none wH0 148 24303 = true := by decide +kernel
/-- a new Tallow, whatever the script is -/
theorem bt_new {E : mE} (hs : mSub mE0 E) : Cl E 76 [.ref 2] [.inr (6, [.null, .null, .null, .null, .null, .null, .int 0])] none (wH0, 148, 24303) := (Cl.closed bt_run).sub hs
/-- what the boot leaves, all of it -/
def z0 (a b : Nat) : Int := match wH0[a - 2]? with
  | some (.inl (_, _, u)) => (mupI u b).toInt
  | some (.inr (_, f)) => (match f[b]? with
    | some (.int x) => x.toInt
    | _ => 0)
  | none => 0
def b0 : wSt := fun a b => some (z0 a b)
theorem b0_gv {a b : Nat} : gv b0 a b = z0 a b := rfl
theorem b0_al : Al b0 := fun _ _ => rfl
theorem b0_wr : Wr b0 wH0 := by
  refine ⟨rfl, fun i o0 ho => ?_⟩
  have e : ∀ b, gv b0 (2 + i) b = z0 (2 + i) b := fun b => rfl
  have e2 : wH0[2 + i - 2]? = some o0 := by rw [show 2 + i - 2 = i by omega]; exact ho
  obtain ⟨t, n, u⟩ | ⟨c, f⟩ := o0
  · refine ⟨u, ho, fun j _ _ => ?_⟩
    rw [e]
    unfold z0
    rw [e2]
  · refine ⟨f, ho, rfl, fun b v0 hv => ?_⟩
    cases v0
    case int x =>
      refine ⟨x, hv, fun _ => ?_⟩
      rw [e]
      unfold z0
      rw [e2]
      dsimp only
      rw [hv]
    case ref r => exact hv
    all_goals trivial
theorem b0_sg {T : Nat} (hT : Tb T) (i : Int) : 0 ≤ rd b0 (T + 2) 500 i := by
  have e : ∀ k : Nat, gv b0 (T + 2 + 1) k = 0 := by
    intro k
    rcases hT with rfl | rfl | rfl | rfl <;> rfl
  unfold rd
  split
  · rw [e]
    exact Int.le_refl _
  · exact Int.le_refl _
theorem b0_tx : TX b0 := by
  have e : ∀ k : Nat, gv b0 5 k = 0 := fun k => rfl
  refine ⟨by decide, by decide, fun i => ?_⟩
  unfold rd
  split
  · rw [e]
    exact Int.le_refl _
  · exact Int.le_refl _
theorem b0_li : LIv b0 := ⟨b0_al, b0_tx, by decide, by decide, by decide, ⟨by decide, by decide, by decide, by decide⟩, fun T hT i => b0_sg hT i⟩
/-- the script, Kinds.DAYS_AHEAD -/
def dk (j : Nat) : Int32 := [0, 31, 59, 90, 120, 151, 181, 212, 243, 273, 304, 334, 365].getD j 0
def qE (L : Nat) (xs : Nat → Int32) : mE := [.inl (0, L, .inl xs), .inl (0, 13, .inl dk)]
theorem qE_sub (L : Nat) (xs : Nat → Int32) : mSub mE0 (qE L xs) := ⟨rfl, fun i o h => Or.inl (by
  match i, h with
  | 0, h => cases h; rfl
  | 1, h => cases h; rfl
  | k + 2, h => cases h)⟩
theorem law_run {L : Nat} (xs : Nat → Int32) (hL : L < 2147483648) : To (qE L xs) (ment 116 [.ref 0] []) (fun S1 => mretv S1 = some (some (.int 1)) ∧ S1.2.2 = (149, 24310)) := by
  have hE : wE (qE L xs) := ⟨rfl, dk, rfl⟩
  have hX : wSc (qE L xs) L xs := ⟨rfl, rfl⟩
  refine To.heap (h' := ([.inr (6, [.null, .null, .null, .null, .null, .null, .int 0])], 1, 7)) (pc' := 3) (st' := [.ref 2]) rfl rfl rfl my_116 rfl rfl ?_
  refine To.pure (pc' := 4) (lv' := lv_args 0 [.ref 0]) (st' := [.ref 2, .ref 2]) rfl rfl rfl my_116 rfl ?_
  refine To.call (k9 := 76) (as := [.ref 2]) (rest := [.ref 2]) (pc' := 7) (st' := [.ref 2]) rfl rfl rfl (by decide) rfl rfl (bt_new (qE_sub L xs)) rfl rfl rfl ?_
  have ho : Ok (went 21 [wr 0]) [wr 2] b0 := ⟨⟨_, went_lr (asc := [.ref 0]) 21 ⟨wR_mr 0, trivial⟩⟩, ⟨[.ref 2], wR_mr 2, trivial⟩, ⟨wH0, b0_wr⟩⟩
  obtain ⟨vo, σ', hp, hax⟩ := law_all hE hX hL b0_li rfl ho
  obtain ⟨S1, r1, vo2, v, s2, q1, q2, q3, q4, q5, q6⟩ := hax (lv_args 0 [.ref 0]) [.ref 2] wH0 149 24310 (went_lr (as := [wr 0]) (asc := [.ref 0]) 21 ⟨wR_mr 0, trivial⟩) ⟨wR_mr 2, trivial⟩ b0_wr
  refine ⟨S1, r1, ?_, q4⟩
  rw [q1]
  subst q5
  have hp2 : vo2 = some (wi 1) := hp
  subst hp2
  cases v with
  | none => exact (show False from q2).elim
  | some x =>
    obtain ⟨z, rfl, hz⟩ := wR_i (show wR (wi 1) x from q2)
    rw [show z = 1 from Int32.toInt_inj.mp hz]
