/-! ===== .. at each level ===== -/
/-- what a row of the table says -/
theorem qtab_at {j pc op x y z u v : Nat} {e : mIns} (ht : qtab j pc = (op, x, y, z, u, v, e)) (h9 : op ≠ 99) : ∃ r : mMth, mmeth j = some r ∧ mlook (mcode j) pc = some e ∧ e.1 = pc ∧ (op < 40 → qenc e = (op, x, y, z, u) ∧ v = r.2.2.1) ∧ (op = 40 → qgI j x y z u v e = true) ∧ (op = 41 ∨ op = 42 ∨ op = 43 → qgS op y v e r = true) ∧ (op = 45 → qgR v z e r.2.2.2.1 = true) ∧ (40 < op → (op = 41 ∨ op = 42 ∨ op = 43) ∨ op = 45 ∨ (op = 46 ∧ qrk e = 46 ∧ e.2.2.2.2.1 = x)) := by
  have hg := qtab_ok (j := j) (pc := pc) (by rw [ht]; exact h9)
  rw [ht] at hg
  unfold qgood at hg
  split at hg
  · rename_i op' x' y' z' u' v' e' r heq hr
    cases heq
    simp only [Bool.and_eq_true, decide_eq_true_eq] at hg
    obtain ⟨⟨a1, a2⟩, hg⟩ := hg
    refine ⟨r, hr, a1, a2, fun h => ?_, fun h => ?_, fun h => ?_, fun h => ?_, fun h => ?_⟩
    · rw [if_pos h] at hg
      exact of_decide_eq_true hg
    · rw [if_neg (by omega), if_pos h] at hg
      exact hg
    · rw [if_neg (by omega), if_neg (by omega), if_pos (by omega)] at hg
      exact hg
    · rw [if_neg (by omega), if_neg (by omega), if_neg (by omega), if_pos h] at hg
      exact hg
    · rw [if_neg (by omega), if_neg (by omega)] at hg
      by_cases h43 : op ≤ 43
      · exact Or.inl (by omega)
      · rw [if_neg h43] at hg
        by_cases h45 : op = 45
        · exact Or.inr (Or.inl h45)
        · rw [if_neg h45] at hg
          exact Or.inr (Or.inr (of_decide_eq_true hg))
  · cases hg
/-- a machine of the small one, one step on: what all three have in common -/
def qOne (E : mE) (M1 M0 : mS → Option mS) : Prop := (∀ (S : mS) (e : mIns), mlook (mcode S.1.1) S.1.2.1 = some e → mterm e = true → M1 S = some S) ∧ (∀ (S : mS) (e : mIns) (r : Nat × List Value), mlook (mcode S.1.1) S.1.2.1 = some e → mterm e = false → minv e = true → 990 < e.2.2.2.1 → mspec S.1.1 e S.1.2.2.2 = some r → M1 S = M0 ((S.1.1, r.1, S.1.2.2.1, r.2), S.2)) ∧ (∀ (S S1 : mS) (e : mIns), mlook (mcode S.1.1) S.1.2.1 = some e → mterm e = false → minv e = false → mstep E e S = some S1 → M1 S = M0 S1)
/-- what an abstract run says of a machine -/
def qSays (E : mE) (q : qRun) (M : mS → Option mS) : Prop := ∀ (j pc : Nat) (lv : qL) (st : List qV) (w : qW) (t : Nat) (val : qV) (w' : qW), q j pc lv st w = some (t, val, w') → ∀ (lvc : mLv) (stc : List Value) (h : mH), qLr E lv lvc → qS E st stc → qWr E w h → ∃ S1 : mS, M ((j, pc, lvc, stc), h) = some S1 ∧ qRes E t val w' S1
theorem qconc_step {E : mE} {j pc : Nat} {e : mIns} {r : mMth} {lvc : mLv} {stc : List Value} {h : mH} {T : qT} (hr : mmeth j = some r) (hc : qConc E r.2.2.1 e lvc stc h T) : ∃ (lvc' : mLv) (stc' : List Value) (h' : mH), mstep E e ((j, pc, lvc, stc), h) = some ((j, T.1, lvc', stc'), h') ∧ qLr E T.2.1 lvc' ∧ qS E T.2.2.1 stc' ∧ qWr E T.2.2.2 h' ∧ minv e = false ∧ mterm e = false := by
  obtain ⟨lvc', stc', h', h1, h2, h3, h4, h5, h6⟩ := hc
  refine ⟨lvc', stc', h', ?_, h2, h3, h4, h5, h6⟩
  unfold mstep
  dsimp only
  rw [hr]
  dsimp only
  rcases h1 with ⟨h1, rfl⟩ | ⟨h0, rfl, h1⟩
  · rw [h1]
  · rw [h0, h1]
theorem qplain_ok {E : mE} {X : Nat} {bx : qX} (hE : qEok E X bx) {ih : qRun} {M1 M0 : mS → Option mS} (hM : qOne E M1 M0) (hih : qSays E ih M0) {j pc op x y z u v : Nat} {e : mIns} (ht : qtab j pc = (op, x, y, z, u, v, e)) (h40 : op ≠ 40) {lv : qL} {st : List qV} {w : qW} {t : Nat} {val : qV} {w' : qW} (hq : qplain X bx ih j op x y z u v e lv st w = some (t, val, w')) {lvc : mLv} {stc : List Value} {h : mH} (hl : qLr E lv lvc) (hst : qS E st stc) (hw : qWr E w h) : ∃ S1 : mS, M1 ((j, pc, lvc, stc), h) = some S1 ∧ qRes E t val w' S1 := by
  unfold qplain at hq
  rw [qif_ble] at hq
  by_cases h99 : op = 99
  · rw [if_pos (by omega), qif_ble, if_neg (by omega), qif_ble, if_neg (by omega)] at hq
    cases hq
  obtain ⟨r, hr, hlk, hpc, g1, g2, g3, g4, g5⟩ := qtab_at ht h99
  by_cases h4 : 40 ≤ op
  · rw [if_pos h4, qif_ble] at hq
    by_cases h43 : op ≤ 43
    · rw [if_pos h43] at hq
      split at hq
      · cases hq
      · rename_i y' st' hsp
        obtain ⟨stc', k1, k2, k3, k4, k5⟩ := qspec_ok (j := j) (E := E) (g3 (by omega)) hr (by omega) hsp hst
        obtain ⟨S1, s1, s2⟩ := hih j y' lv st' w t val w' hq lvc stc' h hl k2 hw
        exact ⟨S1, by rw [hM.2.1 ((j, pc, lvc, stc), h) e (y', stc') hlk k5 k4 k3 k1]; exact s1, s2⟩
    · rw [if_neg h43, qif_ble] at hq
      by_cases h46 : op ≤ 46
      · rw [if_pos h46] at hq
        have hop : op = 45 ∨ op = 46 := by
          rcases g5 (by omega) with h8 | h8 | h8
          · omega
          · exact Or.inl h8
          · exact Or.inr h8.1
        obtain ⟨k1, k2⟩ := qend_ok (lvc := lvc) hlk hr hop g4 (fun h9 => by
          rcases g5 (by omega) with h8 | h8 | h8
          · omega
          · omega
          · exact h8.2) hq hst hw
        exact ⟨_, hM.1 ((j, pc, lvc, stc), h) e hlk k1, k2⟩
      · rw [if_neg h46] at hq
        cases hq
  · rw [if_neg h4] at hq
    split at hq
    · cases hq
    · rename_i y' lv' st' w1 hs
      obtain ⟨k1, k2⟩ := g1 (by omega)
      subst k2
      obtain ⟨lvc', stc', h', s1, s2, s3, s4, s5, s6⟩ := qconc_step (j := j) (pc := pc) hr (qstep_ok hE k1 hs hl hst hw)
      obtain ⟨S1, t1, t2⟩ := hih j y' lv' st' w1 t val w' hq lvc' stc' h' s2 s3 s4
      exact ⟨S1, by rw [hM.2.2 ((j, pc, lvc, stc), h) _ e hlk s6 s5 s1]; exact t1, t2⟩
def qCallOk (E : mE) (qc : qCall) (mc : Nat → mS → Option mS) : Prop := ∀ (n k : Nat) (as : List qV) (w : qW) (t : Nat) (val : qV) (w' : qW), qc n k as (qzero w) = some (t, val, w') → ∀ (asc : List Value) (h : mH), qS E as asc → qWr E w h → ∃ S1 : mS, mc n (ment k asc h.1) = some S1 ∧ qRes E t val w' S1
theorem qWr_zero {E : mE} {w : qW} {h : mH} (hw : qWr E w h) : qWr E (qzero w) (h.1, 0, 0) := ⟨hw.1, rfl, rfl, hw.2.2.2⟩
theorem qWr_sum {E : mE} {w w' : qW} {h h' : mH} (hw : qWr E w h) (hw' : qWr E w' h') : qWr E (qsum w w') (h'.1, h.2.1 + h'.2.1, h.2.2 + h'.2.2) := by
  refine ⟨hw'.1, ?_, ?_, hw'.2.2.2⟩
  · show w.2.2.1 + w'.2.2.1 = _
    rw [hw.2.1, hw'.2.1]
  · show w.2.2.2 + w'.2.2.2 = _
    rw [hw.2.2.1, hw'.2.2.1]
theorem qone_F {E : mE} {mc : Nat → mS → Option mS} (n : Nat) : qOne E (mrunF E mc (n + 1)) (mrunF E mc n) := by
  refine ⟨fun S e hl ht => ?_, fun S e r hl ht hi h9 hs => ?_, fun S S1 e hl ht hi hs => ?_⟩
  · unfold mrunF
    rw [hl]
    exact if_pos ht
  · conv => lhs; unfold mrunF
    rw [hl]
    dsimp only
    rw [if_neg (by rw [ht]; decide), if_pos hi, if_pos h9, hs]
  · conv => lhs; unfold mrunF
    rw [hl]
    dsimp only
    rw [if_neg (by rw [ht]; decide), if_neg (by rw [hi]; decide), hs]
theorem qrunF_ok {E : mE} {X : Nat} {bx : qX} (hE : qEok E X bx) {qc : qCall} {mc : Nat → mS → Option mS} (hc : qCallOk E qc mc) : ∀ n : Nat, qSays E (qrunF X bx qc n) (mrunF E mc n) := by
  intro n
  induction n with
  | zero => intro j pc lv st w t val w' hq; exact hfalse hq
  | succ n ih =>
    intro j pc lv st w t val w' hq lvc stc h hl hst hw
    have hq1 : (match qtab j pc with
      | (op, x, y, z, u, v, e) => qif (Nat.beq op 40) (match qinv X z u v st w with
          | none => none
          | some (as, r) => qg (Nat.ble u 2) (match qc n x as (qzero w) with
            | none => none
            | some (t, val, w') => qif (Nat.beq t 0) (qrunF X bx qc n j y lv r (qsum w w')) (qif (Nat.beq t 1) (qrunF X bx qc n j y lv (val :: r) (qsum w w')) none)))
          (qplain X bx (qrunF X bx qc n) j op x y z u v e lv st w)) = some (t, val, w') := hq
    split at hq1
    rename_i op x y z u v e ht
    rw [qif_beq] at hq1
    by_cases h40 : op = 40
    · rw [if_pos h40] at hq1
      obtain ⟨r0, hr, hlk, hpc, -, g2, -⟩ := qtab_at ht (by omega)
      split at hq1
      · cases hq1
      · rename_i as r hinv
        obtain ⟨hu, hq1⟩ := qg_ble hq1
        obtain ⟨asc, rest, k1, k2, k3, k4, k5, k6, k7, k8, -⟩ := qinv_ok (g2 h40) hu hinv hE.1 hst hw
        split at hq1
        · cases hq1
        · rename_i t1 v1 w1 hcall
          obtain ⟨S1, s1, s2⟩ := hc n x as w t1 v1 w1 hcall asc h k2 hw
          have hrun : ∀ vo : Option Value, mretv S1 = some vo → mrunF E mc (n + 1) ((j, pc, lvc, stc), h) = mrunF E mc n ((j, y, lvc, vo.toList ++ rest), (S1.2.1, h.2.1 + S1.2.2.1, h.2.2 + S1.2.2.2)) := by
            intro vo hvo
            conv => lhs; unfold mrunF
            dsimp only
            rw [hlk]
            dsimp only
            rw [if_neg (by rw [k8]; decide), if_pos k7, if_neg (by omega), k1]
            dsimp only
            rw [if_pos k5, s1]
            dsimp only
            rw [hvo, k4]
          rw [qif_beq, qif_beq] at hq1
          by_cases t0 : t1 = 0
          · rw [if_pos t0] at hq1
            obtain ⟨S2, q1, q2⟩ := ih j y lv r (qsum w w1) t val w' hq1 lvc rest (S1.2.1, h.2.1 + S1.2.2.1, h.2.2 + S1.2.2.2) hl k3 (qWr_sum hw s2.1)
            exact ⟨S2, by rw [hrun none (s2.2.1 t0)]; exact q1, q2⟩
          · rw [if_neg t0] at hq1
            by_cases t9 : t1 = 1
            · rw [if_pos t9] at hq1
              obtain ⟨vv, b1, b2⟩ := s2.2.2.1 t9
              obtain ⟨S2, q1, q2⟩ := ih j y lv (v1 :: r) (qsum w w1) t val w' hq1 lvc (vv :: rest) (S1.2.1, h.2.1 + S1.2.2.1, h.2.2 + S1.2.2.2) hl ⟨b2, k3⟩ (qWr_sum hw s2.1)
              exact ⟨S2, by rw [hrun (some vv) b1]; exact q1, q2⟩
            · rw [if_neg t9] at hq1
              cases hq1
    · rw [if_neg h40] at hq1
      exact qplain_ok hE (qone_F n) ih ht h40 hq1 hl hst hw
theorem qcallF_ok {E : mE} {X : Nat} {bx : qX} (hE : qEok E X bx) {qc : qCall} {mc : Nat → mS → Option mS} (hc : qCallOk E qc mc) : qCallOk E (qcallF X bx qc) (mrunF E mc) := by
  intro n k as w t val w' hq asc h has hw
  exact qrunF_ok hE hc n k 0 (qargs 0 as) [] (qzero w) t val w' hq (lv_args 0 asc) [] (h.1, 0, 0) (qargs_ok as asc 0 has) trivial (qWr_zero hw)
theorem qfits_add : mfits mAddAll mToArr = true := by decide +kernel
theorem qexec_ok {E : mE} {X : Nat} {bx : qX} (hE : qEok E X bx) : ∀ d : Nat, qCallOk E (qexec X bx d) (mexecJ E d) := by
  intro d
  induction d with
  | zero => intro n k as w t val w' hq; exact hfalse hq
  | succ d ih =>
    intro n k as w t val w' hq asc h has hw
    have hq1 : qif (Nat.beq k mAddAll) (match (generalizing := false) as with
      | [a, c] => qg (Nat.beq a.1 1) (qg (Nat.beq c.1 1) (qg (Nat.ble X c.2.1) (qg (Nat.ble (Nat.succ c.2.1) (qzero w).2.1) (qg (Nat.beq ((qzero w).1 c.2.1).1 1) (qg (Nat.beq ((qzero w).1 c.2.1).2.1 1) (match qexec X bx d n mToArr [c] (qzero (qzero w)) with
        | none => none
        | some (t, val, w') => qg (Nat.beq t 1) (qrunF X bx (qexec X bx d) n mAddAll 6 (qargs 0 [a, c]) [val] (qsum (qzero w) w'))))))))
      | _ => none) (qrunF X bx (qexec X bx d) n k 0 (qargs 0 as) [] (qzero w)) = some (t, val, w') := hq
    rw [qif_beq] at hq1
    by_cases hk : k = mAddAll
    · rw [if_pos hk] at hq1
      split at hq1
      · rename_i a c
        obtain ⟨va, s1, rfl, ha, hs1⟩ := qS_c has
        obtain ⟨vc, s2, rfl, hc, hs2⟩ := qS_c hs1
        rw [qS_n hs2] at has ⊢
        obtain ⟨a0, hq1⟩ := qg_beq hq1
        obtain ⟨a1, hq1⟩ := qg_beq hq1
        obtain ⟨a2, hq1⟩ := qg_ble hq1
        obtain ⟨a3, hq1⟩ := qg_ble hq1
        obtain ⟨a4, hq1⟩ := qg_beq hq1
        obtain ⟨a5, hq1⟩ := qg_beq hq1
        have hcr := qR_ref hc a1
        subst hcr
        split at hq1
        · cases hq1
        · rename_i t1 v1 w1 hcall
          obtain ⟨a6, hq1⟩ := qg_beq hq1
          obtain ⟨S1, p1, p2⟩ := ih n mToArr [c] (qzero w) t1 v1 w1 hcall [.ref c.2.1] (h.1, 0, 0) ⟨hc, trivial⟩ (qWr_zero hw)
          obtain ⟨vv, b1, b2⟩ := p2.2.2.1 a6
          have hla := qargs_ok [a, c] [va, .ref c.2.1] 0 has
          obtain ⟨S2, q1, q2⟩ := qrunF_ok hE ih n mAddAll 6 (qargs 0 [a, c]) [v1] (qsum (qzero w) w1) t val w' hq1 (lv_args 0 [va, .ref c.2.1]) [vv] (S1.2.1, 0 + S1.2.2.1, 0 + S1.2.2.2) hla ⟨b2, trivial⟩ (qWr_sum (qWr_zero hw) p2.1)
          have hl1 : mlv (lv_args 0 [va, .ref c.2.1]) 1 = some (.ref c.2.1) := by
            have h8 := (qR_cat ha).2.1 (by omega)
            simp [lv_args, mlv, h8]
          refine ⟨S2, ?_, q2⟩
          subst hk
          show mrunJ E (mexecJ E d) n (ment mAddAll [va, .ref c.2.1] h.1) = some S2
          unfold mrunJ
          rw [if_pos (show (ment mAddAll [va, .ref c.2.1] h.1).1.1 = mAddAll from rfl)]
          rw [show mlv (ment mAddAll [va, .ref c.2.1] h.1).1.2.2.1 1 = some (.ref c.2.1) from hl1]
          dsimp only
          obtain ⟨xo, ho, d1, d2, d3⟩ := qW_obj (w := w) (h := h) (a := c.2.1) (k := (w.1 c.2.1).1) (c := (w.1 c.2.1).2.1) (n := (w.1 c.2.1).2.2.1) (f := (w.1 c.2.1).2.2.2) hw (by rw [← hE.1]; exact a2) a3 rfl a4
          rw [show mobjE E (ment mAddAll [va, .ref c.2.1] h.1).2.1 c.2.1 = some xo from mobjE_at (by rw [← hE.1]; exact a2) ho]
          dsimp only
          rw [if_pos ⟨d1.symm.trans a5, qfits_add, rfl, rfl⟩]
          rw [show mexecJ E d n (ment mToArr [.ref c.2.1] (ment mAddAll [va, .ref c.2.1] h.1).2.1) = some S1 from p1]
          dsimp only
          rw [b1]
          exact q1
      · cases hq1
    · rw [if_neg hk] at hq1
      obtain ⟨S1, s1, s2⟩ := qrunF_ok hE ih n k 0 (qargs 0 as) [] (qzero w) t val w' hq1 (lv_args 0 asc) [] (h.1, 0, 0) (qargs_ok as asc 0 has) trivial (qWr_zero hw)
      refine ⟨S1, ?_, s2⟩
      show mrunJ E (mexecJ E d) n (ment k asc h.1) = some S1
      unfold mrunJ
      rw [if_neg (show ¬ (ment k asc h.1).1.1 = mAddAll from hk)]
      exact s1
theorem mcatchZ_ok {j z : Nat} {e : mIns} {S1 : mS} {cx : Nat × Nat} (h : mcatchZ j e z = some cx) (hz : mthrown S1 = some z) (hs : S1.1.2.2.2 = []) : mcatch j e S1 = some cx := by
  unfold mcatchZ at h
  unfold mcatch
  split at h
  · rename_i idx y hd h1 h3 h4
    rw [h1, hz, h3, h4]
    dsimp only
    split at h
    · rename_i tx h5
      rw [h5]
      dsimp only
      split at h
      · rename_i r h6
        rw [h6]
        dsimp only
        rw [hs, if_pos (show ([] : List Value).isEmpty = true from rfl)]
        exact h
      · cases h
    · cases h
  · cases h
theorem qone_X {E : mE} {mc : Nat → mS → Option mS} (n : Nat) : qOne E (mrunX E mc (n + 1)) (mrunX E mc n) := by
  refine ⟨fun S e hl ht => ?_, fun S e r hl ht hi h9 hs => ?_, fun S S1 e hl ht hi hs => ?_⟩
  · unfold mrunX
    rw [hl]
    exact if_pos ht
  · conv => lhs; unfold mrunX
    rw [hl]
    dsimp only
    rw [if_neg (by rw [ht]; decide), if_pos hi, if_pos h9, hs]
  · conv => lhs; unfold mrunX
    rw [hl]
    dsimp only
    rw [if_neg (by rw [ht]; decide), if_neg (by rw [hi]; decide), hs]
theorem qrunX_ok {E : mE} {X : Nat} {bx : qX} (hE : qEok E X bx) {qc : qCall} {mc : Nat → mS → Option mS} (hc : qCallOk E qc mc) : ∀ n : Nat, qSays E (qrunX X bx qc n) (mrunX E mc n) := by
  intro n
  induction n with
  | zero => intro j pc lv st w t val w' hq; exact hfalse hq
  | succ n ih =>
    intro j pc lv st w t val w' hq lvc stc h hl hst hw
    have hq1 : (match qtab j pc with
      | (op, x, y, z, u, v, e) => qif (Nat.beq op 40) (match qinv X z u v st w with
          | none => none
          | some (as, r) => qg (Nat.ble u 2) (match qc n x as (qzero w) with
            | none => none
            | some (t, val, w') => qif (Nat.beq t 0) (qrunX X bx qc n j y lv r (qsum w w')) (qif (Nat.beq t 1) (qrunX X bx qc n j y lv (val :: r) (qsum w w')) (match mcatchZ j e (Nat.sub t 2) with
              | none => none
              | some (p, k) => qrunX X bx qc n j p (qset1 lv k (7, 0, 0)) [] (w'.1, w'.2.1, Nat.add w.2.2.1 (Nat.add w'.2.2.1 1), Nat.add w.2.2.2 (Nat.add w'.2.2.2 6))))))
          (qplain X bx (qrunX X bx qc n) j op x y z u v e lv st w)) = some (t, val, w') := hq
    split at hq1
    rename_i op x y z u v e ht
    rw [qif_beq] at hq1
    by_cases h40 : op = 40
    · rw [if_pos h40] at hq1
      obtain ⟨r0, hr, hlk, hpc, -, g2, -⟩ := qtab_at ht (by omega)
      split at hq1
      · cases hq1
      · rename_i as r hinv
        obtain ⟨hu, hq1⟩ := qg_ble hq1
        obtain ⟨asc, rest, k1, k2, k3, k4, k5, k6, k7, k8, -⟩ := qinv_ok (g2 h40) hu hinv hE.1 hst hw
        split at hq1
        · cases hq1
        · rename_i t1 v1 w1 hcall
          obtain ⟨S1, s1, s2⟩ := hc n x as w t1 v1 w1 hcall asc h k2 hw
          have hrun : ∀ vo : Option Value, mretv S1 = some vo → mrunX E mc (n + 1) ((j, pc, lvc, stc), h) = mrunX E mc n ((j, y, lvc, vo.toList ++ rest), (S1.2.1, h.2.1 + S1.2.2.1, h.2.2 + S1.2.2.2)) := by
            intro vo hvo
            conv => lhs; unfold mrunX
            dsimp only
            rw [hlk]
            dsimp only
            rw [if_neg (by rw [k8]; decide), if_pos k7, if_neg (by omega), k1]
            dsimp only
            rw [if_pos k5, s1]
            dsimp only
            rw [hvo, k4]
          rw [qif_beq, qif_beq] at hq1
          by_cases t0 : t1 = 0
          · rw [if_pos t0] at hq1
            obtain ⟨S2, q1, q2⟩ := ih j y lv r (qsum w w1) t val w' hq1 lvc rest (S1.2.1, h.2.1 + S1.2.2.1, h.2.2 + S1.2.2.2) hl k3 (qWr_sum hw s2.1)
            exact ⟨S2, by rw [hrun none (s2.2.1 t0)]; exact q1, q2⟩
          · rw [if_neg t0] at hq1
            by_cases t9 : t1 = 1
            · rw [if_pos t9] at hq1
              obtain ⟨vv, b1, b2⟩ := s2.2.2.1 t9
              obtain ⟨S2, q1, q2⟩ := ih j y lv (v1 :: r) (qsum w w1) t val w' hq1 lvc (vv :: rest) (S1.2.1, h.2.1 + S1.2.2.1, h.2.2 + S1.2.2.2) hl ⟨b2, k3⟩ (qWr_sum hw s2.1)
              exact ⟨S2, by rw [hrun (some vv) b1]; exact q1, q2⟩
            · rw [if_neg t9] at hq1
              split at hq1
              · cases hq1
              · rename_i p k hcz
                obtain ⟨c1, c2, c3⟩ := s2.2.2.2 (by omega)
                have hcx := mcatchZ_ok hcz c1 c2
                have hww : qWr E (w1.1, w1.2.1, Nat.add w.2.2.1 (Nat.add w1.2.2.1 1), Nat.add w.2.2.2 (Nat.add w1.2.2.2 6)) (S1.2.1, h.2.1 + (S1.2.2.1 + 1), h.2.2 + (S1.2.2.2 + 6)) := by
                  refine ⟨s2.1.1, ?_, ?_, s2.1.2.2.2⟩
                  · show w.2.2.1 + (w1.2.2.1 + 1) = _
                    rw [hw.2.1, s2.1.2.1]
                  · show w.2.2.2 + (w1.2.2.2 + 6) = _
                    rw [hw.2.2.1, s2.1.2.2.1]
                obtain ⟨S2, q1, q2⟩ := ih j p (qset1 lv k (7, 0, 0)) [] _ t val w' hq1 (mdrop1 lvc k) [] _ (qLr_drop hl) trivial hww
                refine ⟨S2, ?_, q2⟩
                conv => lhs; unfold mrunX
                dsimp only
                rw [hlk]
                dsimp only
                rw [if_neg (by rw [k8]; decide), if_pos k7, if_neg (by omega), k1]
                dsimp only
                rw [if_pos k5, s1]
                dsimp only
                rw [c3]
                dsimp only
                rw [hcx]
                exact q1
    · rw [if_neg h40] at hq1
      exact qplain_ok hE (qone_X n) ih ht h40 hq1 hl hst hw
theorem qone_L {E : mE} {mc : Nat → mS → Option mS} (n : Nat) : qOne E (mrunL E mc (n + 1)) (mrunL E mc n) := by
  refine ⟨fun S e hl ht => ?_, fun S e r hl ht hi h9 hs => ?_, fun S S1 e hl ht hi hs => ?_⟩
  · unfold mrunL
    rw [hl]
    exact if_pos ht
  · conv => lhs; unfold mrunL
    rw [hl]
    dsimp only
    rw [if_neg (by rw [ht]; decide), if_pos hi, if_pos h9, hs]
  · conv => lhs; unfold mrunL
    rw [hl]
    dsimp only
    rw [if_neg (by rw [ht]; decide), if_neg (by rw [hi]; decide), hs]
theorem mcalleeX_no {e : mIns} {stc : List Value} (h : (∃ k, mhof k = none ∧ e.2.2.2.1 = k) ∨ ∀ i, e.2.1 ≠ .invokestatic i) : mcalleeX e stc = none := by
  unfold mcalleeX
  split
  · rename_i idx q y h1 h2 h3
    rcases h with ⟨k, hk, he⟩ | h
    · rw [if_neg (fun h9 => by
        have h8 := h9.1
        rw [he, hk] at h8
        cases h8)]
    · exact absurd h1 (h idx)
  · rfl
/-- a call at the law's level -/
theorem qcallL_ok {E : mE} {X : Nat} {bx : qX} (hE : qEok E X bx) {c0 : qCall} {mc : Nat → mS → Option mS} (hc : qCallOk E c0 mc) {j pc x y z u v n : Nat} {e : mIns} (ht : qtab j pc = (40, x, y, z, u, v, e)) {lv : qL} {st as r : List qV} {w : qW} (hinv : qinv X z u v st w = some (as, r)) {t1 : Nat} {v1 : qV} {w1 : qW} (hcall : qif (Nat.beq u 3) (qrunX X bx (qcallF X bx c0) n x 0 (qargs 0 as) [] (qzero w)) (qrunF X bx c0 n x 0 (qargs 0 as) [] (qzero w)) = some (t1, v1, w1)) {lvc : mLv} {stc : List Value} {h : mH} (hl : qLr E lv lvc) (hst : qS E st stc) (hw : qWr E w h) (hn : ∀ r : List Value, True) : ∃ (S1 : mS) (rest : List Value), qRes E t1 v1 w1 S1 ∧ qS E r rest ∧ ∀ vo : Option Value, mretv S1 = some vo → mrunL E mc (n + 1) ((j, pc, lvc, stc), h) = mrunL E mc n ((j, y, lvc, vo.toList ++ rest), (S1.2.1, h.2.1 + S1.2.2.1, h.2.2 + S1.2.2.2)) := by
  obtain ⟨r0, hr, hlk, hpc, -, g2, -⟩ := qtab_at ht (by decide)
  rw [qif_beq] at hcall
  by_cases hu3 : u = 3
  · subst hu3
    rw [if_pos rfl] at hcall
    obtain ⟨asc, rest, k1, k2, k3, k4, k5, k6, k7, k8⟩ := qinvX_ok (g2 rfl) hinv hst hw
    obtain ⟨S1, s1, s2⟩ := qrunX_ok hE (qcallF_ok hE hc) n x 0 (qargs 0 as) [] (qzero w) t1 v1 w1 hcall (lv_args 0 asc) [] (h.1, 0, 0) (qargs_ok as asc 0 k2) trivial (qWr_zero hw)
    refine ⟨S1, rest, s2, k3, fun vo hvo => ?_⟩
    conv => lhs; unfold mrunL
    dsimp only
    rw [hlk]
    dsimp only
    rw [if_neg (by rw [k8]; decide), if_pos k7, if_neg (by omega), k1]
    dsimp only
    rw [if_pos k5, show mrunX E (mrunF E mc) n (ment x asc h.1) = some S1 from s1]
    dsimp only
    rw [hvo, k4]
  · rw [if_neg hu3] at hcall
    have hu : u ≤ 2 := by
      have h9 := g2 rfl
      unfold qgI at h9
      split at h9
      · simp only [Bool.and_eq_true] at h9
        have h8 := h9.2
        rw [if_neg hu3] at h8
        by_cases u0 : u = 0
        · omega
        · rw [if_neg u0] at h8
          by_cases u1 : u = 1
          · omega
          · rw [if_neg u1] at h8
            have := (of_decide_eq_true h8).1
            omega
      · cases h9
    obtain ⟨asc, rest, k1, k2, k3, k4, k5, k6, k7, k8, k9, k10⟩ := qinv_ok (g2 rfl) hu hinv hE.1 hst hw
    obtain ⟨S1, s1, s2⟩ := qrunF_ok hE hc n x 0 (qargs 0 as) [] (qzero w) t1 v1 w1 hcall (lv_args 0 asc) [] (h.1, 0, 0) (qargs_ok as asc 0 k2) trivial (qWr_zero hw)
    refine ⟨S1, rest, s2, k3, fun vo hvo => ?_⟩
    have hno : mcalleeX e stc = none := by
      refine mcalleeX_no ?_
      by_cases u0 : u = 0
      · exact Or.inl ⟨x, k9 u0⟩
      · exact Or.inr (k10 u0)
    conv => lhs; unfold mrunL
    dsimp only
    rw [hlk]
    dsimp only
    rw [if_neg (by rw [k8]; decide), if_pos k7, if_neg (by omega), hno]
    dsimp only
    rw [k1]
    dsimp only
    rw [if_pos k5, show mrunF E mc n (ment x asc h.1) = some S1 from s1]
    dsimp only
    rw [hvo, k4]
theorem qrunL_ok {E : mE} {X : Nat} {bx : qX} (hE : qEok E X bx) {c0 : qCall} {mc : Nat → mS → Option mS} (hc : qCallOk E c0 mc) : ∀ n : Nat, qSays E (qrunL X bx c0 n) (mrunL E mc n) := by
  intro n
  induction n with
  | zero => intro j pc lv st w t val w' hq; exact hfalse hq
  | succ n ih =>
    intro j pc lv st w t val w' hq lvc stc h hl hst hw
    have hq1 : (match qtab j pc with
      | (op, x, y, z, u, v, e) => qif (Nat.beq op 40) (match qinv X z u v st w with
          | none => none
          | some (as, r) => match qif (Nat.beq u 3) (qrunX X bx (qcallF X bx c0) n x 0 (qargs 0 as) [] (qzero w)) (qrunF X bx c0 n x 0 (qargs 0 as) [] (qzero w)) with
            | none => none
            | some (t, val, w') => qif (Nat.beq t 0) (qrunL X bx c0 n j y lv r (qsum w w')) (qif (Nat.beq t 1) (qrunL X bx c0 n j y lv (val :: r) (qsum w w')) none))
          (qplain X bx (qrunL X bx c0 n) j op x y z u v e lv st w)) = some (t, val, w') := hq
    split at hq1
    rename_i op x y z u v e ht
    rw [qif_beq] at hq1
    by_cases h40 : op = 40
    · rw [if_pos h40] at hq1
      subst h40
      split at hq1
      · cases hq1
      · rename_i as r hinv
        split at hq1
        · cases hq1
        · rename_i t1 v1 w1 hcall
          obtain ⟨S1, rest, s2, k3, hrun⟩ := qcallL_ok hE hc ht hinv hcall hl hst hw (fun _ => trivial)
          rw [qif_beq, qif_beq] at hq1
          by_cases t0 : t1 = 0
          · rw [if_pos t0] at hq1
            obtain ⟨S2, q1, q2⟩ := ih j y lv r (qsum w w1) t val w' hq1 lvc rest (S1.2.1, h.2.1 + S1.2.2.1, h.2.2 + S1.2.2.2) hl k3 (qWr_sum hw s2.1)
            exact ⟨S2, by rw [hrun none (s2.2.1 t0)]; exact q1, q2⟩
          · rw [if_neg t0] at hq1
            by_cases t9 : t1 = 1
            · rw [if_pos t9] at hq1
              obtain ⟨vv, b1, b2⟩ := s2.2.2.1 t9
              obtain ⟨S2, q1, q2⟩ := ih j y lv (v1 :: r) (qsum w w1) t val w' hq1 lvc (vv :: rest) (S1.2.1, h.2.1 + S1.2.2.1, h.2.2 + S1.2.2.2) hl ⟨b2, k3⟩ (qWr_sum hw s2.1)
              exact ⟨S2, by rw [hrun (some vv) b1]; exact q1, q2⟩
            · rw [if_neg t9] at hq1
              cases hq1
    · rw [if_neg h40] at hq1
      exact qplain_ok hE (qone_L n) ih ht h40 hq1 hl hst hw
