/-! ===== every run of the abstract machine is a run of the small one ===== -/
theorem qtake_ok {E : mE} : ∀ (z : Nat) (acc st as r : List qV) (accc stc : List Value), qtake z acc st = some (as, r) → qS E st stc → qS E acc accc → z ≤ stc.length ∧ qS E as ((stc.take z).reverse ++ accc) ∧ qS E r (stc.drop z) := by
  intro z
  induction z with
  | zero =>
    intro acc st as r accc stc h hst hacc
    have h1 : some (acc, st) = some (as, r) := h
    cases h1
    exact ⟨Nat.zero_le _, hacc, hst⟩
  | succ n ih =>
    intro acc st as r accc stc h hst hacc
    cases st with
    | nil => exact hfalse h
    | cons v r0 =>
      obtain ⟨vv, rc, rfl, hv, hr⟩ := qS_c hst
      obtain ⟨h1, h2, h3⟩ := ih (v :: acc) r0 as r (vv :: accc) rc h hr ⟨hv, hacc⟩
      refine ⟨by rw [List.length_cons]; omega, ?_, h3⟩
      have e : ((vv :: rc).take (n + 1)).reverse ++ accc = (rc.take n).reverse ++ (vv :: accc) := by simp
      rw [e]
      exact h2
theorem qargs_ok {E : mE} : ∀ (as : List qV) (asc : List Value) (i : Nat), qS E as asc → qLr E (qargs i as) (lv_args i asc) := by
  intro as
  induction as with
  | nil =>
    intro asc i h j hj
    exact absurd (show (7 : Nat) ≤ 6 from hj) (by decide)
  | cons v r ih =>
    intro asc i h
    obtain ⟨vv, rc, rfl, hv, hr⟩ := qS_c h
    have hc := qR_cat hv
    have hi : qif (Nat.ble 5 v.1) (Nat.add i 2) (Nat.succ i) = (if vv.category = 2 then i + 2 else i + 1) := by
      rw [qif_ble]
      by_cases h5 : 5 ≤ v.1
      · rw [if_pos h5, if_pos (hc.2.2 h5)]
      · rw [if_neg h5, if_neg (by rw [hc.2.1 (by omega)]; decide)]
    have h2 := ih rc (if vv.category = 2 then i + 2 else i + 1) hr
    intro j hj
    have e1 : qargs i (v :: r) j = qif (Nat.beq j i) v (qargs (if vv.category = 2 then i + 2 else i + 1) r j) := by rw [← hi]; rfl
    rw [e1] at hj ⊢
    rw [qif_beq] at hj ⊢
    have e2 : lv_args i (vv :: rc) = (i, vv) :: lv_args (if vv.category = 2 then i + 2 else i + 1) rc := rfl
    rw [e2]
    simp only [mlv]
    by_cases e : j = i
    · rw [if_pos e, if_pos e.symm]
      exact ⟨vv, rfl, hv⟩
    · rw [if_neg e] at hj ⊢
      rw [if_neg (fun e9 => e e9.symm)]
      exact h2 j hj
theorem qcats_ok {E : mE} : ∀ (as : List qV) (asc : List Value), qS E as asc → (lg_sl asc).length = qcats as := by
  intro as
  induction as with
  | nil => intro asc h; rw [qS_n h]; rfl
  | cons v r ih =>
    intro asc h
    obtain ⟨vv, rc, rfl, hv, hr⟩ := qS_c h
    have hc := qR_cat hv
    have e1 : qcats (v :: r) = Nat.add (qif (Nat.ble 5 v.1) 2 1) (qcats r) := rfl
    rw [e1, ← ih rc hr, qif_ble, q_ad]
    have e2 : lg_sl (vv :: rc) = (if vv.category = 2 then [.val vv, .second] else [.val vv]) ++ lg_sl rc := by simp [lg_sl]
    rw [e2, List.length_append]
    by_cases h5 : 5 ≤ v.1
    · rw [if_pos h5, if_pos (hc.2.2 h5)]
      rfl
    · rw [if_neg h5, if_neg (by rw [hc.2.1 (by omega)]; decide)]
      rfl
theorem qkd_0 {e : mIns} (h : qkd e = 0) : ∃ idx, e.2.1 = .invokestatic idx := by
  unfold qkd at h
  split at h
  · rename_i idx h1; exact ⟨idx, h1⟩
  · exact absurd h (by decide)
  · exact absurd h (by decide)
  · exact absurd h (by decide)
theorem qkd_1 {e : mIns} (h : qkd e = 1) : ∃ idx, e.2.1 = .invokespecial idx := by
  unfold qkd at h
  split at h
  · exact absurd h (by decide)
  · rename_i idx h1; exact ⟨idx, h1⟩
  · exact absurd h (by decide)
  · exact absurd h (by decide)
theorem qkd_2 {e : mIns} (h : qkd e = 2) : ∃ idx, e.2.1 = .invokevirtual idx := by
  unfold qkd at h
  split at h
  · exact absurd h (by decide)
  · exact absurd h (by decide)
  · rename_i idx h1; exact ⟨idx, h1⟩
  · exact absurd h (by decide)
set_option maxHeartbeats 1000000 in
theorem qinv_ok {E : mE} {X j x y z u v : Nat} {e : mIns} {st as r : List qV} {w : qW} {stc : List Value} {h : mH} (hg : qgI j x y z u v e = true) (hu : u ≤ 2) (hq : qinv X z u v st w = some (as, r)) (hX : X = E.length) (hst : qS E st stc) (hw : qWr E w h) : ∃ asc rest : List Value, mcallee E e stc h.1 = some (x, asc, rest) ∧ qS E as asc ∧ qS E r rest ∧ e.1 + 3 = y ∧ mfits j x = true ∧ e.2.2.2.1 ≤ 990 ∧ minv e = true ∧ mterm e = false ∧ (u = 0 → mhof x = none ∧ e.2.2.2.1 = x) ∧ (u ≠ 0 → ∀ i, e.2.1 ≠ .invokestatic i) := by
  unfold qgI at hg
  split at hg
  · rename_i q k hq1 hk1
    simp only [Bool.and_eq_true, decide_eq_true_eq] at hg
    obtain ⟨⟨a1, a2, a3, a4, a5, a6⟩, hg⟩ := hg
    obtain ⟨pc, i, n, a, b, k9⟩ := e
    dsimp only at a1 a2 hg ⊢
    subst a1
    unfold qinv at hq
    split at hq
    · cases hq
    · rename_i as0 r0 ht
      obtain ⟨t1, t2, t3⟩ := qtake_ok z [] st as0 r0 [] stc ht hst trivial
      rw [List.append_nil] at t2
      rw [qif_beq, qif_beq] at hq
      have hu3 : ¬ u = 3 := by omega
      rw [if_neg hu3] at hg
      by_cases u1 : u = 1
      · rw [if_pos u1] at hq
        rw [if_neg (by omega), if_pos u1] at hg
        obtain ⟨b1, b2, b3, b4, b5⟩ := of_decide_eq_true hg
        split at hq
        · cases hq
        · rename_i a0 r1
          obtain ⟨va, rc, hdr, ha, hr⟩ := qS_c t3
          obtain ⟨g1, hq⟩ := qg_beq hq
          obtain ⟨g2, hq⟩ := qg_ble hq
          obtain ⟨g3, hq⟩ := qg_ble hq
          cases hq
          obtain ⟨idx, hi⟩ := qkd_1 b1
          dsimp only at hi
          subst hi
          have hva := qR_ref ha g1
          subst hva
          have hS2 : qS E (a0 :: as0) (.ref a0.2.1 :: (stc.take z).reverse) := ⟨ha, t2⟩
          refine ⟨.ref a0.2.1 :: (stc.take z).reverse, rc, ?_, hS2, hr, a2, a6, a3, rfl, rfl, fun e9 => absurd e9 (by omega), fun _ i9 => by intro h9; cases h9⟩
          unfold mcallee
          rw [hq1, hk1]
          dsimp only
          rw [if_neg b2, if_neg (by omega), ← a4, hdr]
          dsimp only
          rw [if_pos ⟨b3, b4, b5, qmw hr g2, by rw [qcats_ok _ _ hS2, ← a5]; exact g3⟩]
      · rw [if_neg u1] at hq
        by_cases u2 : u = 2
        · rw [if_pos u2] at hq
          rw [if_neg (by omega), if_neg u1] at hg
          obtain ⟨b0, b1, b2, b3, b4, b5, b6⟩ := of_decide_eq_true hg
          split at hq
          · cases hq
          · rename_i a0 r1
            obtain ⟨va, rc, hdr, ha, hr⟩ := qS_c t3
            obtain ⟨g1, hq⟩ := qg_beq hq
            obtain ⟨c1, hq⟩ := qg_ble hq
            obtain ⟨c2, hq⟩ := qg_ble hq
            obtain ⟨c3, hq⟩ := qg_beq hq
            obtain ⟨c4, hq⟩ := qg_beq hq
            obtain ⟨g2, hq⟩ := qg_ble hq
            obtain ⟨g3, hq⟩ := qg_ble hq
            cases hq
            obtain ⟨idx, hi⟩ := qkd_2 b1
            dsimp only at hi
            subst hi
            have hva := qR_ref ha g1
            subst hva
            have hS2 : qS E (a0 :: as0) (.ref a0.2.1 :: (stc.take z).reverse) := ⟨ha, t2⟩
            have h994 : a ≠ 994 := by omega
            refine ⟨.ref a0.2.1 :: (stc.take z).reverse, rc, ?_, hS2, hr, a2, a6, a3, decide_eq_true h994, rfl, fun e9 => absurd e9 (by omega), fun _ i9 => by intro h9; cases h9⟩
            obtain ⟨xo, ho, d1, d2, d3⟩ := qW_obj (w := w) (h := h) (a := a0.2.1) (k := (w.1 a0.2.1).1) (c := (w.1 a0.2.1).2.1) (n := (w.1 a0.2.1).2.2.1) (f := (w.1 a0.2.1).2.2.2) hw (by omega) c2 rfl c3
            obtain ⟨cl, hcl, hcn⟩ := Option.map_eq_some_iff.mp b6
            have hxo : xo.1 = v % 64 := d1.symm.trans c4
            unfold mcallee
            rw [hq1, hk1]
            dsimp only
            rw [if_neg b2, if_neg (by omega), ← a4, hdr]
            dsimp only
            rw [mobjE_at (by omega) ho]
            dsimp only
            rw [hxo, hcl]
            dsimp only
            rw [if_pos ⟨b3, b4, b5, hcn, qmw hr g2, by rw [qcats_ok _ _ hS2, ← a5]; exact g3⟩]
        · rw [if_neg u2] at hq
          have u0 : u = 0 := by omega
          rw [if_pos u0] at hg
          obtain ⟨b1, b2, b3, b4, b5⟩ := of_decide_eq_true hg
          obtain ⟨g2, hq⟩ := qg_ble hq
          obtain ⟨g3, hq⟩ := qg_ble hq
          cases hq
          obtain ⟨idx, hi⟩ := qkd_0 b1
          dsimp only at hi
          subst hi
          have h993 : a ≠ 993 := by omega
          refine ⟨(stc.take z).reverse, stc.drop z, ?_, t2, t3, a2, a6, a3, decide_eq_true h993, rfl, fun _ => ⟨b5, rfl⟩, fun e9 => absurd u0 e9⟩
          unfold mcallee
          rw [hq1, hk1]
          dsimp only
          rw [if_neg b2, if_neg (by omega), ← a4, if_pos ⟨b3, b4, qmw t3 g2, by rw [qcats_ok _ _ t2, ← a5]; exact g3⟩]
  · cases hg
/-- a static call of a method with handlers -/
theorem qinvX_ok {E : mE} {X j x y z v : Nat} {e : mIns} {st as r : List qV} {w : qW} {stc : List Value} {h : mH} (hg : qgI j x y z 3 v e = true) (hq : qinv X z 3 v st w = some (as, r)) (hst : qS E st stc) (hw : qWr E w h) : ∃ asc rest : List Value, mcalleeX e stc = some (x, asc, rest) ∧ qS E as asc ∧ qS E r rest ∧ e.1 + 3 = y ∧ mfits j x = true ∧ e.2.2.2.1 ≤ 990 ∧ minv e = true ∧ mterm e = false := by
  unfold qgI at hg
  split at hg
  · rename_i q k hq1 hk1
    simp only [Bool.and_eq_true, decide_eq_true_eq] at hg
    obtain ⟨⟨a1, a2, a3, a4, a5, a6⟩, hg⟩ := hg
    obtain ⟨pc, i, n, a, b, k9⟩ := e
    dsimp only at a1 a2 hg ⊢
    subst a1
    unfold qinv at hq
    split at hq
    · cases hq
    · rename_i as0 r0 ht
      obtain ⟨t1, t2, t3⟩ := qtake_ok z [] st as0 r0 [] stc ht hst trivial
      rw [List.append_nil] at t2
      rw [qif_beq, qif_beq, if_neg (by decide), if_neg (by decide)] at hq
      rw [if_pos trivial] at hg
      obtain ⟨b1, b2, b3⟩ := of_decide_eq_true hg
      obtain ⟨g2, hq⟩ := qg_ble hq
      obtain ⟨g3, hq⟩ := qg_ble hq
      cases hq
      obtain ⟨idx, hi⟩ := qkd_0 b1
      dsimp only at hi
      subst hi
      have h993 : a ≠ 993 := by omega
      refine ⟨(stc.take z).reverse, stc.drop z, ?_, t2, t3, a2, a6, a3, decide_eq_true h993, rfl⟩
      unfold mcalleeX
      rw [hq1, hk1]
      dsimp only
      rw [← a4, if_pos ⟨b2, b3, t1, qmw t3 g2, by rw [qcats_ok _ _ t2, ← a5]; exact g3⟩]
  · cases hg
theorem qspec_ok {E : mE} {j op y v y' : Nat} {e : mIns} {r : mMth} {st st' : List qV} {stc : List Value} (hg : qgS op y v e r = true) (hr : mmeth j = some r) (hop : op = 41 ∨ op = 42 ∨ op = 43) (hq : qspec op y v st = some (y', st')) (hst : qS E st stc) : ∃ stc' : List Value, mspec j e stc = some (y', stc') ∧ qS E st' stc' ∧ 990 < e.2.2.2.1 ∧ minv e = true ∧ mterm e = false := by
  unfold qgS at hg
  simp only [Bool.and_eq_true, decide_eq_true_eq] at hg
  obtain ⟨⟨a1, a2, a3⟩, hg⟩ := hg
  obtain ⟨pc, i, n, a, b, k9⟩ := e
  dsimp only at a1 hg ⊢
  unfold qspec at hq
  rw [qif_beq] at hq
  have hlen : ∀ (r9 : List qV) (rc : List Value), qS E r9 rc → mwords rc ≤ 2 * r9.length := fun r9 rc hs => by
    have h1 := mwords_le rc (fun v _ => cat_le v)
    rw [qS_len hs] at h1
    exact h1
  by_cases h41 : op = 41
  · rw [if_pos h41] at hq hg
    obtain ⟨b1, b2⟩ := of_decide_eq_true hg
    split at hq
    · cases hq
    · rename_i a0 r1
      obtain ⟨va, rc, rfl, ha, hs1⟩ := qS_c hst
      obtain ⟨g1, hq⟩ := qg_beq hq
      obtain ⟨g2, hq⟩ := qg_ble hq
      cases hq
      obtain ⟨idx, hi⟩ := qkd_1 b1
      dsimp only at hi b2
      subst hi
      subst b2
      have hva := qR_ref ha g1
      subst hva
      have hl := hlen _ _ hs1
      have g3 : 2 * st'.length + 12 ≤ v := g2
      refine ⟨rc, ?_, hs1, by decide, rfl, rfl⟩
      unfold mspec
      rw [hr]
      dsimp only
      rw [if_pos ⟨rfl, a2, by omega⟩, a1]
  · rw [if_neg h41] at hq hg
    split at hq
    · rename_i a0 b0 r1
      obtain ⟨va, sa, rfl, ha, hs1⟩ := qS_c hst
      obtain ⟨vb, rc, rfl, hb, hs2⟩ := qS_c hs1
      obtain ⟨g1, hq⟩ := qg_beq hq
      obtain ⟨g2, hq⟩ := qg_beq hq
      obtain ⟨g3, hq⟩ := qg_beq hq
      obtain ⟨g4, hq⟩ := qg_beq hq
      obtain ⟨g5, hq⟩ := qg_ble hq
      cases hq
      have g6 : 2 * r1.length + 13 ≤ v := g5
      have hl := hlen _ _ hs2
      have ha9 := ha
      have hb9 := hb
      obtain ⟨x1, rfl, p1, p2⟩ := qR_int ha g1
      obtain ⟨x2, rfl, p3, p4⟩ := qR_int hb g2
      simp only [qif_beq, qif_ble]
      by_cases h42 : op = 42
      · rw [if_pos h42] at hg
        obtain ⟨b1, b2, b3⟩ := of_decide_eq_true hg
        obtain ⟨idx, hi⟩ := qkd_0 b1
        dsimp only at hi b2
        subst hi
        subst b2
        refine ⟨.int (if x1 < x2 then x1 else x2) :: rc, ?_, ⟨?_, hs2⟩, by decide, rfl, rfl⟩
        · unfold mspec
          rw [hr]
          dsimp only
          rw [if_pos ⟨a2, by omega⟩, if_pos ⟨rfl, b3⟩, a1]
        · rw [if_pos h42]
          by_cases h : x1 < x2
          · have h9 := (fa_lt _ _).mp h
            rw [if_pos h, if_pos (show Nat.succ a0.2.1 ≤ b0.2.1 by omega)]
            exact ha9
          · have h9 : ¬ x1.toInt < x2.toInt := fun z => h ((fa_lt _ _).mpr z)
            rw [if_neg h, if_neg (show ¬ Nat.succ a0.2.1 ≤ b0.2.1 by omega)]
            exact hb9
      · rw [if_neg h42] at hg
        obtain ⟨bq, b1, b2, b3⟩ := of_decide_eq_true hg
        obtain ⟨idx, hi⟩ := qkd_0 b1
        dsimp only at hi b2
        subst hi
        subst b2
        refine ⟨.int (if x2 < x1 then x1 else x2) :: rc, ?_, ⟨?_, hs2⟩, by decide, rfl, rfl⟩
        · unfold mspec
          rw [hr]
          dsimp only
          rw [if_pos ⟨a2, by omega⟩, if_neg (by rintro ⟨z, -⟩; exact absurd z (by decide)), if_pos ⟨rfl, b3⟩, a1]
        · rw [if_neg h42]
          by_cases h : x2 < x1
          · have h9 := (fa_lt _ _).mp h
            rw [if_pos h, if_pos (show Nat.succ b0.2.1 ≤ a0.2.1 by omega)]
            exact ha9
          · have h9 : ¬ x2.toInt < x1.toInt := fun z => h ((fa_lt _ _).mpr z)
            rw [if_neg h, if_neg (show ¬ Nat.succ b0.2.1 ≤ a0.2.1 by omega)]
            exact hb9
    · cases hq
def qRes (E : mE) (t : Nat) (val : qV) (w' : qW) (S1 : mS) : Prop := qWr E w' S1.2 ∧ (t = 0 → mretv S1 = some none) ∧ (t = 1 → ∃ v, mretv S1 = some (some v) ∧ qR E val v) ∧ (2 ≤ t → mthrown S1 = some (t - 2) ∧ S1.1.2.2.2 = [] ∧ mretv S1 = none)
theorem qrk_new {e : mIns} (h : qrk e = 46) : (∃ idx, e.2.1 = .new idx) ∧ e.2.2.2.1 = 995 := by
  unfold qrk at h
  split at h
  case h_6 idx h1 =>
    refine ⟨⟨idx, h1⟩, ?_⟩
    by_cases h9 : e.2.2.2.1 = 995
    · exact h9
    · rw [if_neg h9] at h; exact absurd h (by decide)
  all_goals exact absurd h (by decide)
theorem qend_ok {E : mE} {j pc op x z v t : Nat} {e : mIns} {r : mMth} {st : List qV} {stc : List Value} {w w' : qW} {h : mH} {val : qV} {lvc : mLv} (hl : mlook (mcode j) pc = some e) (hr : mmeth j = some r) (hop : op = 45 ∨ op = 46) (h45 : op = 45 → qgR v z e r.2.2.2.1 = true) (h46 : op = 46 → qrk e = 46 ∧ e.2.2.2.2.1 = x) (hq : qend op x z v st w = some (t, val, w')) (hst : qS E st stc) (hw : qWr E w h) : mterm e = true ∧ qRes E t val w' ((j, pc, lvc, stc), h) := by
  unfold qend at hq
  rw [qif_beq] at hq
  rcases hop with hop | hop
  · rw [if_neg (by omega), qif_beq] at hq
    have hg := h45 hop
    unfold qgR at hg
    simp only [Bool.and_eq_true, decide_eq_true_eq] at hg
    obtain ⟨a1, hg⟩ := hg
    obtain ⟨pc9, i, n, a, b, k9⟩ := e
    by_cases z9 : z = 9
    · rw [if_pos z9] at hq
      rw [if_neg (by omega), if_neg (by omega), if_neg (by omega), if_neg (by omega)] at hg
      have hty := (of_decide_eq_true hg).2
      split at hq
      · cases hq
        rw [qS_n hst]
        subst z9
        have hi : i = .return_ := by
          unfold qrk at a1
          dsimp only at a1
          split at a1
          case h_5 => rfl
          case h_6 => split at a1 <;> exact absurd a1 (by decide)
          all_goals exact absurd a1 (by decide)
        subst hi
        refine ⟨rfl, hw, fun _ => ?_, fun e9 => absurd e9 (by decide), fun e9 => absurd e9 (by decide)⟩
        unfold mretv
        dsimp only
        rw [hl, hr]
        dsimp only
        rw [hty]
      · cases hq
    · rw [if_neg z9] at hq
      split at hq
      · rename_i a0
        obtain ⟨va, sa, rfl, ha, hs1⟩ := qS_c hst
        rw [qS_n hs1]
        obtain ⟨hk, hq⟩ := qg_some hq
        obtain ⟨hb, hq⟩ := qg_some hq
        cases hq
        unfold qkind at hk
        simp only [qif_beq] at hk hb
        by_cases z0 : z = 0
        · subst z0
          rw [if_neg (by decide)] at hk
          obtain ⟨x9, rfl, p1, p2⟩ := qR_int ha (Nat.eq_of_beq_eq_true hk)
          have hi : i = .ireturn := by
            unfold qrk at a1
            dsimp only at a1
            split at a1
            case h_1 => rfl
            case h_6 => split at a1 <;> exact absurd a1 (by decide)
            all_goals exact absurd a1 (by decide)
          subst hi
          rw [if_pos rfl] at hg hb
          refine ⟨rfl, hw, fun e9 => absurd e9 (by decide), fun _ => ⟨.int x9, ?_, ha⟩, fun e9 => absurd e9 (by decide)⟩
          unfold mretv
          dsimp only
          rw [hl, hr]
          dsimp only
          by_cases v0 : v = 0
          · rw [if_pos v0] at hg
            rw [of_decide_eq_true hg]
            dsimp only
            rw [if_pos (show narrow FieldType.int (Value.int x9) = Value.int x9 from rfl)]
          · rw [if_neg v0] at hg hb
            rw [(of_decide_eq_true hg).2]
            dsimp only
            rw [qif_ble] at hb
            by_cases e1 : 2147483648 ≤ val.2.1
            · rw [if_pos e1] at hb
              have e2 := Nat.le_of_ble_eq_true hb
              have h3 : x9 = 0 ∨ x9 = 1 := by
                rw [fa_eq, fa_eq]
                show x9.toInt = 0 ∨ x9.toInt = 1
                omega
              rcases h3 with rfl | rfl <;> rfl
            · rw [if_neg e1] at hb; cases hb
        · rw [if_neg z0] at hg
          by_cases z1 : z = 1
          · subst z1
            rw [if_pos rfl] at hg hk
            have hv : ∃ q, va = .ref q := by
              by_cases t1 : val.1 = 1
              · exact ⟨_, qR_ref ha t1⟩
              · rw [if_neg t1] at hk
                obtain ⟨q, f, hq, -⟩ := qR_box ha (Nat.eq_of_beq_eq_true hk)
                exact ⟨q, hq⟩
            obtain ⟨q, rfl⟩ := hv
            have hi : i = .areturn := by
              unfold qrk at a1
              dsimp only at a1
              split at a1
              case h_2 => rfl
              case h_6 => split at a1 <;> exact absurd a1 (by decide)
              all_goals exact absurd a1 (by decide)
            subst hi
            refine ⟨rfl, hw, fun e9 => absurd e9 (by decide), fun _ => ⟨.ref q, ?_, ha⟩, fun e9 => absurd e9 (by decide)⟩
            unfold mretv
            dsimp only
            rw [hl, hr]
            dsimp only
            split at hg
            · rename_i C hty
              rw [hty]
            · rename_i C hty
              rw [hty]
            · cases hg
          · rw [if_neg z1] at hg hk
            by_cases z5 : z = 5
            · subst z5
              rw [if_pos rfl] at hg
              have hv := qR_long ha (Nat.eq_of_beq_eq_true hk)
              subst hv
              have hi : i = .lreturn := by
                unfold qrk at a1
                dsimp only at a1
                split at a1
                case h_3 => rfl
                case h_6 => split at a1 <;> exact absurd a1 (by decide)
                all_goals exact absurd a1 (by decide)
              subst hi
              refine ⟨rfl, hw, fun e9 => absurd e9 (by decide), fun _ => ⟨_, ?_, ha⟩, fun e9 => absurd e9 (by decide)⟩
              unfold mretv
              dsimp only
              rw [hl, hr]
              dsimp only
              rw [of_decide_eq_true hg]
            · rw [if_neg z5] at hg
              by_cases z6 : z = 6
              · subst z6
                rw [if_pos rfl] at hg
                obtain ⟨d9, hv⟩ := qR_dbl ha (Nat.eq_of_beq_eq_true hk)
                subst hv
                have hi : i = .dreturn := by
                  unfold qrk at a1
                  dsimp only at a1
                  split at a1
                  case h_4 => rfl
                  case h_6 => split at a1 <;> exact absurd a1 (by decide)
                  all_goals exact absurd a1 (by decide)
                subst hi
                refine ⟨rfl, hw, fun e9 => absurd e9 (by decide), fun _ => ⟨_, ?_, ha⟩, fun e9 => absurd e9 (by decide)⟩
                unfold mretv
                dsimp only
                rw [hl, hr]
                dsimp only
                rw [of_decide_eq_true hg]
              · rw [if_neg z6] at hg
                exact absurd (of_decide_eq_true hg).1 z9
      · cases hq
  · rw [if_pos hop] at hq
    obtain ⟨h1, h2⟩ := h46 hop
    obtain ⟨⟨idx, hi⟩, h3⟩ := qrk_new h1
    obtain ⟨pc9, i, n, a, b, k9⟩ := e
    dsimp only at hi h2 h3
    subst hi
    subst h3
    subst h2
    split at hq
    · cases hq
      rw [qS_n hst]
      refine ⟨rfl, hw, fun e9 => ?_, fun e9 => ?_, fun _ => ⟨?_, rfl, ?_⟩⟩
      · rw [q_ad] at e9; omega
      · rw [q_ad] at e9; omega
      · unfold mthrown
        dsimp only
        rw [hl]
        dsimp only
        rw [if_pos rfl, q_ad, show 2 + b - 2 = b by omega]
      · unfold mretv
        dsimp only
        rw [hl, hr]
    · cases hq
