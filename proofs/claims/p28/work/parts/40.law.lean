/-! ===== the law: a text is written, things are told ===== -/
theorem cw_116_114_0 : wcS 116 0 114 2 2 = true := by decide +kernel
theorem cw_116_115_0 : wcS 116 0 115 2 2 = true := by decide +kernel
theorem cw_116_77 : wcV 116 0 77 6 1 1 = true := by decide +kernel
theorem cw_116_78 : wcV 116 0 78 6 1 1 = true := by decide +kernel
theorem cw_116_79 : wcV 116 0 79 6 2 2 = true := by decide +kernel
theorem cw_116_80 : wcV 116 0 80 6 4 4 = true := by decide +kernel
theorem cw_116_81 : wcV 116 0 81 6 2 2 = true := by decide +kernel
theorem cw_116_82 : wcV 116 0 82 6 1 1 = true := by decide +kernel
theorem cw_116_83 : wcV 116 0 83 6 2 2 = true := by decide +kernel
/-- the script: outer thing 0 -/
def wSc (E : mE) (L : Nat) (xs : Nat → Int32) : Prop := E.length = 2 ∧ E[0]? = some (Sum.inl (0, L, Sum.inl xs))
section SCR
variable {E : mE} {j pc : Nat} {l st : List wV} {σ : wSt} {P : Option wV → wSt → Prop} {y : mMth} {q : Nat × Nat × Nat × Nat}
theorem B_scr {L : Nat} {xs : Nat → Int32} {i : Int} (hX : wSc E L xs) (he : mlook (mcode j) pc = some (pc, .iaload, q)) (hy : mmeth j = some y) (h1 : 0 ≤ i) (h2 : i < (L : Int)) (k : Bt E j (pc + 1) l (wi (xs i.toNat).toInt :: st) σ P) : Bt E j pc l (wi i :: wr 0 :: st) σ P := by
  refine B_hp he rfl rfl hy (fun _ _ => rfl) (fun sc h nc ns g2 g3 => ?_) k
  obtain ⟨v, rc, rfl, h4, h5⟩ := wS_c g2
  obtain ⟨v2, rc2, rfl, h6, h7⟩ := wS_c h5
  cases wR_r h6
  obtain ⟨z, rfl, e1⟩ := wR_i h4
  obtain ⟨hL, hf⟩ := hX
  obtain ⟨z1, z2⟩ := wnn e1 h1
  have hq : 0 < E.length := by rw [hL]; decide
  exact ⟨_, h, by simp only [mheap, if_pos hq, hf]; rw [if_neg (by rw [z2]; exact fun h11 => h11.elim z1 (fun h12 => by omega)), z2], wS_k (wR_mi _) h7, g3⟩
theorem B_slen {L : Nat} {xs : Nat → Int32} (hX : wSc E L xs) (hn : L < 2147483648) (he : mlook (mcode j) pc = some (pc, .arraylength, q)) (hy : mmeth j = some y) (k : Bt E j (pc + 1) l (wi (L : Int) :: st) σ P) : Bt E j pc l (wr 0 :: st) σ P := by
  refine B_hp he rfl rfl hy (fun _ _ => rfl) (fun sc h nc ns g2 g3 => ?_) k
  obtain ⟨v, rc, rfl, h4, h5⟩ := wS_c g2
  cases wR_r h4
  obtain ⟨hL, hf⟩ := hX
  have hq : 0 < E.length := by rw [hL]; decide
  exact ⟨.int (Int32.ofNat L) :: rc, h, by simp only [mheap, if_pos hq, hf]; rfl, ⟨wR_mi2 (nI_toInt hn), h5⟩, g3⟩
end SCR
theorem g_below {E : mE} {σ : wSt} (hE : wE E) {v n : Int} (hn : 0 < n) : Ev E 114 [wi v, wi n] σ (fun x => 0 ≤ x ∧ x < n) := by
  refine Fn.of (nL := 2) ?_
  show Bt E 114 0 [wi v, wi n] [] σ _
  refine B_rng 0 rfl (fun ha0 => ?_)
  refine B_rng 1 rfl (fun ha1 => ?_)
  refine B_iloadn rfl my_114 rfl ?_
  refine B_ldc rfl my_114 (n := 2147483647) rfl ?_
  refine B_iand31 rfl my_114 ?_
  refine B_iloadn rfl my_114 rfl ?_
  refine B_irem rfl my_114 (wand_rng _).1 hn ?_
  refine B_iret rfl my_114 rfl ?_
  exact ⟨_, rfl, ⟨Int.emod_nonneg _ (by omega), Int.emod_lt_of_pos _ hn⟩, rfl⟩
theorem g_cell {E : mE} {σ : wSt} (hE : wE E) {L : Nat} {xs : Nat → Int32} (hX : wSc E L xs) (hL : L < 2147483648) {k : Int} (h1 : 0 ≤ k) (h2 : k < 1000) : Ev E 115 [wr 0, wi k] σ (fun x => True) := by
  refine Fn.of (nL := 2) ?_
  show Bt E 115 0 [wr 0, wi k] [] σ _
  refine B_rng 1 rfl (fun ha1 => ?_)
  refine B_iloadn rfl my_115 rfl ?_
  refine B_aloadn rfl my_115 rfl ?_
  refine B_slen hX hL rfl my_115 ?_
  refine B_ic_ge rfl my_115 rfl (tgt := 12) (nx := 6) rfl rfl (fun c1 => ?_) (fun c1 => ?_)
  · refine B_ldc rfl my_115 (n := 790386105) rfl ?_
    refine B_iloadn rfl my_115 rfl ?_
    refine B_iconst rfl my_115 (by decide) ?_
    refine B_iadd rfl my_115 (by omega) (by omega) ?_
    refine B_imulW rfl my_115 ?_
    refine B_top (fun r2 => ?_)
    refine B_iret rfl my_115 rfl ?_
    exact ⟨_, rfl, trivial, rfl⟩
  · refine B_aloadn rfl my_115 rfl ?_
    refine B_iloadn rfl my_115 rfl ?_
    refine B_scr hX rfl my_115 (by omega) (by omega) ?_
    refine B_top (fun r3 => ?_)
    refine B_goto rfl my_115 rfl (tgt := 18) rfl ?_
    refine B_iret rfl my_115 rfl ?_
    exact ⟨_, rfl, trivial, rfl⟩
def BIv (σ s : wSt) (n : Int) : Prop := Al s ∧ TX s ∧ gv s 3 1 ≤ n ∧ Off Rt σ s ∧ gv s 2 6 = 0
theorem bi_step {σ s t : wSt} {n d k : Int} (h : BIv σ s n) (hq : Tq s t d) (hf : gv t 2 6 = 0) (hd : d ≤ k) : BIv σ t (n + k) := ⟨hq.1, hq.2.1, by have := hq.2.2.1; have := h.2.2.1; omega, h.2.2.2.1.tr hq.2.2.2, hf⟩
theorem bi_mono {σ s : wSt} {n m : Int} (h : BIv σ s n) (hm : n ≤ m) : BIv σ s m := ⟨h.1, h.2.1, by have := h.2.2.1; omega, h.2.2.2⟩
/-- all that the first checksum wants -/
def LIv (σ : wSt) : Prop := Al σ ∧ TX σ ∧ gv σ 2 6 = 0 ∧ (-1 ≤ rd σ 7 3 0 ∧ rd σ 7 3 0 ≤ 3) ∧ (-1 ≤ rd σ 7 3 2 ∧ rd σ 7 3 2 ≤ 1) ∧ PFd σ ∧ ∀ T, Tb T → ∀ i, 0 ≤ rd σ (T + 2) 500 i
theorem li_off {σ s : wSt} {R : Nat → Prop} (h : LIv σ) (hA : Al s) (hX : TX s) (hf : gv s 2 6 = 0) (ho : Off R σ s) (h8 : ¬ R 8) (hT : ∀ T, Tb T → ¬ R T ∧ ¬ R (T + 3)) : LIv s := by
  obtain ⟨-, -, -, h4, h5, h6, h7⟩ := h
  refine ⟨hA, hX, hf, by rw [off_rd ho h8]; exact h4, by rw [off_rd ho h8]; exact h5, ?_, fun T hT2 i => ?_⟩
  · unfold PFd
    rw [off_gv ho (hT 11 tb11).1, off_gv ho (hT 46 tb46).1, off_gv ho (hT 81 tb81).1, off_gv ho (hT 116 tb116).1]
    exact h6
  · rw [off_rd ho (hT T hT2).2]
    exact h7 T hT2 i
theorem rd_us {σ : wSt} {n len : Nat} {i : Int} (h : ¬ Tb (n + 1)) : rd (us σ) n len i = rd σ n len i := off_rd us_off h
theorem li_us {σ : wSt} (h : LIv σ) : LIv (us σ) := by
  obtain ⟨h1, h2, h3, h4, h5, h6, h7⟩ := h
  refine ⟨al_us h1, (tx_off h2 us_off (by omega) (by omega)).1, by rw [us_gv (by omega)]; exact h3, by rw [rd_us (by omega)]; exact h4, by rw [rd_us (by omega)]; exact h5, ?_, fun T hT i => ?_⟩
  · unfold PFd
    rw [us_gv (by omega), us_gv (by omega), us_gv (by omega), us_gv (by omega)]
    exact h6
  · rw [rd_us (by omega)]
    exact h7 T hT i
theorem li_tell {σ : wSt} {a n : Int} (h : LIv σ) (h1 : -1 ≤ n) (h2 : n ≤ 1) : LIv (us (pt σ 7 3 a n)) := by
  refine li_us ?_
  have o : Off (fun a => a = 8) σ (pt σ 7 3 a n) := off_pt rfl
  obtain ⟨g1, g2, g3, g4, g5, g6, g7⟩ := h
  refine ⟨al_pt g1, (tx_off g2 o (by omega) (by omega)).1, by rw [gv_pt (by omega)]; exact g3, ?_, ?_, ?_, fun T hT i => ?_⟩
  · rw [rd_pt]
    split
    · exact ⟨h1, by omega⟩
    · exact g4
  · rw [rd_pt]
    split
    · exact ⟨h1, h2⟩
    · exact g5
  · unfold PFd
    rw [gv_pt (by omega), gv_pt (by omega), gv_pt (by omega), gv_pt (by omega)]
    exact g6
  · rw [rd_pt_ne (by omega)]
    exact g7 T hT i
theorem li_rule {σ : wSt} {a n : Int} (h : LIv σ) : LIv (us (pt σ 9 20 a n)) := by
  have o : Off (fun a => a = 10) σ (pt σ 9 20 a n) := off_pt rfl
  exact li_us (li_off h (al_pt h.1) (tx_off h.2.1 o (by omega) (by omega)).1 (by rw [gv_pt (by omega)]; exact h.2.2.1) o (by omega) (fun T hT => ⟨by omega, by omega⟩))
theorem li_share {σ : wSt} {n : Int} (h : LIv σ) : LIv (us (wup σ 6 2 n)) := by
  have o : Off (fun a => a = 6) σ (wup σ 6 2 n) := off_wup rfl
  exact li_us (li_off h (al_wup h.1) (tx_off h.2.1 o (by omega) (by omega)).1 (by rw [gv_ne (by omega)]; exact h.2.2.1) o (by omega) (fun T hT => ⟨by omega, by omega⟩))
set_option maxRecDepth 100000 in
theorem l_cells {E : mE} {σ : wSt} (hE : wE E) {L : Nat} {xs : Nat → Int32} (hX : wSc E L xs) (hL : L < 2147483648) {a b : Int} (ha : 0 ≤ a ∧ a < 4) (hb : 1 ≤ b ∧ b ≤ 4) {r : Int} (hr : 0 ≤ r ∧ r ≤ 6) {P : Option wV → wSt → Prop} (kont : ∀ s, BIv σ s (45 * r + 44) → Bt E 116 280 [wr 0, wr 2, wi a, wi b, wi r, wx, wx, wx, wx, wx, wx, wx, wx, wx, wx, wx, wx, wx, wx, wx, wx] [] s P) : ∀ (k : Nat) (s : wSt) (c : Int), BIv σ s (45 * r + 11 * c) → 0 ≤ c → c ≤ b → (4 - c).toNat ≤ k → Bt E 116 52 [wr 0, wr 2, wi a, wi b, wi r, wi c, wx, wx, wx, wx, wx, wx, wx, wx, wx, wx, wx, wx, wx, wx, wx] [] s P := by
  intro k
  induction k with
  | zero =>
    intro s c h1 h2 h3 hm
    refine B_rng 2 rfl (fun ha2 => ?_)
    refine B_rng 3 rfl (fun ha3 => ?_)
    refine B_rng 4 rfl (fun ha4 => ?_)
    refine B_rng 5 rfl (fun ha5 => ?_)
    refine B_iload rfl my_116 rfl ?_
    refine B_iloadn rfl my_116 rfl ?_
    refine B_ic_ge rfl my_116 rfl (tgt := 280) (nx := 58) rfl rfl (fun c1 => ?_) (fun c1 => ?_)
    · refine B_loc (l' := [wr 0, wr 2, wi a, wi b, wi r, wx, wx, wx, wx, wx, wx, wx, wx, wx, wx, wx, wx, wx, wx, wx, wx]) ⟨Or.inl rfl, Or.inl rfl, Or.inl rfl, Or.inl rfl, Or.inl rfl, Or.inr rfl, Or.inl rfl, Or.inl rfl, Or.inl rfl, Or.inl rfl, Or.inl rfl, Or.inl rfl, Or.inl rfl, Or.inl rfl, Or.inl rfl, Or.inl rfl, Or.inl rfl, Or.inl rfl, Or.inl rfl, Or.inl rfl, Or.inl rfl, trivial⟩ ?_
      exact kont _ (bi_mono h1 (by omega))
    · exact absurd hm (by omega)
  | succ k ih =>
    intro s c h1 h2 h3 hm
    refine B_rng 2 rfl (fun ha2 => ?_)
    refine B_rng 3 rfl (fun ha3 => ?_)
    refine B_rng 4 rfl (fun ha4 => ?_)
    refine B_rng 5 rfl (fun ha5 => ?_)
    refine B_iload rfl my_116 rfl ?_
    refine B_iloadn rfl my_116 rfl ?_
    refine B_ic_ge rfl my_116 rfl (tgt := 280) (nx := 58) rfl rfl (fun c1 => ?_) (fun c1 => ?_)
    · refine B_loc (l' := [wr 0, wr 2, wi a, wi b, wi r, wx, wx, wx, wx, wx, wx, wx, wx, wx, wx, wx, wx, wx, wx, wx, wx]) ⟨Or.inl rfl, Or.inl rfl, Or.inl rfl, Or.inl rfl, Or.inl rfl, Or.inr rfl, Or.inl rfl, Or.inl rfl, Or.inl rfl, Or.inl rfl, Or.inl rfl, Or.inl rfl, Or.inl rfl, Or.inl rfl, Or.inl rfl, Or.inl rfl, Or.inl rfl, Or.inl rfl, Or.inl rfl, Or.inl rfl, Or.inl rfl, trivial⟩ ?_
      exact kont _ (bi_mono h1 (by omega))
    · refine B_aloadn rfl my_116 rfl ?_
      refine B_iconst rfl my_116 (by decide) ?_
      refine B_iload rfl my_116 rfl ?_
      refine B_iadd rfl my_116 (by omega) (by omega) ?_
      refine B_iconst rfl my_116 (by decide) ?_
      refine B_iload rfl my_116 rfl ?_
      refine B_imul rfl my_116 (by omega) (by omega) ?_
      refine B_iadd rfl my_116 (by omega) (by omega) ?_
      refine B_bipush rfl my_116 (n := 16) rfl ?_
      refine B_irem rfl my_116 (by omega) (by omega) ?_
      refine B_cS rfl cw_116_115_0 (as := [wr 0, wi (((3 + r) + (3 * c)) % 16)]) (rest := []) rfl (Nat.le_of_ble_eq_true rfl) (g_cell hE hX hL (by omega) (by omega)) (fun vo s9 hq => ?_)
      obtain ⟨x2, rfl, hz3, rfl⟩ := hq
      show Bt E 116 74 [wr 0, wr 2, wi a, wi b, wi r, wi c, wx, wx, wx, wx, wx, wx, wx, wx, wx, wx, wx, wx, wx, wx, wx] [wi x2] s _
      refine B_top (fun r4 => ?_)
      refine B_iconst rfl my_116 (by decide) ?_
      refine B_iload rfl my_116 rfl ?_
      refine B_imul rfl my_116 (by omega) (by omega) ?_
      refine B_iaddW rfl my_116 ?_
      refine B_top (fun r5 => ?_)
      refine B_istore rfl my_116 (by decide) rfl (show _ = [wr 0, wr 2, wi a, wi b, wi r, wi c, wi (w32 (x2 + (5 * r))), wx, wx, wx, wx, wx, wx, wx, wx, wx, wx, wx, wx, wx, wx] from rfl) ?_
      refine B_iload rfl my_116 rfl ?_
      refine B_if_le rfl my_116 rfl (tgt := 92) (nx := 86) rfl rfl (fun c6 => ?_) (fun c6 => ?_)
      · refine B_iload rfl my_116 rfl ?_
        refine B_iconst rfl my_116 (by decide) ?_
        refine B_ishr rfl my_116 ?_
        refine B_bipush rfl my_116 (n := 7) rfl ?_
        refine B_cS rfl cw_116_114_0 (as := [wi (wshr (w32 (x2 + (5 * r))) 2), wi 7]) (rest := []) rfl (Nat.le_of_ble_eq_true rfl) (g_below hE (by decide)) (fun vo s9 hq => ?_)
        obtain ⟨x7, rfl, hz8, rfl⟩ := hq
        show Bt E 116 101 [wr 0, wr 2, wi a, wi b, wi r, wi c, wi (w32 (x2 + (5 * r))), wx, wx, wx, wx, wx, wx, wx, wx, wx, wx, wx, wx, wx, wx] [wi x7] s _
        refine B_top (fun r9 => ?_)
        refine B_switch rfl my_116 rfl (fun c10 => ?_) (fun c10a c10b => ?_)
        · show Bt E 116 260 _ _ _ _
          refine B_aloadn rfl my_116 rfl ?_
          refine B_iload rfl my_116 rfl ?_
          refine B_iconst rfl my_116 (by decide) ?_
          refine B_ishr rfl my_116 ?_
          refine B_bipush rfl my_116 (n := 20) rfl ?_
          refine B_cS rfl cw_116_114_0 (as := [wi (wshr (w32 (x2 + (5 * r))) 3), wi 20]) (rest := [wr 2]) rfl (Nat.le_of_ble_eq_true rfl) (g_below hE (by decide)) (fun vo s9 hq => ?_)
          obtain ⟨x11, rfl, hz12, rfl⟩ := hq
          show Bt E 116 270 [wr 0, wr 2, wi a, wi b, wi r, wi c, wi (w32 (x2 + (5 * r))), wx, wx, wx, wx, wx, wx, wx, wx, wx, wx, wx, wx, wx, wx] [wi x11, wr 2] s _
          refine B_top (fun r13 => ?_)
          refine B_cV hE.1 rfl rfl cw_116_78 (as := [wi x11]) (rest := []) rfl (Nat.le_of_ble_eq_true rfl) (g_digits hE h1.1 h1.2.1 (by omega) (by have := h1.2.2.1; omega)) (fun vo u1 hq => ?_)
          obtain ⟨v1, d1, rfl, hd1, hq1, hf1⟩ := hq
          have b1 := bi_step (k := 2) h1 hq1 hf1 (hd1.2 (by omega))
          show Bt E 116 273 [wr 0, wr 2, wi a, wi b, wi r, wi c, wi (w32 (x2 + (5 * r))), wx, wx, wx, wx, wx, wx, wx, wx, wx, wx, wx, wx, wx, wx] [wi v1] u1 _
          refine B_top (fun r14 => ?_)
          refine B_pop rfl my_116 (Nat.le_of_ble_eq_true rfl) ?_
          refine B_iinc rfl my_116 (by decide) rfl rfl rfl (by omega) (by omega) (show _ = [wr 0, wr 2, wi a, wi b, wi r, wi (c + 1), wi (w32 (x2 + (5 * r))), wx, wx, wx, wx, wx, wx, wx, wx, wx, wx, wx, wx, wx, wx] from rfl) ?_
          refine B_goto rfl my_116 rfl (tgt := 52) rfl ?_
          refine B_loc (l' := [wr 0, wr 2, wi a, wi b, wi r, wi (c + 1), wx, wx, wx, wx, wx, wx, wx, wx, wx, wx, wx, wx, wx, wx, wx]) ⟨Or.inl rfl, Or.inl rfl, Or.inl rfl, Or.inl rfl, Or.inl rfl, Or.inl rfl, Or.inr rfl, Or.inl rfl, Or.inl rfl, Or.inl rfl, Or.inl rfl, Or.inl rfl, Or.inl rfl, Or.inl rfl, Or.inl rfl, Or.inl rfl, Or.inl rfl, Or.inl rfl, Or.inl rfl, Or.inl rfl, Or.inl rfl, trivial⟩ ?_
          exact ih _ _ (bi_mono b1 (by omega)) (by omega) (by omega) (by omega)
        · have c10 : x7 = 0 ∨ x7 = 1 ∨ x7 = 2 ∨ x7 = 3 ∨ x7 = 4 := by omega
          rcases c10 with c10 | c10 | c10 | c10 | c10
          · refine ⟨35, by rw [c10]; rfl, rfl, ?_⟩
            show Bt E 116 136 _ _ _ _
            refine B_goto rfl my_116 rfl (tgt := 274) rfl ?_
            refine B_iinc rfl my_116 (by decide) rfl rfl rfl (by omega) (by omega) (show _ = [wr 0, wr 2, wi a, wi b, wi r, wi (c + 1), wi (w32 (x2 + (5 * r))), wx, wx, wx, wx, wx, wx, wx, wx, wx, wx, wx, wx, wx, wx] from rfl) ?_
            refine B_goto rfl my_116 rfl (tgt := 52) rfl ?_
            refine B_loc (l' := [wr 0, wr 2, wi a, wi b, wi r, wi (c + 1), wx, wx, wx, wx, wx, wx, wx, wx, wx, wx, wx, wx, wx, wx, wx]) ⟨Or.inl rfl, Or.inl rfl, Or.inl rfl, Or.inl rfl, Or.inl rfl, Or.inl rfl, Or.inr rfl, Or.inl rfl, Or.inl rfl, Or.inl rfl, Or.inl rfl, Or.inl rfl, Or.inl rfl, Or.inl rfl, Or.inl rfl, Or.inl rfl, Or.inl rfl, Or.inl rfl, Or.inl rfl, Or.inl rfl, Or.inl rfl, trivial⟩ ?_
            exact ih _ _ (bi_mono h1 (by omega)) (by omega) (by omega) (by omega)
          · refine ⟨38, by rw [c10]; rfl, rfl, ?_⟩
            show Bt E 116 139 _ _ _ _
            refine B_aloadn rfl my_116 rfl ?_
            refine B_iload rfl my_116 rfl ?_
            refine B_bipush rfl my_116 (n := 26) rfl ?_
            refine B_cS rfl cw_116_114_0 (as := [wi (w32 (x2 + (5 * r))), wi 26]) (rest := [wr 2]) rfl (Nat.le_of_ble_eq_true rfl) (g_below hE (by decide)) (fun vo s9 hq => ?_)
            obtain ⟨x15, rfl, hz16, rfl⟩ := hq
            show Bt E 116 147 [wr 0, wr 2, wi a, wi b, wi r, wi c, wi (w32 (x2 + (5 * r))), wx, wx, wx, wx, wx, wx, wx, wx, wx, wx, wx, wx, wx, wx] [wi x15, wr 2] s _
            refine B_top (fun r17 => ?_)
            refine B_iconst rfl my_116 (by decide) ?_
            refine B_iload rfl my_116 rfl ?_
            refine B_iconst rfl my_116 (by decide) ?_
            refine B_ishr rfl my_116 ?_
            refine B_iconst rfl my_116 (by decide) ?_
            refine B_cS rfl cw_116_114_0 (as := [wi (wshr (w32 (x2 + (5 * r))) 4), wi 3]) (rest := [wi 1, wi x15, wr 2]) rfl (Nat.le_of_ble_eq_true rfl) (g_below hE (by decide)) (fun vo s9 hq => ?_)
            obtain ⟨x18, rfl, hz19, rfl⟩ := hq
            show Bt E 116 156 [wr 0, wr 2, wi a, wi b, wi r, wi c, wi (w32 (x2 + (5 * r))), wx, wx, wx, wx, wx, wx, wx, wx, wx, wx, wx, wx, wx, wx] [wi x18, wi 1, wi x15, wr 2] s _
            refine B_top (fun r20 => ?_)
            refine B_iadd rfl my_116 (by omega) (by omega) ?_
            refine B_cV hE.1 rfl rfl cw_116_79 (as := [wi x15, wi (1 + x18)]) (rest := []) rfl (Nat.le_of_ble_eq_true rfl) (g_letters hE h1.1 h1.2.1 (by omega) (by omega) (by omega) (by omega) (by have := h1.2.2.1; omega)) (fun vo u2 hq => ?_)
            obtain ⟨v2, d2, rfl, hd2, hq2, hf2⟩ := hq
            have b2 := bi_step (k := 3) h1 hq2 hf2 (by omega)
            show Bt E 116 160 [wr 0, wr 2, wi a, wi b, wi r, wi c, wi (w32 (x2 + (5 * r))), wx, wx, wx, wx, wx, wx, wx, wx, wx, wx, wx, wx, wx, wx] [wi v2] u2 _
            refine B_top (fun r21 => ?_)
            refine B_pop rfl my_116 (Nat.le_of_ble_eq_true rfl) ?_
            refine B_goto rfl my_116 rfl (tgt := 274) rfl ?_
            refine B_iinc rfl my_116 (by decide) rfl rfl rfl (by omega) (by omega) (show _ = [wr 0, wr 2, wi a, wi b, wi r, wi (c + 1), wi (w32 (x2 + (5 * r))), wx, wx, wx, wx, wx, wx, wx, wx, wx, wx, wx, wx, wx, wx] from rfl) ?_
            refine B_goto rfl my_116 rfl (tgt := 52) rfl ?_
            refine B_loc (l' := [wr 0, wr 2, wi a, wi b, wi r, wi (c + 1), wx, wx, wx, wx, wx, wx, wx, wx, wx, wx, wx, wx, wx, wx, wx]) ⟨Or.inl rfl, Or.inl rfl, Or.inl rfl, Or.inl rfl, Or.inl rfl, Or.inl rfl, Or.inr rfl, Or.inl rfl, Or.inl rfl, Or.inl rfl, Or.inl rfl, Or.inl rfl, Or.inl rfl, Or.inl rfl, Or.inl rfl, Or.inl rfl, Or.inl rfl, Or.inl rfl, Or.inl rfl, Or.inl rfl, Or.inl rfl, trivial⟩ ?_
            exact ih _ _ (bi_mono b2 (by omega)) (by omega) (by omega) (by omega)
          · refine ⟨63, by rw [c10]; rfl, rfl, ?_⟩
            show Bt E 116 164 _ _ _ _
            refine B_aloadn rfl my_116 rfl ?_
            refine B_iconst rfl my_116 (by decide) ?_
            refine B_iload rfl my_116 rfl ?_
            refine B_bipush rfl my_116 (n := 30) rfl ?_
            refine B_cS rfl cw_116_114_0 (as := [wi (w32 (x2 + (5 * r))), wi 30]) (rest := [wi 1, wr 2]) rfl (Nat.le_of_ble_eq_true rfl) (g_below hE (by decide)) (fun vo s9 hq => ?_)
            obtain ⟨x22, rfl, hz23, rfl⟩ := hq
            show Bt E 116 173 [wr 0, wr 2, wi a, wi b, wi r, wi c, wi (w32 (x2 + (5 * r))), wx, wx, wx, wx, wx, wx, wx, wx, wx, wx, wx, wx, wx, wx] [wi x22, wi 1, wr 2] s _
            refine B_top (fun r24 => ?_)
            refine B_iadd rfl my_116 (by omega) (by omega) ?_
            refine B_iconst rfl my_116 (by decide) ?_
            refine B_iload rfl my_116 rfl ?_
            refine B_iconst rfl my_116 (by decide) ?_
            refine B_ishr rfl my_116 ?_
            refine B_bipush rfl my_116 (n := 12) rfl ?_
            refine B_cS rfl cw_116_114_0 (as := [wi (wshr (w32 (x2 + (5 * r))) 4), wi 12]) (rest := [wi 1, wi (1 + x22), wr 2]) rfl (Nat.le_of_ble_eq_true rfl) (g_below hE (by decide)) (fun vo s9 hq => ?_)
            obtain ⟨x25, rfl, hz26, rfl⟩ := hq
            show Bt E 116 184 [wr 0, wr 2, wi a, wi b, wi r, wi c, wi (w32 (x2 + (5 * r))), wx, wx, wx, wx, wx, wx, wx, wx, wx, wx, wx, wx, wx, wx] [wi x25, wi 1, wi (1 + x22), wr 2] s _
            refine B_top (fun r27 => ?_)
            refine B_iadd rfl my_116 (by omega) (by omega) ?_
            refine B_sipush rfl my_116 (n := 1990) rfl ?_
            refine B_iload rfl my_116 rfl ?_
            refine B_iconst rfl my_116 (by decide) ?_
            refine B_ishr rfl my_116 ?_
            refine B_bipush rfl my_116 (n := 30) rfl ?_
            refine B_cS rfl cw_116_114_0 (as := [wi (wshr (w32 (x2 + (5 * r))) 1), wi 30]) (rest := [wi 1990, wi (1 + x25), wi (1 + x22), wr 2]) rfl (Nat.le_of_ble_eq_true rfl) (g_below hE (by decide)) (fun vo s9 hq => ?_)
            obtain ⟨x28, rfl, hz29, rfl⟩ := hq
            show Bt E 116 197 [wr 0, wr 2, wi a, wi b, wi r, wi c, wi (w32 (x2 + (5 * r))), wx, wx, wx, wx, wx, wx, wx, wx, wx, wx, wx, wx, wx, wx] [wi x28, wi 1990, wi (1 + x25), wi (1 + x22), wr 2] s _
            refine B_top (fun r30 => ?_)
            refine B_iadd rfl my_116 (by omega) (by omega) ?_
            refine B_bipush rfl my_116 (n := 9) rfl ?_
            refine B_cV hE.1 rfl rfl cw_116_80 (as := [wi (1 + x22), wi (1 + x25), wi (1990 + x28), wi 9]) (rest := []) rfl (Nat.le_of_ble_eq_true rfl) (g_three hE h1.1 h1.2.1 (by omega) (by omega) (by omega) (by omega) (by omega) (by have := h1.2.2.1; omega)) (fun vo u3 hq => ?_)
            obtain ⟨v3, d3, rfl, hd3, hq3, hf3⟩ := hq
            have b3 := bi_step (k := 10) h1 hq3 hf3 (hd3.2 (by omega) (by omega) (by omega))
            show Bt E 116 203 [wr 0, wr 2, wi a, wi b, wi r, wi c, wi (w32 (x2 + (5 * r))), wx, wx, wx, wx, wx, wx, wx, wx, wx, wx, wx, wx, wx, wx] [wi v3] u3 _
            refine B_top (fun r31 => ?_)
            refine B_pop rfl my_116 (Nat.le_of_ble_eq_true rfl) ?_
            refine B_goto rfl my_116 rfl (tgt := 274) rfl ?_
            refine B_iinc rfl my_116 (by decide) rfl rfl rfl (by omega) (by omega) (show _ = [wr 0, wr 2, wi a, wi b, wi r, wi (c + 1), wi (w32 (x2 + (5 * r))), wx, wx, wx, wx, wx, wx, wx, wx, wx, wx, wx, wx, wx, wx] from rfl) ?_
            refine B_goto rfl my_116 rfl (tgt := 52) rfl ?_
            refine B_loc (l' := [wr 0, wr 2, wi a, wi b, wi r, wi (c + 1), wx, wx, wx, wx, wx, wx, wx, wx, wx, wx, wx, wx, wx, wx, wx]) ⟨Or.inl rfl, Or.inl rfl, Or.inl rfl, Or.inl rfl, Or.inl rfl, Or.inl rfl, Or.inr rfl, Or.inl rfl, Or.inl rfl, Or.inl rfl, Or.inl rfl, Or.inl rfl, Or.inl rfl, Or.inl rfl, Or.inl rfl, Or.inl rfl, Or.inl rfl, Or.inl rfl, Or.inl rfl, Or.inl rfl, Or.inl rfl, trivial⟩ ?_
            exact ih _ _ (bi_mono b3 (by omega)) (by omega) (by omega) (by omega)
          · refine ⟨106, by rw [c10]; rfl, rfl, ?_⟩
            show Bt E 116 207 _ _ _ _
            refine B_aloadn rfl my_116 rfl ?_
            refine B_iload rfl my_116 rfl ?_
            refine B_iconst rfl my_116 (by decide) ?_
            refine B_ishr rfl my_116 ?_
            refine B_bipush rfl my_116 (n := 90) rfl ?_
            refine B_cS rfl cw_116_114_0 (as := [wi (wshr (w32 (x2 + (5 * r))) 4), wi 90]) (rest := [wr 2]) rfl (Nat.le_of_ble_eq_true rfl) (g_below hE (by decide)) (fun vo s9 hq => ?_)
            obtain ⟨x32, rfl, hz33, rfl⟩ := hq
            show Bt E 116 217 [wr 0, wr 2, wi a, wi b, wi r, wi c, wi (w32 (x2 + (5 * r))), wx, wx, wx, wx, wx, wx, wx, wx, wx, wx, wx, wx, wx, wx] [wi x32, wr 2] s _
            refine B_top (fun r34 => ?_)
            refine B_cV hE.1 rfl rfl cw_116_78 (as := [wi x32]) (rest := []) rfl (Nat.le_of_ble_eq_true rfl) (g_digits hE h1.1 h1.2.1 (by omega) (by have := h1.2.2.1; omega)) (fun vo u4 hq => ?_)
            obtain ⟨v4, d4, rfl, hd4, hq4, hf4⟩ := hq
            have b4 := bi_step (k := 2) h1 hq4 hf4 (hd4.2 (by omega))
            show Bt E 116 220 [wr 0, wr 2, wi a, wi b, wi r, wi c, wi (w32 (x2 + (5 * r))), wx, wx, wx, wx, wx, wx, wx, wx, wx, wx, wx, wx, wx, wx] [wi v4] u4 _
            refine B_top (fun r35 => ?_)
            refine B_pop rfl my_116 (Nat.le_of_ble_eq_true rfl) ?_
            refine B_aloadn rfl my_116 rfl ?_
            refine B_bipush rfl my_116 (n := 7) rfl ?_
            refine B_cV hE.1 rfl rfl cw_116_77 (as := [wi 7]) (rest := []) rfl (Nat.le_of_ble_eq_true rfl) (g_sign hE b4.1 b4.2.1 (by omega) (by omega) (by have := b4.2.2.1; omega)) (fun vo u5 hq => ?_)
            obtain ⟨v5, d5, rfl, hd5, hq5, hf5⟩ := hq
            have b5 := bi_step (k := 1) b4 hq5 hf5 (by omega)
            show Bt E 116 227 [wr 0, wr 2, wi a, wi b, wi r, wi c, wi (w32 (x2 + (5 * r))), wx, wx, wx, wx, wx, wx, wx, wx, wx, wx, wx, wx, wx, wx] [wi v5] u5 _
            refine B_top (fun r36 => ?_)
            refine B_pop rfl my_116 (Nat.le_of_ble_eq_true rfl) ?_
            refine B_aloadn rfl my_116 rfl ?_
            refine B_iload rfl my_116 rfl ?_
            refine B_iconst rfl my_116 (by decide) ?_
            refine B_ishr rfl my_116 ?_
            refine B_bipush rfl my_116 (n := 99) rfl ?_
            refine B_cS rfl cw_116_114_0 (as := [wi (wshr (w32 (x2 + (5 * r))) 3), wi 99]) (rest := [wr 2]) rfl (Nat.le_of_ble_eq_true rfl) (g_below hE (by decide)) (fun vo s9 hq => ?_)
            obtain ⟨x37, rfl, hz38, rfl⟩ := hq
            show Bt E 116 238 [wr 0, wr 2, wi a, wi b, wi r, wi c, wi (w32 (x2 + (5 * r))), wx, wx, wx, wx, wx, wx, wx, wx, wx, wx, wx, wx, wx, wx] [wi x37, wr 2] u5 _
            refine B_top (fun r39 => ?_)
            refine B_cV hE.1 rfl rfl cw_116_78 (as := [wi x37]) (rest := []) rfl (Nat.le_of_ble_eq_true rfl) (g_digits hE b5.1 b5.2.1 (by omega) (by have := b5.2.2.1; omega)) (fun vo u6 hq => ?_)
            obtain ⟨v6, d6, rfl, hd6, hq6, hf6⟩ := hq
            have b6 := bi_step (k := 2) b5 hq6 hf6 (hd6.2 (by omega))
            show Bt E 116 241 [wr 0, wr 2, wi a, wi b, wi r, wi c, wi (w32 (x2 + (5 * r))), wx, wx, wx, wx, wx, wx, wx, wx, wx, wx, wx, wx, wx, wx] [wi v6] u6 _
            refine B_top (fun r40 => ?_)
            refine B_pop rfl my_116 (Nat.le_of_ble_eq_true rfl) ?_
            refine B_goto rfl my_116 rfl (tgt := 274) rfl ?_
            refine B_iinc rfl my_116 (by decide) rfl rfl rfl (by omega) (by omega) (show _ = [wr 0, wr 2, wi a, wi b, wi r, wi (c + 1), wi (w32 (x2 + (5 * r))), wx, wx, wx, wx, wx, wx, wx, wx, wx, wx, wx, wx, wx, wx] from rfl) ?_
            refine B_goto rfl my_116 rfl (tgt := 52) rfl ?_
            refine B_loc (l' := [wr 0, wr 2, wi a, wi b, wi r, wi (c + 1), wx, wx, wx, wx, wx, wx, wx, wx, wx, wx, wx, wx, wx, wx, wx]) ⟨Or.inl rfl, Or.inl rfl, Or.inl rfl, Or.inl rfl, Or.inl rfl, Or.inl rfl, Or.inr rfl, Or.inl rfl, Or.inl rfl, Or.inl rfl, Or.inl rfl, Or.inl rfl, Or.inl rfl, Or.inl rfl, Or.inl rfl, Or.inl rfl, Or.inl rfl, Or.inl rfl, Or.inl rfl, Or.inl rfl, Or.inl rfl, trivial⟩ ?_
            exact ih _ _ (bi_mono b6 (by omega)) (by omega) (by omega) (by omega)
          · refine ⟨144, by rw [c10]; rfl, rfl, ?_⟩
            show Bt E 116 245 _ _ _ _
            refine B_aloadn rfl my_116 rfl ?_
            refine B_iload rfl my_116 rfl ?_
            refine B_bipush rfl my_116 (n := 46) rfl ?_
            refine B_cS rfl cw_116_114_0 (as := [wi (w32 (x2 + (5 * r))), wi 46]) (rest := [wr 2]) rfl (Nat.le_of_ble_eq_true rfl) (g_below hE (by decide)) (fun vo s9 hq => ?_)
            obtain ⟨x41, rfl, hz42, rfl⟩ := hq
            show Bt E 116 253 [wr 0, wr 2, wi a, wi b, wi r, wi c, wi (w32 (x2 + (5 * r))), wx, wx, wx, wx, wx, wx, wx, wx, wx, wx, wx, wx, wx, wx] [wi x41, wr 2] s _
            refine B_top (fun r43 => ?_)
            refine B_cV hE.1 rfl rfl cw_116_77 (as := [wi x41]) (rest := []) rfl (Nat.le_of_ble_eq_true rfl) (g_sign hE h1.1 h1.2.1 (by omega) (by omega) (by have := h1.2.2.1; omega)) (fun vo u7 hq => ?_)
            obtain ⟨v7, d7, rfl, hd7, hq7, hf7⟩ := hq
            have b7 := bi_step (k := 1) h1 hq7 hf7 (by omega)
            show Bt E 116 256 [wr 0, wr 2, wi a, wi b, wi r, wi c, wi (w32 (x2 + (5 * r))), wx, wx, wx, wx, wx, wx, wx, wx, wx, wx, wx, wx, wx, wx] [wi v7] u7 _
            refine B_top (fun r44 => ?_)
            refine B_pop rfl my_116 (Nat.le_of_ble_eq_true rfl) ?_
            refine B_goto rfl my_116 rfl (tgt := 274) rfl ?_
            refine B_iinc rfl my_116 (by decide) rfl rfl rfl (by omega) (by omega) (show _ = [wr 0, wr 2, wi a, wi b, wi r, wi (c + 1), wi (w32 (x2 + (5 * r))), wx, wx, wx, wx, wx, wx, wx, wx, wx, wx, wx, wx, wx, wx] from rfl) ?_
            refine B_goto rfl my_116 rfl (tgt := 52) rfl ?_
            refine B_loc (l' := [wr 0, wr 2, wi a, wi b, wi r, wi (c + 1), wx, wx, wx, wx, wx, wx, wx, wx, wx, wx, wx, wx, wx, wx, wx]) ⟨Or.inl rfl, Or.inl rfl, Or.inl rfl, Or.inl rfl, Or.inl rfl, Or.inl rfl, Or.inr rfl, Or.inl rfl, Or.inl rfl, Or.inl rfl, Or.inl rfl, Or.inl rfl, Or.inl rfl, Or.inl rfl, Or.inl rfl, Or.inl rfl, Or.inl rfl, Or.inl rfl, Or.inl rfl, Or.inl rfl, Or.inl rfl, trivial⟩ ?_
            exact ih _ _ (bi_mono b7 (by omega)) (by omega) (by omega) (by omega)
      · refine B_aloadn rfl my_116 rfl ?_
        refine B_iloadn rfl my_116 rfl ?_
        refine B_cV hE.1 rfl rfl cw_116_77 (as := [wi a]) (rest := []) rfl (Nat.le_of_ble_eq_true rfl) (g_sign hE h1.1 h1.2.1 (by omega) (by omega) (by have := h1.2.2.1; omega)) (fun vo u8 hq => ?_)
        obtain ⟨v8, d8, rfl, hd8, hq8, hf8⟩ := hq
        have b8 := bi_step (k := 1) h1 hq8 hf8 (by omega)
        show Bt E 116 91 [wr 0, wr 2, wi a, wi b, wi r, wi c, wi (w32 (x2 + (5 * r))), wx, wx, wx, wx, wx, wx, wx, wx, wx, wx, wx, wx, wx, wx] [wi v8] u8 _
        refine B_top (fun r45 => ?_)
        refine B_pop rfl my_116 (Nat.le_of_ble_eq_true rfl) ?_
        refine B_iload rfl my_116 rfl ?_
        refine B_iconst rfl my_116 (by decide) ?_
        refine B_ishr rfl my_116 ?_
        refine B_bipush rfl my_116 (n := 7) rfl ?_
        refine B_cS rfl cw_116_114_0 (as := [wi (wshr (w32 (x2 + (5 * r))) 2), wi 7]) (rest := []) rfl (Nat.le_of_ble_eq_true rfl) (g_below hE (by decide)) (fun vo s9 hq => ?_)
        obtain ⟨x46, rfl, hz47, rfl⟩ := hq
        show Bt E 116 101 [wr 0, wr 2, wi a, wi b, wi r, wi c, wi (w32 (x2 + (5 * r))), wx, wx, wx, wx, wx, wx, wx, wx, wx, wx, wx, wx, wx, wx] [wi x46] u8 _
        refine B_top (fun r48 => ?_)
        refine B_switch rfl my_116 rfl (fun c49 => ?_) (fun c49a c49b => ?_)
        · show Bt E 116 260 _ _ _ _
          refine B_aloadn rfl my_116 rfl ?_
          refine B_iload rfl my_116 rfl ?_
          refine B_iconst rfl my_116 (by decide) ?_
          refine B_ishr rfl my_116 ?_
          refine B_bipush rfl my_116 (n := 20) rfl ?_
          refine B_cS rfl cw_116_114_0 (as := [wi (wshr (w32 (x2 + (5 * r))) 3), wi 20]) (rest := [wr 2]) rfl (Nat.le_of_ble_eq_true rfl) (g_below hE (by decide)) (fun vo s9 hq => ?_)
          obtain ⟨x50, rfl, hz51, rfl⟩ := hq
          show Bt E 116 270 [wr 0, wr 2, wi a, wi b, wi r, wi c, wi (w32 (x2 + (5 * r))), wx, wx, wx, wx, wx, wx, wx, wx, wx, wx, wx, wx, wx, wx] [wi x50, wr 2] u8 _
          refine B_top (fun r52 => ?_)
          refine B_cV hE.1 rfl rfl cw_116_78 (as := [wi x50]) (rest := []) rfl (Nat.le_of_ble_eq_true rfl) (g_digits hE b8.1 b8.2.1 (by omega) (by have := b8.2.2.1; omega)) (fun vo u9 hq => ?_)
          obtain ⟨v9, d9, rfl, hd9, hq9, hf9⟩ := hq
          have b9 := bi_step (k := 2) b8 hq9 hf9 (hd9.2 (by omega))
          show Bt E 116 273 [wr 0, wr 2, wi a, wi b, wi r, wi c, wi (w32 (x2 + (5 * r))), wx, wx, wx, wx, wx, wx, wx, wx, wx, wx, wx, wx, wx, wx] [wi v9] u9 _
          refine B_top (fun r53 => ?_)
          refine B_pop rfl my_116 (Nat.le_of_ble_eq_true rfl) ?_
          refine B_iinc rfl my_116 (by decide) rfl rfl rfl (by omega) (by omega) (show _ = [wr 0, wr 2, wi a, wi b, wi r, wi (c + 1), wi (w32 (x2 + (5 * r))), wx, wx, wx, wx, wx, wx, wx, wx, wx, wx, wx, wx, wx, wx] from rfl) ?_
          refine B_goto rfl my_116 rfl (tgt := 52) rfl ?_
          refine B_loc (l' := [wr 0, wr 2, wi a, wi b, wi r, wi (c + 1), wx, wx, wx, wx, wx, wx, wx, wx, wx, wx, wx, wx, wx, wx, wx]) ⟨Or.inl rfl, Or.inl rfl, Or.inl rfl, Or.inl rfl, Or.inl rfl, Or.inl rfl, Or.inr rfl, Or.inl rfl, Or.inl rfl, Or.inl rfl, Or.inl rfl, Or.inl rfl, Or.inl rfl, Or.inl rfl, Or.inl rfl, Or.inl rfl, Or.inl rfl, Or.inl rfl, Or.inl rfl, Or.inl rfl, Or.inl rfl, trivial⟩ ?_
          exact ih _ _ (bi_mono b9 (by omega)) (by omega) (by omega) (by omega)
        · have c49 : x46 = 0 ∨ x46 = 1 ∨ x46 = 2 ∨ x46 = 3 ∨ x46 = 4 := by omega
          rcases c49 with c49 | c49 | c49 | c49 | c49
          · refine ⟨35, by rw [c49]; rfl, rfl, ?_⟩
            show Bt E 116 136 _ _ _ _
            refine B_goto rfl my_116 rfl (tgt := 274) rfl ?_
            refine B_iinc rfl my_116 (by decide) rfl rfl rfl (by omega) (by omega) (show _ = [wr 0, wr 2, wi a, wi b, wi r, wi (c + 1), wi (w32 (x2 + (5 * r))), wx, wx, wx, wx, wx, wx, wx, wx, wx, wx, wx, wx, wx, wx] from rfl) ?_
            refine B_goto rfl my_116 rfl (tgt := 52) rfl ?_
            refine B_loc (l' := [wr 0, wr 2, wi a, wi b, wi r, wi (c + 1), wx, wx, wx, wx, wx, wx, wx, wx, wx, wx, wx, wx, wx, wx, wx]) ⟨Or.inl rfl, Or.inl rfl, Or.inl rfl, Or.inl rfl, Or.inl rfl, Or.inl rfl, Or.inr rfl, Or.inl rfl, Or.inl rfl, Or.inl rfl, Or.inl rfl, Or.inl rfl, Or.inl rfl, Or.inl rfl, Or.inl rfl, Or.inl rfl, Or.inl rfl, Or.inl rfl, Or.inl rfl, Or.inl rfl, Or.inl rfl, trivial⟩ ?_
            exact ih _ _ (bi_mono b8 (by omega)) (by omega) (by omega) (by omega)
          · refine ⟨38, by rw [c49]; rfl, rfl, ?_⟩
            show Bt E 116 139 _ _ _ _
            refine B_aloadn rfl my_116 rfl ?_
            refine B_iload rfl my_116 rfl ?_
            refine B_bipush rfl my_116 (n := 26) rfl ?_
            refine B_cS rfl cw_116_114_0 (as := [wi (w32 (x2 + (5 * r))), wi 26]) (rest := [wr 2]) rfl (Nat.le_of_ble_eq_true rfl) (g_below hE (by decide)) (fun vo s9 hq => ?_)
            obtain ⟨x54, rfl, hz55, rfl⟩ := hq
            show Bt E 116 147 [wr 0, wr 2, wi a, wi b, wi r, wi c, wi (w32 (x2 + (5 * r))), wx, wx, wx, wx, wx, wx, wx, wx, wx, wx, wx, wx, wx, wx] [wi x54, wr 2] u8 _
            refine B_top (fun r56 => ?_)
            refine B_iconst rfl my_116 (by decide) ?_
            refine B_iload rfl my_116 rfl ?_
            refine B_iconst rfl my_116 (by decide) ?_
            refine B_ishr rfl my_116 ?_
            refine B_iconst rfl my_116 (by decide) ?_
            refine B_cS rfl cw_116_114_0 (as := [wi (wshr (w32 (x2 + (5 * r))) 4), wi 3]) (rest := [wi 1, wi x54, wr 2]) rfl (Nat.le_of_ble_eq_true rfl) (g_below hE (by decide)) (fun vo s9 hq => ?_)
            obtain ⟨x57, rfl, hz58, rfl⟩ := hq
            show Bt E 116 156 [wr 0, wr 2, wi a, wi b, wi r, wi c, wi (w32 (x2 + (5 * r))), wx, wx, wx, wx, wx, wx, wx, wx, wx, wx, wx, wx, wx, wx] [wi x57, wi 1, wi x54, wr 2] u8 _
            refine B_top (fun r59 => ?_)
            refine B_iadd rfl my_116 (by omega) (by omega) ?_
            refine B_cV hE.1 rfl rfl cw_116_79 (as := [wi x54, wi (1 + x57)]) (rest := []) rfl (Nat.le_of_ble_eq_true rfl) (g_letters hE b8.1 b8.2.1 (by omega) (by omega) (by omega) (by omega) (by have := b8.2.2.1; omega)) (fun vo u10 hq => ?_)
            obtain ⟨v10, d10, rfl, hd10, hq10, hf10⟩ := hq
            have b10 := bi_step (k := 3) b8 hq10 hf10 (by omega)
            show Bt E 116 160 [wr 0, wr 2, wi a, wi b, wi r, wi c, wi (w32 (x2 + (5 * r))), wx, wx, wx, wx, wx, wx, wx, wx, wx, wx, wx, wx, wx, wx] [wi v10] u10 _
            refine B_top (fun r60 => ?_)
            refine B_pop rfl my_116 (Nat.le_of_ble_eq_true rfl) ?_
            refine B_goto rfl my_116 rfl (tgt := 274) rfl ?_
            refine B_iinc rfl my_116 (by decide) rfl rfl rfl (by omega) (by omega) (show _ = [wr 0, wr 2, wi a, wi b, wi r, wi (c + 1), wi (w32 (x2 + (5 * r))), wx, wx, wx, wx, wx, wx, wx, wx, wx, wx, wx, wx, wx, wx] from rfl) ?_
            refine B_goto rfl my_116 rfl (tgt := 52) rfl ?_
            refine B_loc (l' := [wr 0, wr 2, wi a, wi b, wi r, wi (c + 1), wx, wx, wx, wx, wx, wx, wx, wx, wx, wx, wx, wx, wx, wx, wx]) ⟨Or.inl rfl, Or.inl rfl, Or.inl rfl, Or.inl rfl, Or.inl rfl, Or.inl rfl, Or.inr rfl, Or.inl rfl, Or.inl rfl, Or.inl rfl, Or.inl rfl, Or.inl rfl, Or.inl rfl, Or.inl rfl, Or.inl rfl, Or.inl rfl, Or.inl rfl, Or.inl rfl, Or.inl rfl, Or.inl rfl, Or.inl rfl, trivial⟩ ?_
            exact ih _ _ (bi_mono b10 (by omega)) (by omega) (by omega) (by omega)
          · refine ⟨63, by rw [c49]; rfl, rfl, ?_⟩
            show Bt E 116 164 _ _ _ _
            refine B_aloadn rfl my_116 rfl ?_
            refine B_iconst rfl my_116 (by decide) ?_
            refine B_iload rfl my_116 rfl ?_
            refine B_bipush rfl my_116 (n := 30) rfl ?_
            refine B_cS rfl cw_116_114_0 (as := [wi (w32 (x2 + (5 * r))), wi 30]) (rest := [wi 1, wr 2]) rfl (Nat.le_of_ble_eq_true rfl) (g_below hE (by decide)) (fun vo s9 hq => ?_)
            obtain ⟨x61, rfl, hz62, rfl⟩ := hq
            show Bt E 116 173 [wr 0, wr 2, wi a, wi b, wi r, wi c, wi (w32 (x2 + (5 * r))), wx, wx, wx, wx, wx, wx, wx, wx, wx, wx, wx, wx, wx, wx] [wi x61, wi 1, wr 2] u8 _
            refine B_top (fun r63 => ?_)
            refine B_iadd rfl my_116 (by omega) (by omega) ?_
            refine B_iconst rfl my_116 (by decide) ?_
            refine B_iload rfl my_116 rfl ?_
            refine B_iconst rfl my_116 (by decide) ?_
            refine B_ishr rfl my_116 ?_
            refine B_bipush rfl my_116 (n := 12) rfl ?_
            refine B_cS rfl cw_116_114_0 (as := [wi (wshr (w32 (x2 + (5 * r))) 4), wi 12]) (rest := [wi 1, wi (1 + x61), wr 2]) rfl (Nat.le_of_ble_eq_true rfl) (g_below hE (by decide)) (fun vo s9 hq => ?_)
            obtain ⟨x64, rfl, hz65, rfl⟩ := hq
            show Bt E 116 184 [wr 0, wr 2, wi a, wi b, wi r, wi c, wi (w32 (x2 + (5 * r))), wx, wx, wx, wx, wx, wx, wx, wx, wx, wx, wx, wx, wx, wx] [wi x64, wi 1, wi (1 + x61), wr 2] u8 _
            refine B_top (fun r66 => ?_)
            refine B_iadd rfl my_116 (by omega) (by omega) ?_
            refine B_sipush rfl my_116 (n := 1990) rfl ?_
            refine B_iload rfl my_116 rfl ?_
            refine B_iconst rfl my_116 (by decide) ?_
            refine B_ishr rfl my_116 ?_
            refine B_bipush rfl my_116 (n := 30) rfl ?_
            refine B_cS rfl cw_116_114_0 (as := [wi (wshr (w32 (x2 + (5 * r))) 1), wi 30]) (rest := [wi 1990, wi (1 + x64), wi (1 + x61), wr 2]) rfl (Nat.le_of_ble_eq_true rfl) (g_below hE (by decide)) (fun vo s9 hq => ?_)
            obtain ⟨x67, rfl, hz68, rfl⟩ := hq
            show Bt E 116 197 [wr 0, wr 2, wi a, wi b, wi r, wi c, wi (w32 (x2 + (5 * r))), wx, wx, wx, wx, wx, wx, wx, wx, wx, wx, wx, wx, wx, wx] [wi x67, wi 1990, wi (1 + x64), wi (1 + x61), wr 2] u8 _
            refine B_top (fun r69 => ?_)
            refine B_iadd rfl my_116 (by omega) (by omega) ?_
            refine B_bipush rfl my_116 (n := 9) rfl ?_
            refine B_cV hE.1 rfl rfl cw_116_80 (as := [wi (1 + x61), wi (1 + x64), wi (1990 + x67), wi 9]) (rest := []) rfl (Nat.le_of_ble_eq_true rfl) (g_three hE b8.1 b8.2.1 (by omega) (by omega) (by omega) (by omega) (by omega) (by have := b8.2.2.1; omega)) (fun vo u11 hq => ?_)
            obtain ⟨v11, d11, rfl, hd11, hq11, hf11⟩ := hq
            have b11 := bi_step (k := 10) b8 hq11 hf11 (hd11.2 (by omega) (by omega) (by omega))
            show Bt E 116 203 [wr 0, wr 2, wi a, wi b, wi r, wi c, wi (w32 (x2 + (5 * r))), wx, wx, wx, wx, wx, wx, wx, wx, wx, wx, wx, wx, wx, wx] [wi v11] u11 _
            refine B_top (fun r70 => ?_)
            refine B_pop rfl my_116 (Nat.le_of_ble_eq_true rfl) ?_
            refine B_goto rfl my_116 rfl (tgt := 274) rfl ?_
            refine B_iinc rfl my_116 (by decide) rfl rfl rfl (by omega) (by omega) (show _ = [wr 0, wr 2, wi a, wi b, wi r, wi (c + 1), wi (w32 (x2 + (5 * r))), wx, wx, wx, wx, wx, wx, wx, wx, wx, wx, wx, wx, wx, wx] from rfl) ?_
            refine B_goto rfl my_116 rfl (tgt := 52) rfl ?_
            refine B_loc (l' := [wr 0, wr 2, wi a, wi b, wi r, wi (c + 1), wx, wx, wx, wx, wx, wx, wx, wx, wx, wx, wx, wx, wx, wx, wx]) ⟨Or.inl rfl, Or.inl rfl, Or.inl rfl, Or.inl rfl, Or.inl rfl, Or.inl rfl, Or.inr rfl, Or.inl rfl, Or.inl rfl, Or.inl rfl, Or.inl rfl, Or.inl rfl, Or.inl rfl, Or.inl rfl, Or.inl rfl, Or.inl rfl, Or.inl rfl, Or.inl rfl, Or.inl rfl, Or.inl rfl, Or.inl rfl, trivial⟩ ?_
            exact ih _ _ (bi_mono b11 (by omega)) (by omega) (by omega) (by omega)
          · refine ⟨106, by rw [c49]; rfl, rfl, ?_⟩
            show Bt E 116 207 _ _ _ _
            refine B_aloadn rfl my_116 rfl ?_
            refine B_iload rfl my_116 rfl ?_
            refine B_iconst rfl my_116 (by decide) ?_
            refine B_ishr rfl my_116 ?_
            refine B_bipush rfl my_116 (n := 90) rfl ?_
            refine B_cS rfl cw_116_114_0 (as := [wi (wshr (w32 (x2 + (5 * r))) 4), wi 90]) (rest := [wr 2]) rfl (Nat.le_of_ble_eq_true rfl) (g_below hE (by decide)) (fun vo s9 hq => ?_)
            obtain ⟨x71, rfl, hz72, rfl⟩ := hq
            show Bt E 116 217 [wr 0, wr 2, wi a, wi b, wi r, wi c, wi (w32 (x2 + (5 * r))), wx, wx, wx, wx, wx, wx, wx, wx, wx, wx, wx, wx, wx, wx] [wi x71, wr 2] u8 _
            refine B_top (fun r73 => ?_)
            refine B_cV hE.1 rfl rfl cw_116_78 (as := [wi x71]) (rest := []) rfl (Nat.le_of_ble_eq_true rfl) (g_digits hE b8.1 b8.2.1 (by omega) (by have := b8.2.2.1; omega)) (fun vo u12 hq => ?_)
            obtain ⟨v12, d12, rfl, hd12, hq12, hf12⟩ := hq
            have b12 := bi_step (k := 2) b8 hq12 hf12 (hd12.2 (by omega))
            show Bt E 116 220 [wr 0, wr 2, wi a, wi b, wi r, wi c, wi (w32 (x2 + (5 * r))), wx, wx, wx, wx, wx, wx, wx, wx, wx, wx, wx, wx, wx, wx] [wi v12] u12 _
            refine B_top (fun r74 => ?_)
            refine B_pop rfl my_116 (Nat.le_of_ble_eq_true rfl) ?_
            refine B_aloadn rfl my_116 rfl ?_
            refine B_bipush rfl my_116 (n := 7) rfl ?_
            refine B_cV hE.1 rfl rfl cw_116_77 (as := [wi 7]) (rest := []) rfl (Nat.le_of_ble_eq_true rfl) (g_sign hE b12.1 b12.2.1 (by omega) (by omega) (by have := b12.2.2.1; omega)) (fun vo u13 hq => ?_)
            obtain ⟨v13, d13, rfl, hd13, hq13, hf13⟩ := hq
            have b13 := bi_step (k := 1) b12 hq13 hf13 (by omega)
            show Bt E 116 227 [wr 0, wr 2, wi a, wi b, wi r, wi c, wi (w32 (x2 + (5 * r))), wx, wx, wx, wx, wx, wx, wx, wx, wx, wx, wx, wx, wx, wx] [wi v13] u13 _
            refine B_top (fun r75 => ?_)
            refine B_pop rfl my_116 (Nat.le_of_ble_eq_true rfl) ?_
            refine B_aloadn rfl my_116 rfl ?_
            refine B_iload rfl my_116 rfl ?_
            refine B_iconst rfl my_116 (by decide) ?_
            refine B_ishr rfl my_116 ?_
            refine B_bipush rfl my_116 (n := 99) rfl ?_
            refine B_cS rfl cw_116_114_0 (as := [wi (wshr (w32 (x2 + (5 * r))) 3), wi 99]) (rest := [wr 2]) rfl (Nat.le_of_ble_eq_true rfl) (g_below hE (by decide)) (fun vo s9 hq => ?_)
            obtain ⟨x76, rfl, hz77, rfl⟩ := hq
            show Bt E 116 238 [wr 0, wr 2, wi a, wi b, wi r, wi c, wi (w32 (x2 + (5 * r))), wx, wx, wx, wx, wx, wx, wx, wx, wx, wx, wx, wx, wx, wx] [wi x76, wr 2] u13 _
            refine B_top (fun r78 => ?_)
            refine B_cV hE.1 rfl rfl cw_116_78 (as := [wi x76]) (rest := []) rfl (Nat.le_of_ble_eq_true rfl) (g_digits hE b13.1 b13.2.1 (by omega) (by have := b13.2.2.1; omega)) (fun vo u14 hq => ?_)
            obtain ⟨v14, d14, rfl, hd14, hq14, hf14⟩ := hq
            have b14 := bi_step (k := 2) b13 hq14 hf14 (hd14.2 (by omega))
            show Bt E 116 241 [wr 0, wr 2, wi a, wi b, wi r, wi c, wi (w32 (x2 + (5 * r))), wx, wx, wx, wx, wx, wx, wx, wx, wx, wx, wx, wx, wx, wx] [wi v14] u14 _
            refine B_top (fun r79 => ?_)
            refine B_pop rfl my_116 (Nat.le_of_ble_eq_true rfl) ?_
            refine B_goto rfl my_116 rfl (tgt := 274) rfl ?_
            refine B_iinc rfl my_116 (by decide) rfl rfl rfl (by omega) (by omega) (show _ = [wr 0, wr 2, wi a, wi b, wi r, wi (c + 1), wi (w32 (x2 + (5 * r))), wx, wx, wx, wx, wx, wx, wx, wx, wx, wx, wx, wx, wx, wx] from rfl) ?_
            refine B_goto rfl my_116 rfl (tgt := 52) rfl ?_
            refine B_loc (l' := [wr 0, wr 2, wi a, wi b, wi r, wi (c + 1), wx, wx, wx, wx, wx, wx, wx, wx, wx, wx, wx, wx, wx, wx, wx]) ⟨Or.inl rfl, Or.inl rfl, Or.inl rfl, Or.inl rfl, Or.inl rfl, Or.inl rfl, Or.inr rfl, Or.inl rfl, Or.inl rfl, Or.inl rfl, Or.inl rfl, Or.inl rfl, Or.inl rfl, Or.inl rfl, Or.inl rfl, Or.inl rfl, Or.inl rfl, Or.inl rfl, Or.inl rfl, Or.inl rfl, Or.inl rfl, trivial⟩ ?_
            exact ih _ _ (bi_mono b14 (by omega)) (by omega) (by omega) (by omega)
          · refine ⟨144, by rw [c49]; rfl, rfl, ?_⟩
            show Bt E 116 245 _ _ _ _
            refine B_aloadn rfl my_116 rfl ?_
            refine B_iload rfl my_116 rfl ?_
            refine B_bipush rfl my_116 (n := 46) rfl ?_
            refine B_cS rfl cw_116_114_0 (as := [wi (w32 (x2 + (5 * r))), wi 46]) (rest := [wr 2]) rfl (Nat.le_of_ble_eq_true rfl) (g_below hE (by decide)) (fun vo s9 hq => ?_)
            obtain ⟨x80, rfl, hz81, rfl⟩ := hq
            show Bt E 116 253 [wr 0, wr 2, wi a, wi b, wi r, wi c, wi (w32 (x2 + (5 * r))), wx, wx, wx, wx, wx, wx, wx, wx, wx, wx, wx, wx, wx, wx] [wi x80, wr 2] u8 _
            refine B_top (fun r82 => ?_)
            refine B_cV hE.1 rfl rfl cw_116_77 (as := [wi x80]) (rest := []) rfl (Nat.le_of_ble_eq_true rfl) (g_sign hE b8.1 b8.2.1 (by omega) (by omega) (by have := b8.2.2.1; omega)) (fun vo u15 hq => ?_)
            obtain ⟨v15, d15, rfl, hd15, hq15, hf15⟩ := hq
            have b15 := bi_step (k := 1) b8 hq15 hf15 (by omega)
            show Bt E 116 256 [wr 0, wr 2, wi a, wi b, wi r, wi c, wi (w32 (x2 + (5 * r))), wx, wx, wx, wx, wx, wx, wx, wx, wx, wx, wx, wx, wx, wx] [wi v15] u15 _
            refine B_top (fun r83 => ?_)
            refine B_pop rfl my_116 (Nat.le_of_ble_eq_true rfl) ?_
            refine B_goto rfl my_116 rfl (tgt := 274) rfl ?_
            refine B_iinc rfl my_116 (by decide) rfl rfl rfl (by omega) (by omega) (show _ = [wr 0, wr 2, wi a, wi b, wi r, wi (c + 1), wi (w32 (x2 + (5 * r))), wx, wx, wx, wx, wx, wx, wx, wx, wx, wx, wx, wx, wx, wx] from rfl) ?_
            refine B_goto rfl my_116 rfl (tgt := 52) rfl ?_
            refine B_loc (l' := [wr 0, wr 2, wi a, wi b, wi r, wi (c + 1), wx, wx, wx, wx, wx, wx, wx, wx, wx, wx, wx, wx, wx, wx, wx]) ⟨Or.inl rfl, Or.inl rfl, Or.inl rfl, Or.inl rfl, Or.inl rfl, Or.inl rfl, Or.inr rfl, Or.inl rfl, Or.inl rfl, Or.inl rfl, Or.inl rfl, Or.inl rfl, Or.inl rfl, Or.inl rfl, Or.inl rfl, Or.inl rfl, Or.inl rfl, Or.inl rfl, Or.inl rfl, Or.inl rfl, Or.inl rfl, trivial⟩ ?_
            exact ih _ _ (bi_mono b15 (by omega)) (by omega) (by omega) (by omega)
set_option maxRecDepth 100000 in
theorem t_rowend {E : mE} {σ : wSt} (hE : wE E) {L : Nat} {xs : Nat → Int32} (hX : wSc E L xs) (hL : L < 2147483648) {a b : Int} (ha : 0 ≤ a ∧ a < 4) (hb : 1 ≤ b ∧ b ≤ 4) {r : Int} (hr : 0 ≤ r ∧ r ≤ 6) {P : Option wV → wSt → Prop} {s : wSt} (h1 : BIv σ s (45 * r + 44)) (kont : ∀ s, BIv σ s (45 * (r + 1)) → Bt E 116 33 [wr 0, wr 2, wi a, wi b, wi (r + 1), wx, wx, wx, wx, wx, wx, wx, wx, wx, wx, wx, wx, wx, wx, wx, wx] [] s P) : Bt E 116 280 [wr 0, wr 2, wi a, wi b, wi r, wx, wx, wx, wx, wx, wx, wx, wx, wx, wx, wx, wx, wx, wx, wx, wx] [] s P := by
  refine B_rng 2 rfl (fun ha2 => ?_)
  refine B_rng 3 rfl (fun ha3 => ?_)
  refine B_rng 4 rfl (fun ha4 => ?_)
  refine B_aloadn rfl my_116 rfl ?_
  refine B_iconst rfl my_116 (by decide) ?_
  refine B_cV hE.1 rfl rfl cw_116_77 (as := [wi 5]) (rest := []) rfl (Nat.le_of_ble_eq_true rfl) (g_sign hE h1.1 h1.2.1 (by omega) (by omega) (by have := h1.2.2.1; omega)) (fun vo u1 hq => ?_)
  obtain ⟨v1, d1, rfl, hd1, hq1, hf1⟩ := hq
  have b1 := bi_step (k := 1) h1 hq1 hf1 (by omega)
  show Bt E 116 285 [wr 0, wr 2, wi a, wi b, wi r, wx, wx, wx, wx, wx, wx, wx, wx, wx, wx, wx, wx, wx, wx, wx, wx] [wi v1] u1 _
  refine B_top (fun r1 => ?_)
  refine B_pop rfl my_116 (Nat.le_of_ble_eq_true rfl) ?_
  refine B_iinc rfl my_116 (by decide) rfl rfl rfl (by omega) (by omega) (show _ = [wr 0, wr 2, wi a, wi b, wi (r + 1), wx, wx, wx, wx, wx, wx, wx, wx, wx, wx, wx, wx, wx, wx, wx, wx] from rfl) ?_
  refine B_goto rfl my_116 rfl (tgt := 33) rfl ?_
  exact kont _ (bi_mono b1 (by omega))
set_option maxRecDepth 100000 in
theorem l_rows {E : mE} {σ : wSt} (hE : wE E) {L : Nat} {xs : Nat → Int32} (hX : wSc E L xs) (hL : L < 2147483648) {a b : Int} (ha : 0 ≤ a ∧ a < 4) (hb : 1 ≤ b ∧ b ≤ 4) {P : Option wV → wSt → Prop} (kont : ∀ s n, BIv σ s n → Bt E 116 292 [wr 0, wr 2, wx, wx, wx, wx, wx, wx, wx, wx, wx, wx, wx, wx, wx, wx, wx, wx, wx, wx, wx] [] s P) : ∀ (k : Nat) (s : wSt) (r : Int), BIv σ s (45 * r) → 0 ≤ r → (7 - r).toNat ≤ k → Bt E 116 33 [wr 0, wr 2, wi a, wi b, wi r, wx, wx, wx, wx, wx, wx, wx, wx, wx, wx, wx, wx, wx, wx, wx, wx] [] s P := by
  intro k
  induction k with
  | zero =>
    intro s r h1 h2 hm
    refine B_rng 2 rfl (fun ha2 => ?_)
    refine B_rng 3 rfl (fun ha3 => ?_)
    refine B_rng 4 rfl (fun ha4 => ?_)
    refine B_iload rfl my_116 rfl ?_
    refine B_iconst rfl my_116 (by decide) ?_
    refine B_aloadn rfl my_116 rfl ?_
    refine B_iconst rfl my_116 (by decide) ?_
    refine B_cS rfl cw_116_115_0 (as := [wr 0, wi 2]) (rest := [wi 3, wi r]) rfl (Nat.le_of_ble_eq_true rfl) (g_cell hE hX hL (by omega) (by omega)) (fun vo s9 hq => ?_)
    obtain ⟨x1, rfl, hz2, rfl⟩ := hq
    show Bt E 116 41 [wr 0, wr 2, wi a, wi b, wi r, wx, wx, wx, wx, wx, wx, wx, wx, wx, wx, wx, wx, wx, wx, wx, wx] [wi x1, wi 3, wi r] s _
    refine B_top (fun r3 => ?_)
    refine B_iconst rfl my_116 (by decide) ?_
    refine B_cS rfl cw_116_114_0 (as := [wi x1, wi 5]) (rest := [wi 3, wi r]) rfl (Nat.le_of_ble_eq_true rfl) (g_below hE (by decide)) (fun vo s9 hq => ?_)
    obtain ⟨x4, rfl, hz5, rfl⟩ := hq
    show Bt E 116 45 [wr 0, wr 2, wi a, wi b, wi r, wx, wx, wx, wx, wx, wx, wx, wx, wx, wx, wx, wx, wx, wx, wx, wx] [wi x4, wi 3, wi r] s _
    refine B_top (fun r6 => ?_)
    refine B_iadd rfl my_116 (by omega) (by omega) ?_
    refine B_ic_ge rfl my_116 rfl (tgt := 292) (nx := 49) rfl rfl (fun c7 => ?_) (fun c7 => ?_)
    · refine B_loc (l' := [wr 0, wr 2, wx, wx, wx, wx, wx, wx, wx, wx, wx, wx, wx, wx, wx, wx, wx, wx, wx, wx, wx]) ⟨Or.inl rfl, Or.inl rfl, Or.inr rfl, Or.inr rfl, Or.inr rfl, Or.inl rfl, Or.inl rfl, Or.inl rfl, Or.inl rfl, Or.inl rfl, Or.inl rfl, Or.inl rfl, Or.inl rfl, Or.inl rfl, Or.inl rfl, Or.inl rfl, Or.inl rfl, Or.inl rfl, Or.inl rfl, Or.inl rfl, Or.inl rfl, trivial⟩ ?_
      exact kont _ _ h1
    · exact absurd hm (by omega)
  | succ k ih =>
    intro s r h1 h2 hm
    refine B_rng 2 rfl (fun ha2 => ?_)
    refine B_rng 3 rfl (fun ha3 => ?_)
    refine B_rng 4 rfl (fun ha4 => ?_)
    refine B_iload rfl my_116 rfl ?_
    refine B_iconst rfl my_116 (by decide) ?_
    refine B_aloadn rfl my_116 rfl ?_
    refine B_iconst rfl my_116 (by decide) ?_
    refine B_cS rfl cw_116_115_0 (as := [wr 0, wi 2]) (rest := [wi 3, wi r]) rfl (Nat.le_of_ble_eq_true rfl) (g_cell hE hX hL (by omega) (by omega)) (fun vo s9 hq => ?_)
    obtain ⟨x1, rfl, hz2, rfl⟩ := hq
    show Bt E 116 41 [wr 0, wr 2, wi a, wi b, wi r, wx, wx, wx, wx, wx, wx, wx, wx, wx, wx, wx, wx, wx, wx, wx, wx] [wi x1, wi 3, wi r] s _
    refine B_top (fun r3 => ?_)
    refine B_iconst rfl my_116 (by decide) ?_
    refine B_cS rfl cw_116_114_0 (as := [wi x1, wi 5]) (rest := [wi 3, wi r]) rfl (Nat.le_of_ble_eq_true rfl) (g_below hE (by decide)) (fun vo s9 hq => ?_)
    obtain ⟨x4, rfl, hz5, rfl⟩ := hq
    show Bt E 116 45 [wr 0, wr 2, wi a, wi b, wi r, wx, wx, wx, wx, wx, wx, wx, wx, wx, wx, wx, wx, wx, wx, wx, wx] [wi x4, wi 3, wi r] s _
    refine B_top (fun r6 => ?_)
    refine B_iadd rfl my_116 (by omega) (by omega) ?_
    refine B_ic_ge rfl my_116 rfl (tgt := 292) (nx := 49) rfl rfl (fun c7 => ?_) (fun c7 => ?_)
    · refine B_loc (l' := [wr 0, wr 2, wx, wx, wx, wx, wx, wx, wx, wx, wx, wx, wx, wx, wx, wx, wx, wx, wx, wx, wx]) ⟨Or.inl rfl, Or.inl rfl, Or.inr rfl, Or.inr rfl, Or.inr rfl, Or.inl rfl, Or.inl rfl, Or.inl rfl, Or.inl rfl, Or.inl rfl, Or.inl rfl, Or.inl rfl, Or.inl rfl, Or.inl rfl, Or.inl rfl, Or.inl rfl, Or.inl rfl, Or.inl rfl, Or.inl rfl, Or.inl rfl, Or.inl rfl, trivial⟩ ?_
      exact kont _ _ h1
    · refine B_iconst rfl my_116 (by decide) ?_
      refine B_istore rfl my_116 (by decide) rfl (show _ = [wr 0, wr 2, wi a, wi b, wi r, wi 0, wx, wx, wx, wx, wx, wx, wx, wx, wx, wx, wx, wx, wx, wx, wx] from rfl) ?_
      exact l_cells hE hX hL ha hb (by omega) (fun s9 hs9 => t_rowend hE hX hL ha hb (by omega) hs9 (fun s8 hs8 => ih _ _ hs8 (by omega) (by omega))) _ s 0 (bi_mono h1 (by omega)) (by omega) (by omega) (Nat.le_refl _)
set_option maxRecDepth 100000 in
theorem t_share {E : mE} (hE : wE E) {L : Nat} {xs : Nat → Int32} (hX : wSc E L xs) (hL : L < 2147483648) {P : Option wV → wSt → Prop} (kont : ∀ s, LIv s → Bt E 116 403 [wr 0, wr 2, wx, wx, wx, wx, wx, wx, wx, wx, wx, wx, wx, wx, wx, wx, wx, wx, wx, wx, wx] [] s P) {s : wSt} (h1 : LIv s) : Bt E 116 384 [wr 0, wr 2, wx, wx, wx, wx, wx, wx, wx, wx, wx, wx, wx, wx, wx, wx, wx, wx, wx, wx, wx] [] s P := by
  refine B_aloadn rfl my_116 rfl ?_
  refine B_bipush rfl my_116 (n := 20) rfl ?_
  refine B_aloadn rfl my_116 rfl ?_
  refine B_bipush rfl my_116 (n := 8) rfl ?_
  refine B_cS rfl cw_116_115_0 (as := [wr 0, wi 8]) (rest := [wi 20, wr 2]) rfl (Nat.le_of_ble_eq_true rfl) (g_cell hE hX hL (by omega) (by omega)) (fun vo s9 hq => ?_)
  obtain ⟨x1, rfl, hz2, rfl⟩ := hq
  show Bt E 116 393 [wr 0, wr 2, wx, wx, wx, wx, wx, wx, wx, wx, wx, wx, wx, wx, wx, wx, wx, wx, wx, wx, wx] [wi x1, wi 20, wr 2] s _
  refine B_top (fun r3 => ?_)
  refine B_bipush rfl my_116 (n := 81) rfl ?_
  refine B_cS rfl cw_116_114_0 (as := [wi x1, wi 81]) (rest := [wi 20, wr 2]) rfl (Nat.le_of_ble_eq_true rfl) (g_below hE (by decide)) (fun vo s9 hq => ?_)
  obtain ⟨x4, rfl, hz5, rfl⟩ := hq
  show Bt E 116 398 [wr 0, wr 2, wx, wx, wx, wx, wx, wx, wx, wx, wx, wx, wx, wx, wx, wx, wx, wx, wx, wx, wx] [wi x4, wi 20, wr 2] s _
  refine B_top (fun r6 => ?_)
  refine B_iadd rfl my_116 (by omega) (by omega) ?_
  refine B_cV hE.1 rfl rfl cw_116_82 (as := [wi (20 + x4)]) (rest := []) rfl (Nat.le_of_ble_eq_true rfl) (g_setShare hE (h1.1 _ _) (by omega) (by omega)) (fun vo s9 hq => ?_)
  obtain ⟨rfl, rfl⟩ := hq
  show Bt E 116 402 [wr 0, wr 2, wx, wx, wx, wx, wx, wx, wx, wx, wx, wx, wx, wx, wx, wx, wx, wx, wx, wx, wx] [wi (gv s 6 2)] (us (wup s 6 2 (20 + x4))) _
  refine B_top (fun r7 => ?_)
  refine B_pop rfl my_116 (Nat.le_of_ble_eq_true rfl) ?_
  exact kont _ (li_share h1)
set_option maxRecDepth 100000 in
theorem l_setRules {E : mE} (hE : wE E) {L : Nat} {xs : Nat → Int32} (hX : wSc E L xs) (hL : L < 2147483648) {P : Option wV → wSt → Prop} (kont : ∀ s, LIv s → Bt E 116 403 [wr 0, wr 2, wx, wx, wx, wx, wx, wx, wx, wx, wx, wx, wx, wx, wx, wx, wx, wx, wx, wx, wx] [] s P) : ∀ (k : Nat) (s : wSt) (i : Int), LIv s → 0 ≤ i → i ≤ 4 → (4 - i).toNat ≤ k → Bt E 116 352 [wr 0, wr 2, wx, wx, wi i, wx, wx, wx, wx, wx, wx, wx, wx, wx, wx, wx, wx, wx, wx, wx, wx] [] s P := by
  intro k
  induction k with
  | zero =>
    intro s i h1 h2 h3 hm
    refine B_rng 4 rfl (fun ha4 => ?_)
    refine B_iload rfl my_116 rfl ?_
    refine B_iconst rfl my_116 (by decide) ?_
    refine B_ic_ge rfl my_116 rfl (tgt := 384) (nx := 358) rfl rfl (fun c1 => ?_) (fun c1 => ?_)
    · refine B_loc (l' := [wr 0, wr 2, wx, wx, wx, wx, wx, wx, wx, wx, wx, wx, wx, wx, wx, wx, wx, wx, wx, wx, wx]) ⟨Or.inl rfl, Or.inl rfl, Or.inl rfl, Or.inl rfl, Or.inr rfl, Or.inl rfl, Or.inl rfl, Or.inl rfl, Or.inl rfl, Or.inl rfl, Or.inl rfl, Or.inl rfl, Or.inl rfl, Or.inl rfl, Or.inl rfl, Or.inl rfl, Or.inl rfl, Or.inl rfl, Or.inl rfl, Or.inl rfl, Or.inl rfl, trivial⟩ ?_
      exact t_share hE hX hL kont h1
    · exact absurd hm (by omega)
  | succ k ih =>
    intro s i h1 h2 h3 hm
    refine B_rng 4 rfl (fun ha4 => ?_)
    refine B_iload rfl my_116 rfl ?_
    refine B_iconst rfl my_116 (by decide) ?_
    refine B_ic_ge rfl my_116 rfl (tgt := 384) (nx := 358) rfl rfl (fun c1 => ?_) (fun c1 => ?_)
    · refine B_loc (l' := [wr 0, wr 2, wx, wx, wx, wx, wx, wx, wx, wx, wx, wx, wx, wx, wx, wx, wx, wx, wx, wx, wx]) ⟨Or.inl rfl, Or.inl rfl, Or.inl rfl, Or.inl rfl, Or.inr rfl, Or.inl rfl, Or.inl rfl, Or.inl rfl, Or.inl rfl, Or.inl rfl, Or.inl rfl, Or.inl rfl, Or.inl rfl, Or.inl rfl, Or.inl rfl, Or.inl rfl, Or.inl rfl, Or.inl rfl, Or.inl rfl, Or.inl rfl, Or.inl rfl, trivial⟩ ?_
      exact t_share hE hX hL kont h1
    · refine B_aloadn rfl my_116 rfl ?_
      refine B_iload rfl my_116 rfl ?_
      refine B_aloadn rfl my_116 rfl ?_
      refine B_bipush rfl my_116 (n := 12) rfl ?_
      refine B_iload rfl my_116 rfl ?_
      refine B_iadd rfl my_116 (by omega) (by omega) ?_
      refine B_cS rfl cw_116_115_0 (as := [wr 0, wi (12 + i)]) (rest := [wi i, wr 2]) rfl (Nat.le_of_ble_eq_true rfl) (g_cell hE hX hL (by omega) (by omega)) (fun vo s9 hq => ?_)
      obtain ⟨x2, rfl, hz3, rfl⟩ := hq
      show Bt E 116 370 [wr 0, wr 2, wx, wx, wi i, wx, wx, wx, wx, wx, wx, wx, wx, wx, wx, wx, wx, wx, wx, wx, wx] [wi x2, wi i, wr 2] s _
      refine B_top (fun r4 => ?_)
      refine B_iconst rfl my_116 (by decide) ?_
      refine B_cS rfl cw_116_114_0 (as := [wi x2, wi 4]) (rest := [wi i, wr 2]) rfl (Nat.le_of_ble_eq_true rfl) (g_below hE (by decide)) (fun vo s9 hq => ?_)
      obtain ⟨x5, rfl, hz6, rfl⟩ := hq
      show Bt E 116 374 [wr 0, wr 2, wx, wx, wi i, wx, wx, wx, wx, wx, wx, wx, wx, wx, wx, wx, wx, wx, wx, wx, wx] [wi x5, wi i, wr 2] s _
      refine B_top (fun r7 => ?_)
      refine B_cV hE.1 rfl rfl cw_116_83 (as := [wi i, wi x5]) (rest := []) rfl (Nat.le_of_ble_eq_true rfl) (g_setRule hE (kr_of fun _ => h1.1 _ _) (by omega) (by omega) (by omega) (by omega)) (fun vo s9 hq => ?_)
      obtain ⟨rfl, rfl⟩ := hq
      show Bt E 116 377 [wr 0, wr 2, wx, wx, wi i, wx, wx, wx, wx, wx, wx, wx, wx, wx, wx, wx, wx, wx, wx, wx, wx] [wi (rd s 9 20 i)] (us (pt s 9 20 i x5)) _
      refine B_top (fun r8 => ?_)
      refine B_pop rfl my_116 (Nat.le_of_ble_eq_true rfl) ?_
      refine B_iinc rfl my_116 (by decide) rfl rfl rfl (by omega) (by omega) (show _ = [wr 0, wr 2, wx, wx, wi (i + 1), wx, wx, wx, wx, wx, wx, wx, wx, wx, wx, wx, wx, wx, wx, wx, wx] from rfl) ?_
      refine B_goto rfl my_116 rfl (tgt := 352) rfl ?_
      exact ih _ _ (li_rule h1) (by omega) (by omega) (by omega)
set_option maxRecDepth 100000 in
theorem l_tells {E : mE} (hE : wE E) {L : Nat} {xs : Nat → Int32} (hX : wSc E L xs) (hL : L < 2147483648) {P : Option wV → wSt → Prop} (kont : ∀ s, LIv s → Bt E 116 403 [wr 0, wr 2, wx, wx, wx, wx, wx, wx, wx, wx, wx, wx, wx, wx, wx, wx, wx, wx, wx, wx, wx] [] s P) : ∀ (k : Nat) (s : wSt) (i : Int), LIv s → 0 ≤ i → i ≤ 3 → (3 - i).toNat ≤ k → Bt E 116 295 [wr 0, wr 2, wx, wx, wi i, wx, wx, wx, wx, wx, wx, wx, wx, wx, wx, wx, wx, wx, wx, wx, wx] [] s P := by
  intro k
  induction k with
  | zero =>
    intro s i h1 h2 h3 hm
    refine B_rng 4 rfl (fun ha4 => ?_)
    refine B_iload rfl my_116 rfl ?_
    refine B_iconst rfl my_116 (by decide) ?_
    refine B_ic_ge rfl my_116 rfl (tgt := 349) (nx := 301) rfl rfl (fun c1 => ?_) (fun c1 => ?_)
    · refine B_iconst rfl my_116 (by decide) ?_
      refine B_istore rfl my_116 (by decide) rfl (show _ = [wr 0, wr 2, wx, wx, wi 0, wx, wx, wx, wx, wx, wx, wx, wx, wx, wx, wx, wx, wx, wx, wx, wx] from rfl) ?_
      exact l_setRules hE hX hL kont _ s 0 h1 (by omega) (by omega) (Nat.le_refl _)
    · exact absurd hm (by omega)
  | succ k ih =>
    intro s i h1 h2 h3 hm
    refine B_rng 4 rfl (fun ha4 => ?_)
    refine B_iload rfl my_116 rfl ?_
    refine B_iconst rfl my_116 (by decide) ?_
    refine B_ic_ge rfl my_116 rfl (tgt := 349) (nx := 301) rfl rfl (fun c1 => ?_) (fun c1 => ?_)
    · refine B_iconst rfl my_116 (by decide) ?_
      refine B_istore rfl my_116 (by decide) rfl (show _ = [wr 0, wr 2, wx, wx, wi 0, wx, wx, wx, wx, wx, wx, wx, wx, wx, wx, wx, wx, wx, wx, wx, wx] from rfl) ?_
      exact l_setRules hE hX hL kont _ s 0 h1 (by omega) (by omega) (Nat.le_refl _)
    · refine B_aloadn rfl my_116 rfl ?_
      refine B_iload rfl my_116 rfl ?_
      refine B_aloadn rfl my_116 rfl ?_
      refine B_bipush rfl my_116 (n := 9) rfl ?_
      refine B_iload rfl my_116 rfl ?_
      refine B_iadd rfl my_116 (by omega) (by omega) ?_
      refine B_cS rfl cw_116_115_0 (as := [wr 0, wi (9 + i)]) (rest := [wi i, wr 2]) rfl (Nat.le_of_ble_eq_true rfl) (g_cell hE hX hL (by omega) (by omega)) (fun vo s9 hq => ?_)
      obtain ⟨x2, rfl, hz3, rfl⟩ := hq
      show Bt E 116 313 [wr 0, wr 2, wx, wx, wi i, wx, wx, wx, wx, wx, wx, wx, wx, wx, wx, wx, wx, wx, wx, wx, wx] [wi x2, wi i, wr 2] s _
      refine B_top (fun r4 => ?_)
      refine B_iconst rfl my_116 (by decide) ?_
      refine B_cS rfl cw_116_114_0 (as := [wi x2, wi 3]) (rest := [wi i, wr 2]) rfl (Nat.le_of_ble_eq_true rfl) (g_below hE (by decide)) (fun vo s9 hq => ?_)
      obtain ⟨x5, rfl, hz6, rfl⟩ := hq
      show Bt E 116 317 [wr 0, wr 2, wx, wx, wi i, wx, wx, wx, wx, wx, wx, wx, wx, wx, wx, wx, wx, wx, wx, wx, wx] [wi x5, wi i, wr 2] s _
      refine B_top (fun r7 => ?_)
      refine B_if_le rfl my_116 rfl (tgt := 324) (nx := 320) rfl rfl (fun c8 => ?_) (fun c8 => ?_)
      · refine B_aloadn rfl my_116 rfl ?_
        refine B_bipush rfl my_116 (n := 9) rfl ?_
        refine B_iload rfl my_116 rfl ?_
        refine B_iadd rfl my_116 (by omega) (by omega) ?_
        refine B_cS rfl cw_116_115_0 (as := [wr 0, wi (9 + i)]) (rest := [wi i, wr 2]) rfl (Nat.le_of_ble_eq_true rfl) (g_cell hE hX hL (by omega) (by omega)) (fun vo s9 hq => ?_)
        obtain ⟨x9, rfl, hz10, rfl⟩ := hq
        show Bt E 116 333 [wr 0, wr 2, wx, wx, wi i, wx, wx, wx, wx, wx, wx, wx, wx, wx, wx, wx, wx, wx, wx, wx, wx] [wi x9, wi i, wr 2] s _
        refine B_top (fun r11 => ?_)
        refine B_iconst rfl my_116 (by decide) ?_
        refine B_ishr rfl my_116 ?_
        refine B_iconst rfl my_116 (by decide) ?_
        refine B_cS rfl cw_116_114_0 (as := [wi (wshr x9 2), wi 2]) (rest := [wi i, wr 2]) rfl (Nat.le_of_ble_eq_true rfl) (g_below hE (by decide)) (fun vo s9 hq => ?_)
        obtain ⟨x12, rfl, hz13, rfl⟩ := hq
        show Bt E 116 339 [wr 0, wr 2, wx, wx, wi i, wx, wx, wx, wx, wx, wx, wx, wx, wx, wx, wx, wx, wx, wx, wx, wx] [wi x12, wi i, wr 2] s _
        refine B_top (fun r14 => ?_)
        refine B_cV hE.1 rfl rfl cw_116_81 (as := [wi i, wi x12]) (rest := []) rfl (Nat.le_of_ble_eq_true rfl) (g_tell hE (kr_of fun _ => h1.1 _ _) (by omega) (by omega) (by omega) (by omega)) (fun vo s9 hq => ?_)
        obtain ⟨rfl, rfl⟩ := hq
        show Bt E 116 342 [wr 0, wr 2, wx, wx, wi i, wx, wx, wx, wx, wx, wx, wx, wx, wx, wx, wx, wx, wx, wx, wx, wx] [wi (rd s 7 3 i)] (us (pt s 7 3 i x12)) _
        refine B_top (fun r15 => ?_)
        refine B_pop rfl my_116 (Nat.le_of_ble_eq_true rfl) ?_
        refine B_iinc rfl my_116 (by decide) rfl rfl rfl (by omega) (by omega) (show _ = [wr 0, wr 2, wx, wx, wi (i + 1), wx, wx, wx, wx, wx, wx, wx, wx, wx, wx, wx, wx, wx, wx, wx, wx] from rfl) ?_
        refine B_goto rfl my_116 rfl (tgt := 295) rfl ?_
        exact ih _ _ (li_tell h1 (by omega) (by omega)) (by omega) (by omega) (by omega)
      · refine B_iconst rfl my_116 (by decide) ?_
        refine B_goto rfl my_116 rfl (tgt := 339) rfl ?_
        refine B_cV hE.1 rfl rfl cw_116_81 (as := [wi i, wi (-1)]) (rest := []) rfl (Nat.le_of_ble_eq_true rfl) (g_tell hE (kr_of fun _ => h1.1 _ _) (by omega) (by omega) (by omega) (by omega)) (fun vo s9 hq => ?_)
        obtain ⟨rfl, rfl⟩ := hq
        show Bt E 116 342 [wr 0, wr 2, wx, wx, wi i, wx, wx, wx, wx, wx, wx, wx, wx, wx, wx, wx, wx, wx, wx, wx, wx] [wi (rd s 7 3 i)] (us (pt s 7 3 i (-1))) _
        refine B_top (fun r16 => ?_)
        refine B_pop rfl my_116 (Nat.le_of_ble_eq_true rfl) ?_
        refine B_iinc rfl my_116 (by decide) rfl rfl rfl (by omega) (by omega) (show _ = [wr 0, wr 2, wx, wx, wi (i + 1), wx, wx, wx, wx, wx, wx, wx, wx, wx, wx, wx, wx, wx, wx, wx, wx] from rfl) ?_
        refine B_goto rfl my_116 rfl (tgt := 295) rfl ?_
        exact ih _ _ (li_tell h1 (by omega) (by omega)) (by omega) (by omega) (by omega)
set_option maxRecDepth 100000 in
theorem t_told {E : mE} (hE : wE E) {L : Nat} {xs : Nat → Int32} (hX : wSc E L xs) (hL : L < 2147483648) {P : Option wV → wSt → Prop} (kont : ∀ s, LIv s → Bt E 116 403 [wr 0, wr 2, wx, wx, wx, wx, wx, wx, wx, wx, wx, wx, wx, wx, wx, wx, wx, wx, wx, wx, wx] [] s P) {s : wSt} (h1 : LIv s) : Bt E 116 292 [wr 0, wr 2, wx, wx, wx, wx, wx, wx, wx, wx, wx, wx, wx, wx, wx, wx, wx, wx, wx, wx, wx] [] s P := by
  refine B_iconst rfl my_116 (by decide) ?_
  refine B_istore rfl my_116 (by decide) rfl (show _ = [wr 0, wr 2, wx, wx, wi 0, wx, wx, wx, wx, wx, wx, wx, wx, wx, wx, wx, wx, wx, wx, wx, wx] from rfl) ?_
  exact l_tells hE hX hL kont _ s 0 h1 (by omega) (by omega) (Nat.le_refl _)
set_option maxRecDepth 100000 in
theorem law_A {E : mE} {σ : wSt} (hE : wE E) {L : Nat} {xs : Nat → Int32} (hX : wSc E L xs) (hL : L < 2147483648) {P : Option wV → wSt → Prop} (kont : ∀ s, LIv s → Bt E 116 403 [wr 0, wr 2, wx, wx, wx, wx, wx, wx, wx, wx, wx, wx, wx, wx, wx, wx, wx, wx, wx, wx, wx] [] s P) (h0 : LIv σ) (hc : gv σ 3 1 = 0) : Bt E 116 7 [wr 0, wx, wx, wx, wx, wx, wx, wx, wx, wx, wx, wx, wx, wx, wx, wx, wx, wx, wx, wx, wx] [wr 2] σ P := by
  refine B_astoren rfl my_116 (by decide) rfl (show _ = [wr 0, wr 2, wx, wx, wx, wx, wx, wx, wx, wx, wx, wx, wx, wx, wx, wx, wx, wx, wx, wx, wx] from rfl) ?_
  refine B_aloadn rfl my_116 rfl ?_
  refine B_iconst rfl my_116 (by decide) ?_
  refine B_cS rfl cw_116_115_0 (as := [wr 0, wi 0]) (rest := []) rfl (Nat.le_of_ble_eq_true rfl) (g_cell hE hX hL (by omega) (by omega)) (fun vo s9 hq => ?_)
  obtain ⟨x1, rfl, hz2, rfl⟩ := hq
  show Bt E 116 13 [wr 0, wr 2, wx, wx, wx, wx, wx, wx, wx, wx, wx, wx, wx, wx, wx, wx, wx, wx, wx, wx, wx] [wi x1] σ _
  refine B_top (fun r3 => ?_)
  refine B_iconst rfl my_116 (by decide) ?_
  refine B_cS rfl cw_116_114_0 (as := [wi x1, wi 4]) (rest := []) rfl (Nat.le_of_ble_eq_true rfl) (g_below hE (by decide)) (fun vo s9 hq => ?_)
  obtain ⟨x4, rfl, hz5, rfl⟩ := hq
  show Bt E 116 17 [wr 0, wr 2, wx, wx, wx, wx, wx, wx, wx, wx, wx, wx, wx, wx, wx, wx, wx, wx, wx, wx, wx] [wi x4] σ _
  refine B_top (fun r6 => ?_)
  refine B_istoren rfl my_116 (by decide) rfl (show _ = [wr 0, wr 2, wi x4, wx, wx, wx, wx, wx, wx, wx, wx, wx, wx, wx, wx, wx, wx, wx, wx, wx, wx] from rfl) ?_
  refine B_iconst rfl my_116 (by decide) ?_
  refine B_aloadn rfl my_116 rfl ?_
  refine B_iconst rfl my_116 (by decide) ?_
  refine B_cS rfl cw_116_115_0 (as := [wr 0, wi 1]) (rest := [wi 1]) rfl (Nat.le_of_ble_eq_true rfl) (g_cell hE hX hL (by omega) (by omega)) (fun vo s9 hq => ?_)
  obtain ⟨x7, rfl, hz8, rfl⟩ := hq
  show Bt E 116 24 [wr 0, wr 2, wi x4, wx, wx, wx, wx, wx, wx, wx, wx, wx, wx, wx, wx, wx, wx, wx, wx, wx, wx] [wi x7, wi 1] σ _
  refine B_top (fun r9 => ?_)
  refine B_iconst rfl my_116 (by decide) ?_
  refine B_cS rfl cw_116_114_0 (as := [wi x7, wi 4]) (rest := [wi 1]) rfl (Nat.le_of_ble_eq_true rfl) (g_below hE (by decide)) (fun vo s9 hq => ?_)
  obtain ⟨x10, rfl, hz11, rfl⟩ := hq
  show Bt E 116 28 [wr 0, wr 2, wi x4, wx, wx, wx, wx, wx, wx, wx, wx, wx, wx, wx, wx, wx, wx, wx, wx, wx, wx] [wi x10, wi 1] σ _
  refine B_top (fun r12 => ?_)
  refine B_iadd rfl my_116 (by omega) (by omega) ?_
  refine B_istoren rfl my_116 (by decide) rfl (show _ = [wr 0, wr 2, wi x4, wi (1 + x10), wx, wx, wx, wx, wx, wx, wx, wx, wx, wx, wx, wx, wx, wx, wx, wx, wx] from rfl) ?_
  refine B_iconst rfl my_116 (by decide) ?_
  refine B_istore rfl my_116 (by decide) rfl (show _ = [wr 0, wr 2, wi x4, wi (1 + x10), wi 0, wx, wx, wx, wx, wx, wx, wx, wx, wx, wx, wx, wx, wx, wx, wx, wx] from rfl) ?_
  refine l_rows hE hX hL (by omega) (by omega) (fun s n hs => t_told hE hX hL kont (li_off h0 hs.1 hs.2.1 hs.2.2.2.2 hs.2.2.2.1 (by unfold Rt; omega) (fun T hT => ⟨by unfold Rt; omega, by unfold Rt; omega⟩))) _ σ 0 ⟨h0.1, h0.2.1, by omega, Off.rf, h0.2.2.1⟩ (by omega) (Nat.le_refl _)
