/-! ===== the true machine's side: a place of the list is an address ===== -/
def trV (ad : Nat → Nat) (v : Value) : Value := match v with
  | .ref a => .ref (ad a)
  | v => v
def trL (ad : Nat → Nat) (l : mLv) : List (Nat × Value) := l.map (fun q => (q.1, trV ad q.2))
theorem trV_cat (ad : Nat → Nat) (v : Value) : (trV ad v).category = v.category := by cases v <;> rfl
theorem mlv_mem {l : mLv} {i : Nat} {v : Value} (h : mlv l i = some v) : (i, v) ∈ l := by
  induction l with
  | nil => cases h
  | cons q r ih =>
    unfold mlv at h
    split at h
    · rename_i hq
      cases h
      rw [← hq]
      exact List.mem_cons_self
    · exact List.mem_cons_of_mem _ (ih h)
theorem trL_mem {ad : Nat → Nat} {l : mLv} {i : Nat} {v : Value} (h : mlv l i = some v) : (i, trV ad v) ∈ trL ad l := List.mem_map.mpr ⟨(i, v), mlv_mem h, rfl⟩
theorem trL_at {ad : Nat → Nat} {ls : Array Slot} {nL : Nat} {l : mLv} {i : Nat} {v : Value} (h : lv_has ls nL (trL ad l)) (hm : mlv l i = some v) : ls[i]? = some (.val (trV ad v)) := h.2.2 (i, trV ad v) (trL_mem hm)
theorem trL_set1 (ad : Nat → Nat) (l : mLv) (i : Nat) (v : Value) : (i, trV ad v) :: (trL ad l).filter (fun q => !(q.1 == i) && !(q.1 + 1 == i && q.2.category == 2)) = trL ad (mset1 l i v) := by
  simp only [trL, mset1, List.map_cons, List.filter_map]
  congr 2
  apply List.filter_congr
  intro q _
  simp [trV_cat]
theorem trL_set2 (ad : Nat → Nat) (l : mLv) (i : Nat) (v : Value) : (i, trV ad v) :: (trL ad l).filter (fun q => !(q.1 == i) && (!(q.1 == i + 1) && !(q.1 + 1 == i && q.2.category == 2))) = trL ad (mset2 l i v) := by
  simp only [trL, mset2, List.map_cons, List.filter_map]
  congr 2
  apply List.filter_congr
  intro q _
  simp [trV_cat]
theorem mtgt_ok {pc : Nat} {off : Int} (h : mjmp pc off = true) : (pc : Int) + off = ((mtgt pc off : Nat) : Int) := by
  have h1 : 0 ≤ (pc : Int) + off := of_decide_eq_true h
  exact (Int.toNat_of_nonneg h1).symm
def mlen (i : Instr) (n : Nat) : Nat := match i with
  | .bipush _ => 2 | .sipush _ => 3 | .iload _ => 2 | .lload _ => 2 | .aload _ => 2 | .istore _ => 2 | .lstore _ => 2 | .astore _ => 2 | .dload _ => 2 | .dstore _ => 2
  | .iinc _ _ => 3 | .goto _ => 3 | .ifCond _ _ => 3 | .if_icmp _ _ => 3 | .ifnull _ => 3 | .ifnonnull _ => 3 | .if_acmp _ _ => 3
  | .getfield _ => 3 | .putfield _ => 3 | .getstatic _ => 3 | .new _ => 3 | .newarray _ => 2 | .anewarray _ => 3 | .checkcast _ => 3
  | .invokevirtual _ => 3 | .invokespecial _ => 3 | .invokestatic _ => 3 | .ldc _ => 2 | .ldc2_w _ => 3
  | .tableswitch _ _ _ _ => n | .lookupswitch _ _ => n | .invokeinterface _ _ => 5
  | _ => 1
section MP
variable {p : Program} {l : Launch} {e : Env} {R : Room} {s : State} {m : MethodId} {args : Array Value} {below : List Frame} {meth : Method} {c : Code} {H : Heap} {locs : List Loc} {cells slots : Nat} {Q : State → Prop}
set_option maxHeartbeats 4000000 in
theorem sd_pure {cc : ByteArray} (hx : p.tables.exec = Jvm.exec) (hb : c.code = cc) {ad : Nat → Nat} {nL : Nat} {i : mIns} {lv lv' : mLv} {st st' : List Value} {pc' : Nat} {ls : Array Slot} (hp : mpure nL i lv st = some (pc', lv', st')) (hd : decode cc i.1 = .ok (i.2.1, mlen i.2.1 i.2.2.1)) (hl : lv_has ls nL (trL ad lv))
    (kk : ∀ ls' : Array Slot, lv_has ls' nL (trL ad lv') → W p l e R s m args below meth c H locs cells slots Q (F0 m pc' ls' (st'.map (trV ad)))) : W p l e R s m args below meth c H locs cells slots Q (F0 m i.1 ls (st.map (trV ad))) := by
  obtain ⟨pc, i, n, a, b, d⟩ := i
  cases i
  case iconst n =>
    simp only [mpure] at hp; cases hp; exact lv_iconst hx hb hd rfl (kk _ hl)
  case bipush n =>
    simp only [mpure] at hp; cases hp; exact lv_bipush hx hb hd rfl (kk _ hl)
  case sipush n =>
    simp only [mpure] at hp; cases hp; exact lv_sipush hx hb hd rfl (kk _ hl)
  case lconst n =>
    simp only [mpure] at hp; cases hp; exact lv_lconst hx hb hd rfl (kk _ hl)
  case dconst n =>
    simp only [mpure] at hp; split at hp
    · rename_i h0; cases hp
      have h1 : n = 0 := Fin.ext h0
      subst h1
      exact lv_dconst0 hx hb hd (kk _ hl)
    · cases hp
  case iload_n k =>
    simp only [mpure] at hp; split at hp
    · rename_i h0; cases hp; exact lv_iload_n hx hb hd rfl (trL_at hl h0) (kk _ hl)
    · cases hp
  case iload k =>
    simp only [mpure] at hp; split at hp
    · rename_i h0; cases hp; exact lv_iload hx hb hd (trL_at hl h0) (kk _ hl)
    · cases hp
  case lload_n k =>
    simp only [mpure] at hp; split at hp
    · rename_i h0; cases hp; exact lv_lload_n hx hb hd rfl (trL_at hl h0) (kk _ hl)
    · cases hp
  case lload k =>
    simp only [mpure] at hp; split at hp
    · rename_i h0; cases hp; exact lv_lload hx hb hd (trL_at hl h0) (kk _ hl)
    · cases hp
  case aload_n k =>
    simp only [mpure] at hp; split at hp
    · rename_i h0; cases hp; exact lv_aload_n hx hb hd rfl (trL_at hl h0) (kk _ hl)
    · cases hp
  case aload k =>
    simp only [mpure] at hp; split at hp
    · rename_i h0; cases hp; exact lv_aload hx hb hd (trL_at hl h0) (kk _ hl)
    · cases hp
  case istore_n k =>
    simp only [mpure] at hp; split at hp
    · split at hp
      · rename_i h0; cases hp; exact lv_istore_n hx hb hd rfl hl h0 (trL_set1 ad lv _ (.int _)) kk
      · cases hp
    · cases hp
  case istore k =>
    simp only [mpure] at hp; split at hp
    · split at hp
      · rename_i h0; cases hp; exact lv_istore hx hb hd hl h0 (trL_set1 ad lv _ (.int _)) kk
      · cases hp
    · cases hp
  case lstore_n k =>
    simp only [mpure] at hp; split at hp
    · split at hp
      · rename_i h0; cases hp; exact lv_lstore_n hx hb hd rfl hl h0 (trL_set2 ad lv _ (.long _)) kk
      · cases hp
    · cases hp
  case lstore k =>
    simp only [mpure] at hp; split at hp
    · split at hp
      · rename_i h0; cases hp; exact lv_lstore hx hb hd hl h0 (trL_set2 ad lv _ (.long _)) kk
      · cases hp
    · cases hp
  case astore_n k =>
    simp only [mpure] at hp; split at hp
    · split at hp
      · rename_i h0; cases hp; exact lv_astore_n hx hb hd rfl hl h0 (trL_set1 ad lv _ (.ref _)) kk
      · cases hp
    · cases hp
  case astore k =>
    simp only [mpure] at hp; split at hp
    · split at hp
      · rename_i h0; cases hp; exact lv_astore hx hb hd hl h0 (trL_set1 ad lv _ (.ref _)) kk
      · cases hp
    · cases hp
  case iinc k n =>
    simp only [mpure] at hp; split at hp
    · rename_i h0; split at hp
      · rename_i h1; cases hp
        obtain ⟨q, hq⟩ := List.getElem?_of_mem (trL_mem (ad := ad) h0)
        exact lv_iinc hx hb hd hl hq rfl h1 (trL_set1 ad lv _ (.int _)) kk
      · cases hp
    · cases hp
  case iadd =>
    simp only [mpure] at hp; split at hp
    · cases hp; exact lv_iadd hx hb hd (kk _ hl)
    · cases hp
  case isub =>
    simp only [mpure] at hp; split at hp
    · cases hp; exact lv_isub hx hb hd (kk _ hl)
    · cases hp
  case imul =>
    simp only [mpure] at hp; split at hp
    · cases hp; exact lv_imul hx hb hd (kk _ hl)
    · cases hp
  case iand =>
    simp only [mpure] at hp; split at hp
    · cases hp; exact lv_iand hx hb hd (kk _ hl)
    · cases hp
  case ineg =>
    simp only [mpure] at hp; split at hp
    · cases hp; exact lv_ineg hx hb hd (kk _ hl)
    · cases hp
  case ladd =>
    simp only [mpure] at hp; split at hp
    · cases hp; exact lv_ladd hx hb hd (kk _ hl)
    · cases hp
  case lmul =>
    simp only [mpure] at hp; split at hp
    · cases hp; exact lv_lmul hx hb hd (kk _ hl)
    · cases hp
  case ishr =>
    simp only [mpure] at hp; split at hp
    · cases hp; exact lv_ishr hx hb hd (kk _ hl)
    · cases hp
  case i2d =>
    simp only [mpure] at hp; split at hp
    · cases hp; exact lv_i2d hx hb hd (kk _ hl)
    · cases hp
  case l2d =>
    simp only [mpure] at hp; split at hp
    · cases hp; exact lv_l2d hx hb hd (kk _ hl)
    · cases hp
  case dcmp op =>
    simp only [mpure] at hp; split at hp
    · cases hp; exact lv_dcmp hx hb hd (kk _ hl)
    · cases hp
  case idiv =>
    simp only [mpure] at hp; split at hp
    · split at hp
      · cases hp
      · rename_i h0; cases hp; exact lv_idiv hx hb hd h0 (kk _ hl)
    · cases hp
  case irem =>
    simp only [mpure] at hp; split at hp
    · split at hp
      · cases hp
      · rename_i h0; cases hp; exact lv_irem hx hb hd h0 (kk _ hl)
    · cases hp
  case lcmp =>
    simp only [mpure] at hp; split at hp
    · cases hp; exact W.lcmp hx hb hd (kk _ hl)
    · cases hp
  case ddiv =>
    simp only [mpure] at hp; split at hp
    · split at hp
      · rename_i h0; cases hp; exact lv_ddiv hx hb hd h0 (kk _ hl)
      · cases hp
    · cases hp
  case dload_n k =>
    simp only [mpure] at hp; split at hp
    · rename_i h0; cases hp; exact lv_dload_n hx hb hd rfl (trL_at hl h0) (kk _ hl)
    · cases hp
  case dload k =>
    simp only [mpure] at hp; split at hp
    · rename_i h0; cases hp; exact lv_dload hx hb hd (trL_at hl h0) (kk _ hl)
    · cases hp
  case dstore_n k =>
    simp only [mpure] at hp; split at hp
    · split at hp
      · rename_i h0; cases hp; exact lv_dstore_n hx hb hd rfl hl h0 (trL_set2 ad lv _ (.double _)) kk
      · cases hp
    · cases hp
  case dstore k =>
    simp only [mpure] at hp; split at hp
    · split at hp
      · rename_i h0; cases hp; exact lv_dstore hx hb hd hl h0 (trL_set2 ad lv _ (.double _)) kk
      · cases hp
    · cases hp
  case tableswitch dflt lo hi offs =>
    simp only [mpure] at hp; split at hp
    · split at hp
      · rename_i h0; split at hp
        · rename_i h1; cases hp; exact lv_tableOut hx hb hd h0 (mtgt_ok h1) (kk _ hl)
        · cases hp
      · rename_i h0; split at hp
        · rename_i h2; split at hp
          · rename_i h1; cases hp; exact lv_tableIn hx hb hd (fun h => h0 (Or.inl h)) (fun h => h0 (Or.inr h)) h2 (mtgt_ok h1) (kk _ hl)
          · cases hp
        · cases hp
    · cases hp
  case lookupswitch dflt ps =>
    simp only [mpure] at hp; split at hp
    · split at hp
      · rename_i h0; split at hp
        · rename_i h1; cases hp; exact lv_lookup hx hb hd h0 rfl (mtgt_ok h1) (kk _ hl)
        · cases hp
      · cases hp
    · cases hp
  case i2l =>
    simp only [mpure] at hp; split at hp
    · cases hp; exact lv_i2l hx hb hd rfl (kk _ hl)
    · cases hp
  case dup =>
    simp only [mpure] at hp; split at hp
    · split at hp
      · rename_i h0; cases hp; exact lv_dup hx hb hd ((trV_cat ad _).trans h0) (kk _ hl)
      · cases hp
    · cases hp
  case pop =>
    simp only [mpure] at hp; split at hp
    · split at hp
      · rename_i h0; cases hp; exact lv_pop hx hb hd ((trV_cat ad _).trans h0) (kk _ hl)
      · cases hp
    · cases hp
  case aconst_null =>
    simp only [mpure] at hp; cases hp; exact lv_null hx hb hd (kk _ hl)
  case dup_x1 =>
    simp only [mpure] at hp; split at hp
    · split at hp
      · rename_i h0; cases hp; exact lv_dup_x1 hx hb hd ((trV_cat ad _).trans h0.1) ((trV_cat ad _).trans h0.2) (kk _ hl)
      · cases hp
    · cases hp
  case dup2 =>
    simp only [mpure] at hp; split at hp
    · split at hp
      · rename_i h0; cases hp; exact lv_dup2_11 hx hb hd ((trV_cat ad _).trans h0.1) ((trV_cat ad _).trans h0.2) (kk _ hl)
      · cases hp
    · cases hp
  case if_acmp cd off =>
    cases cd
    case eq =>
      simp only [mpure] at hp; split at hp
      · split at hp
        · rename_i x y r h0; obtain ⟨h1, h2⟩ := h0; cases hp
          exact lv_acmp_eq (rx := some (ad y)) (ry := some (ad x)) hx hb hd (mtgt_ok h2) (fun _ => kk _ hl) (fun h9 => absurd (by rw [h1]) h9)
        · cases hp
      · cases hp
    case ne =>
      simp only [mpure] at hp; split at hp
      · split at hp
        · rename_i x y r h0; obtain ⟨h1, h2⟩ := h0; cases hp
          exact lv_acmp_ne (rx := some (ad y)) (ry := some (ad x)) hx hb hd (mtgt_ok h2) (fun h9 => absurd (by rw [h1]) h9) (fun _ => kk _ hl)
        · cases hp
      · cases hp
  case goto off =>
    simp only [mpure] at hp; split at hp
    · rename_i h0; cases hp; exact lv_goto hx hb hd (mtgt_ok h0) (kk _ hl)
    · cases hp
  case ifCond cd off =>
    cases cd
    case eq =>
      simp only [mpure] at hp; split at hp
      · split at hp
        · rename_i h0; cases hp; refine lv_if_eq hx hb hd (mtgt_ok h0) (fun h => ?_) (fun h => ?_)
          · have k1 := kk _ hl
            rw [if_pos h] at k1
            exact k1
          · have k1 := kk _ hl
            rw [if_neg h] at k1
            exact k1
        · cases hp
      · cases hp
    case ne =>
      simp only [mpure] at hp; split at hp
      · split at hp
        · rename_i h0; cases hp; refine lv_if_ne hx hb hd (mtgt_ok h0) (fun h => ?_) (fun h => ?_)
          · have k1 := kk _ hl
            rw [if_neg h] at k1
            exact k1
          · have k1 := kk _ hl
            rw [if_pos h] at k1
            exact k1
        · cases hp
      · cases hp
    case lt =>
      simp only [mpure] at hp; split at hp
      · split at hp
        · rename_i h0; cases hp; refine lv_if_lt hx hb hd (mtgt_ok h0) (fun h => ?_) (fun h => ?_)
          · have k1 := kk _ hl
            rw [if_pos h] at k1
            exact k1
          · have k1 := kk _ hl
            rw [if_neg h] at k1
            exact k1
        · cases hp
      · cases hp
    case ge =>
      simp only [mpure] at hp; split at hp
      · split at hp
        · rename_i h0; cases hp; refine lv_if_ge hx hb hd (mtgt_ok h0) (fun h => ?_) (fun h => ?_)
          · have k1 := kk _ hl
            rw [if_pos h] at k1
            exact k1
          · have k1 := kk _ hl
            rw [if_neg h] at k1
            exact k1
        · cases hp
      · cases hp
    case gt =>
      simp only [mpure] at hp; split at hp
      · split at hp
        · rename_i h0; cases hp; refine lv_if_gt hx hb hd (mtgt_ok h0) (fun h => ?_) (fun h => ?_)
          · have k1 := kk _ hl
            rw [if_pos h] at k1
            exact k1
          · have k1 := kk _ hl
            rw [if_neg h] at k1
            exact k1
        · cases hp
      · cases hp
    case le =>
      simp only [mpure] at hp; split at hp
      · split at hp
        · rename_i h0; cases hp; refine lv_if_le hx hb hd (mtgt_ok h0) (fun h => ?_) (fun h => ?_)
          · have k1 := kk _ hl
            rw [if_pos h] at k1
            exact k1
          · have k1 := kk _ hl
            rw [if_neg h] at k1
            exact k1
        · cases hp
      · cases hp
  case if_icmp cd off =>
    cases cd
    case eq =>
      simp only [mpure] at hp; split at hp
      · split at hp
        · rename_i h0; cases hp; refine lv_icmp_eq hx hb hd (mtgt_ok h0) (fun h => ?_) (fun h => ?_)
          · have k1 := kk _ hl
            rw [if_pos h] at k1
            exact k1
          · have k1 := kk _ hl
            rw [if_neg h] at k1
            exact k1
        · cases hp
      · cases hp
    case ne =>
      simp only [mpure] at hp; split at hp
      · split at hp
        · rename_i h0; cases hp; refine lv_icmp_ne hx hb hd (mtgt_ok h0) (fun h => ?_) (fun h => ?_)
          · have k1 := kk _ hl
            rw [if_neg h] at k1
            exact k1
          · have k1 := kk _ hl
            rw [if_pos h] at k1
            exact k1
        · cases hp
      · cases hp
    case lt =>
      simp only [mpure] at hp; split at hp
      · split at hp
        · rename_i h0; cases hp; refine lv_icmp_lt hx hb hd (mtgt_ok h0) (fun h => ?_) (fun h => ?_)
          · have k1 := kk _ hl
            rw [if_pos h] at k1
            exact k1
          · have k1 := kk _ hl
            rw [if_neg h] at k1
            exact k1
        · cases hp
      · cases hp
    case ge =>
      simp only [mpure] at hp; split at hp
      · split at hp
        · rename_i h0; cases hp; refine lv_icmp_ge hx hb hd (mtgt_ok h0) (fun h => ?_) (fun h => ?_)
          · have k1 := kk _ hl
            rw [if_pos h] at k1
            exact k1
          · have k1 := kk _ hl
            rw [if_neg h] at k1
            exact k1
        · cases hp
      · cases hp
    case gt =>
      simp only [mpure] at hp; split at hp
      · split at hp
        · rename_i h0; cases hp; refine lv_icmp_gt hx hb hd (mtgt_ok h0) (fun h => ?_) (fun h => ?_)
          · have k1 := kk _ hl
            rw [if_pos h] at k1
            exact k1
          · have k1 := kk _ hl
            rw [if_neg h] at k1
            exact k1
        · cases hp
      · cases hp
    case le =>
      simp only [mpure] at hp; split at hp
      · split at hp
        · rename_i h0; cases hp; refine lv_icmp_le hx hb hd (mtgt_ok h0) (fun h => ?_) (fun h => ?_)
          · have k1 := kk _ hl
            rw [if_pos h] at k1
            exact k1
          · have k1 := kk _ hl
            rw [if_neg h] at k1
            exact k1
        · cases hp
      · cases hp
  all_goals (simp only [mpure] at hp; cases hp)
end MP
