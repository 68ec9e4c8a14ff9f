/-! THE SMALL MACHINE's INSTRUCTIONS, EACH BY THE KIT's ROW: stack, locals, jumps. ad: where a cell of the small machine lies in the machine. -/
def mT (ad : Nat → Nat) (v : Value) : Value := match v with
  | .ref a => .ref (ad a)
  | w => w
abbrev mTs (ad : Nat → Nat) (st : List Value) : List Value := st.map (mT ad)
abbrev mTl (ad : Nat → Nat) (lv : mL) : mL := lv.map (fun q => (q.1, mT ad q.2))
theorem mT_cat (ad : Nat → Nat) (v : Value) : (mT ad v).category = v.category := by cases v <;> rfl
theorem m1i_inv {f : Int32 → Value} {st st' : List Value} (h : m1i f st = some st') : ∃ x r, st = .int x :: r ∧ st' = f x :: r := by
  unfold m1i at h
  split at h
  · cases h; exact ⟨_, _, rfl, rfl⟩
  · cases h
theorem m2i_inv {f : Int32 → Int32 → Value} {st st' : List Value} (h : m2i f st = some st') : ∃ y x r, st = .int y :: .int x :: r ∧ st' = f x y :: r := by
  unfold m2i at h
  split at h
  · cases h; exact ⟨_, _, _, rfl, rfl⟩
  · cases h
theorem m2d_inv {f : Int32 → Int32 → Value} {st st' : List Value} (h : m2d f st = some st') : ∃ y x r, st = .int y :: .int x :: r ∧ st' = f x y :: r ∧ ¬ y = 0 := by
  unfold m2d at h
  split at h
  · split at h
    · cases h
    · cases h; exact ⟨_, _, _, rfl, rfl, by assumption⟩
  · cases h
theorem m1l_inv {f : Int64 → Value} {st st' : List Value} (h : m1l f st = some st') : ∃ x r, st = .long x :: r ∧ st' = f x :: r := by
  unfold m1l at h
  split at h
  · cases h; exact ⟨_, _, rfl, rfl⟩
  · cases h
theorem m2l_inv {f : Int64 → Int64 → Value} {st st' : List Value} (h : m2l f st = some st') : ∃ y x r, st = .long y :: .long x :: r ∧ st' = f x y :: r := by
  unfold m2l at h
  split at h
  · cases h; exact ⟨_, _, _, rfl, rfl⟩
  · cases h
theorem m2e_inv {f : Int64 → Int64 → Value} {st st' : List Value} (h : m2e f st = some st') : ∃ y x r, st = .long y :: .long x :: r ∧ st' = f x y :: r ∧ ¬ y = 0 := by
  unfold m2e at h
  split at h
  · split at h
    · cases h
    · cases h; exact ⟨_, _, _, rfl, rfl, by assumption⟩
  · cases h
theorem m2s_inv {f : Int64 → Int32 → Value} {st st' : List Value} (h : m2s f st = some st') : ∃ y x r, st = .int y :: .long x :: r ∧ st' = f x y :: r := by
  unfold m2s at h
  split at h
  · cases h; exact ⟨_, _, _, rfl, rfl⟩
  · cases h
section MR
variable {p : Program} {l : Launch} {e : Env} {R : Room} {s : State} {m : MethodId} {args : Array Value} {below : List Frame} {meth : Method} {c : Code} {H : Heap} {locs : List Loc} {cells slots : Nat} {Q : State → Prop}
variable {cc : ByteArray} {pc : Nat} {ls : Array Slot}
set_option maxHeartbeats 4000000 in
theorem mA_ok (ad : Nat → Nat) {i : Instr} {o1 : Nat} {st st' : List Value} (hx : p.tables.exec = Jvm.exec) (hb : c.code = cc) (hdg : decode cc pc = .ok (i, mLn i o1)) (h : mA i st = some st')
    (k : W p l e R s m args below meth c H locs cells slots Q (F0 m (pc + mLen i) ls (mTs ad st'))) : W p l e R s m args below meth c H locs cells slots Q (F0 m pc ls (mTs ad st)) := by
  cases i <;> simp only [mA, reduceCtorEq] at h
  case iconst n => cases h; exact lv_iconst hx hb hdg rfl k
  case bipush n => cases h; exact lv_bipush hx hb hdg rfl k
  case sipush n => cases h; exact lv_sipush hx hb hdg rfl k
  case lconst n => cases h; exact lv_lconst hx hb hdg rfl k
  case iadd => obtain ⟨y, x, r, rfl, rfl⟩ := m2i_inv h; exact lv_iadd hx hb hdg k
  case isub => obtain ⟨y, x, r, rfl, rfl⟩ := m2i_inv h; exact lv_isub hx hb hdg k
  case imul => obtain ⟨y, x, r, rfl, rfl⟩ := m2i_inv h; exact lv_imul hx hb hdg k
  case iand => obtain ⟨y, x, r, rfl, rfl⟩ := m2i_inv h; exact lv_iand hx hb hdg k
  case ior => obtain ⟨y, x, r, rfl, rfl⟩ := m2i_inv h; exact lv_ior hx hb hdg k
  case ixor => obtain ⟨y, x, r, rfl, rfl⟩ := m2i_inv h; exact lv_ixor hx hb hdg k
  case idiv => obtain ⟨y, x, r, rfl, rfl, hy⟩ := m2d_inv h; exact lv_idiv hx hb hdg hy k
  case irem => obtain ⟨y, x, r, rfl, rfl, hy⟩ := m2d_inv h; exact lv_irem hx hb hdg hy k
  case ineg => obtain ⟨x, r, rfl, rfl⟩ := m1i_inv h; exact lv_ineg hx hb hdg k
  case ishl => obtain ⟨y, x, r, rfl, rfl⟩ := m2i_inv h; exact lv_ishl hx hb hdg k
  case ishr => obtain ⟨y, x, r, rfl, rfl⟩ := m2i_inv h; exact lv_ishr hx hb hdg k
  case iushr => obtain ⟨y, x, r, rfl, rfl⟩ := m2i_inv h; exact lv_iushr hx hb hdg rfl k
  case ladd => obtain ⟨y, x, r, rfl, rfl⟩ := m2l_inv h; exact lv_ladd hx hb hdg k
  case lsub => obtain ⟨y, x, r, rfl, rfl⟩ := m2l_inv h; exact lv_lsub hx hb hdg k
  case lmul => obtain ⟨y, x, r, rfl, rfl⟩ := m2l_inv h; exact lv_lmul hx hb hdg k
  case land => obtain ⟨y, x, r, rfl, rfl⟩ := m2l_inv h; exact lv_land hx hb hdg k
  case lor => obtain ⟨y, x, r, rfl, rfl⟩ := m2l_inv h; exact lv_lor hx hb hdg k
  case ldiv => obtain ⟨y, x, r, rfl, rfl, hy⟩ := m2e_inv h; exact lv_ldiv hx hb hdg hy k
  case lrem => obtain ⟨y, x, r, rfl, rfl, hy⟩ := m2e_inv h; exact lv_lrem hx hb hdg hy k
  case lneg => obtain ⟨x, r, rfl, rfl⟩ := m1l_inv h; exact lv_lneg hx hb hdg k
  case lshl => obtain ⟨y, x, r, rfl, rfl⟩ := m2s_inv h; exact lv_lshl hx hb hdg rfl k
  case lshr => obtain ⟨y, x, r, rfl, rfl⟩ := m2s_inv h; exact lv_lshr hx hb hdg rfl k
  case i2l => obtain ⟨x, r, rfl, rfl⟩ := m1i_inv h; exact lv_i2l hx hb hdg rfl k
  case l2i => obtain ⟨x, r, rfl, rfl⟩ := m1l_inv h; exact lv_l2i hx hb hdg rfl k
  case i2c => obtain ⟨x, r, rfl, rfl⟩ := m1i_inv h; exact lv_i2c hx hb hdg rfl k
  case i2b => obtain ⟨x, r, rfl, rfl⟩ := m1i_inv h; exact lv_i2b hx hb hdg rfl k
  case lcmp => obtain ⟨y, x, r, rfl, rfl⟩ := m2l_inv h; exact W.lcmp hx hb hdg k
  case dup =>
    split at h
    · split at h
      · rename_i v r hv
        cases h
        exact lv_dup hx hb hdg (by rw [mT_cat]; exact hv) k
      · cases h
    · cases h
  case pop =>
    split at h
    · split at h
      · rename_i v r hv
        cases h
        exact lv_pop hx hb hdg (by rw [mT_cat]; exact hv) k
      · cases h
    · cases h
  case dup_x1 =>
    split at h
    · split at h
      · rename_i v w r hv
        cases h
        exact lv_dup_x1 hx hb hdg (by rw [mT_cat]; exact hv.1) (by rw [mT_cat]; exact hv.2) k
      · cases h
    · cases h
  case dup_x2 =>
    split at h
    · split at h
      · rename_i v w x r hv
        cases h
        exact lv_dup_x2 hx hb hdg (by rw [mT_cat]; exact hv.1) (by rw [mT_cat]; exact hv.2.1) (by rw [mT_cat]; exact hv.2.2) k
      · cases h
    · cases h
  case dup2 =>
    split at h
    · split at h
      · rename_i v w r hv
        cases h
        exact lv_dup2_11 hx hb hdg (by rw [mT_cat]; exact hv.1) (by rw [mT_cat]; exact hv.2) k
      · cases h
    · cases h
theorem mLd_mem : ∀ {lv : mL} {i : Nat} {v : Value}, mLd lv i = some v → (i, v) ∈ lv
  | [], i, v, h => by cases h
  | q :: r, i, v, h => by
    unfold mLd at h
    split at h
    · rename_i hq
      cases h
      rw [← hq]
      exact List.mem_cons_self
    · exact List.mem_cons_of_mem _ (mLd_mem h)
theorem mLd_at {ad : Nat → Nat} {nL : Nat} {lv : mL} (hl : lv_has ls nL (mTl ad lv)) {i : Nat} {v : Value} (h : mLd lv i = some v) : ls[i]? = some (.val (mT ad v)) :=
  hl.2.2 (i, mT ad v) (List.mem_map.mpr ⟨(i, v), mLd_mem h, rfl⟩)
theorem mKi_inv {o : Option Value} {v : Value} (h : mKi o = some v) : ∃ x, o = some (.int x) ∧ v = .int x := by
  unfold mKi at h
  split at h
  · cases h; exact ⟨_, rfl, rfl⟩
  · cases h
theorem mKl_inv {o : Option Value} {v : Value} (h : mKl o = some v) : ∃ x, o = some (.long x) ∧ v = .long x := by
  unfold mKl at h
  split at h
  · cases h; exact ⟨_, rfl, rfl⟩
  · cases h
theorem mKr_inv {o : Option Value} {v : Value} (h : mKr o = some v) : ∃ x, o = some (.ref x) ∧ v = .ref x := by
  unfold mKr at h
  split at h
  · cases h; exact ⟨_, rfl, rfl⟩
  · cases h
set_option maxHeartbeats 4000000 in
theorem mB_ok (ad : Nat → Nat) {i : Instr} {o1 nL : Nat} {lv : mL} {st : List Value} {v : Value} (hx : p.tables.exec = Jvm.exec) (hb : c.code = cc) (hdg : decode cc pc = .ok (i, mLn i o1)) (hl : lv_has ls nL (mTl ad lv)) (h : mB i lv = some v)
    (k : W p l e R s m args below meth c H locs cells slots Q (F0 m (pc + mLen i) ls (mTs ad (v :: st)))) : W p l e R s m args below meth c H locs cells slots Q (F0 m pc ls (mTs ad st)) := by
  cases i <;> simp only [mB, reduceCtorEq] at h
  case iload n => obtain ⟨x, hm, rfl⟩ := mKi_inv h; exact lv_iload hx hb hdg (mLd_at hl hm) k
  case iload_n n => obtain ⟨x, hm, rfl⟩ := mKi_inv h; exact lv_iload_n hx hb hdg rfl (mLd_at hl hm) k
  case lload n => obtain ⟨x, hm, rfl⟩ := mKl_inv h; exact lv_lload hx hb hdg (mLd_at hl hm) k
  case lload_n n => obtain ⟨x, hm, rfl⟩ := mKl_inv h; exact lv_lload_n hx hb hdg rfl (mLd_at hl hm) k
  case aload n => obtain ⟨x, hm, rfl⟩ := mKr_inv h; exact lv_aload hx hb hdg (mLd_at hl hm) k
  case aload_n n => obtain ⟨x, hm, rfl⟩ := mKr_inv h; exact lv_aload_n hx hb hdg rfl (mLd_at hl hm) k
theorem mTl_filter (ad : Nat → Nat) (f : Nat × Value → Bool) (hf : ∀ q : Nat × Value, f (q.1, mT ad q.2) = f q) : ∀ lv : mL, (mTl ad lv).filter f = mTl ad (lv.filter f)
  | [] => rfl
  | q :: r => by
    show List.filter f ((q.1, mT ad q.2) :: mTl ad r) = mTl ad (List.filter f (q :: r))
    rw [List.filter_cons, List.filter_cons, hf q, mTl_filter ad f hf r]
    split <;> rfl
theorem mSt1_T (ad : Nat → Nat) (lv : mL) (i : Nat) (v : Value) : (i, mT ad v) :: (mTl ad lv).filter (fun q => !(q.1 == i) && !(q.1 + 1 == i && q.2.category == 2)) = mTl ad (mSt1 lv i v) := by
  rw [mTl_filter ad _ (fun q => by show (!(q.1 == i) && !(q.1 + 1 == i && (mT ad q.2).category == 2)) = _; rw [mT_cat])]
  rfl
theorem mSt2_T (ad : Nat → Nat) (lv : mL) (i : Nat) (v : Value) : (i, mT ad v) :: (mTl ad lv).filter (fun q => !(q.1 == i) && (!(q.1 == i + 1) && !(q.1 + 1 == i && q.2.category == 2))) = mTl ad (mSt2 lv i v) := by
  rw [mTl_filter ad _ (fun q => by show (!(q.1 == i) && (!(q.1 == i + 1) && !(q.1 + 1 == i && (mT ad q.2).category == 2))) = _; rw [mT_cat])]
  rfl
theorem mSi_inv {nL n : Nat} {lv lv' : mL} {st st' : List Value} (h : mSi nL lv n st = some (lv', st')) : ∃ x, st = .int x :: st' ∧ n < nL ∧ lv' = mSt1 lv n (.int x) := by
  unfold mSi at h
  split at h
  · split at h
    · cases h; exact ⟨_, rfl, by assumption, rfl⟩
    · cases h
  · cases h
theorem mSl_inv {nL n : Nat} {lv lv' : mL} {st st' : List Value} (h : mSl nL lv n st = some (lv', st')) : ∃ x, st = .long x :: st' ∧ n + 1 < nL ∧ lv' = mSt2 lv n (.long x) := by
  unfold mSl at h
  split at h
  · split at h
    · cases h; exact ⟨_, rfl, by assumption, rfl⟩
    · cases h
  · cases h
theorem mSr_inv {nL n : Nat} {lv lv' : mL} {st st' : List Value} (h : mSr nL lv n st = some (lv', st')) : ∃ x, st = .ref x :: st' ∧ n < nL ∧ lv' = mSt1 lv n (.ref x) := by
  unfold mSr at h
  split at h
  · split at h
    · cases h; exact ⟨_, rfl, by assumption, rfl⟩
    · cases h
  · cases h
theorem mIc_inv {nL n : Nat} {lv lv' : mL} {cn : Int} {o : Option Value} {st st' : List Value} (h : mIc nL lv n cn o st = some (lv', st')) : ∃ x, o = some (.int x) ∧ n < nL ∧ lv' = mSt1 lv n (.int (x + Int32.ofInt cn)) ∧ st' = st := by
  unfold mIc at h
  split at h
  · split at h
    · cases h; exact ⟨_, rfl, by assumption, rfl, rfl⟩
    · cases h
  · cases h
theorem mLd_ix {ad : Nat → Nat} {lv : mL} {i : Nat} {v : Value} (h : mLd lv i = some v) : ∃ k : Nat, (mTl ad lv : List (Nat × Value))[k]? = some (i, mT ad v) :=
  List.getElem?_of_mem (List.mem_map.mpr ⟨(i, v), mLd_mem h, rfl⟩)
set_option maxHeartbeats 4000000 in
theorem mD_ok (ad : Nat → Nat) {i : Instr} {nL : Nat} {lv lv' : mL} {st st' : List Value} (hx : p.tables.exec = Jvm.exec) (hb : c.code = cc) (hdg : decode cc pc = .ok (i, mLn i nL)) (hl : lv_has ls nL (mTl ad lv)) (h : mD i nL lv st = some (lv', st'))
    (k : ∀ ls' : Array Slot, lv_has ls' nL (mTl ad lv') → W p l e R s m args below meth c H locs cells slots Q (F0 m (pc + mLen i) ls' (mTs ad st'))) : W p l e R s m args below meth c H locs cells slots Q (F0 m pc ls (mTs ad st)) := by
  cases i <;> simp only [mD, reduceCtorEq] at h
  case istore n => obtain ⟨x, rfl, hn, rfl⟩ := mSi_inv h; exact lv_istore hx hb hdg hl hn (mSt1_T ad lv n (.int x)) k
  case istore_n n => obtain ⟨x, rfl, hn, rfl⟩ := mSi_inv h; exact lv_istore_n hx hb hdg rfl hl hn (mSt1_T ad lv n.val (.int x)) k
  case lstore n => obtain ⟨x, rfl, hn, rfl⟩ := mSl_inv h; exact lv_lstore hx hb hdg hl hn (mSt2_T ad lv n (.long x)) k
  case lstore_n n => obtain ⟨x, rfl, hn, rfl⟩ := mSl_inv h; exact lv_lstore_n hx hb hdg rfl hl hn (mSt2_T ad lv n.val (.long x)) k
  case astore n => obtain ⟨x, rfl, hn, rfl⟩ := mSr_inv h; exact lv_astore hx hb hdg hl hn (mSt1_T ad lv n (.ref x)) k
  case astore_n n => obtain ⟨x, rfl, hn, rfl⟩ := mSr_inv h; exact lv_astore_n hx hb hdg rfl hl hn (mSt1_T ad lv n.val (.ref x)) k
  case iinc n cn =>
    obtain ⟨x, hm, hn, rfl, rfl⟩ := mIc_inv h
    obtain ⟨q, hq⟩ := mLd_ix (ad := ad) hm
    exact lv_iinc hx hb hdg hl hq rfl hn (mSt1_T ad lv n (.int (x + Int32.ofInt cn))) k
theorem mTo_inv {pc n : Nat} {off : Int} (h : mTo pc off = some n) : (pc : Int) + off = (n : Int) := by
  unfold mTo at h
  split at h
  · rename_i q hq
    cases h
    exact hq
  · cases h
theorem mTo_map {pc n : Nat} {off : Int} {r st' : List Value} (h : (mTo pc off).map (fun q => (q, r)) = some (n, st')) : (pc : Int) + off = (n : Int) ∧ st' = r := by
  cases hq : mTo pc off with
  | none => rw [hq] at h; cases h
  | some q =>
    rw [hq] at h
    cases h
    exact ⟨mTo_inv hq, rfl⟩
theorem mBr_inv {b : Bool} {pc n : Nat} {off : Int} {r st' : List Value} (h : mBr b pc off r = some (n, st')) : st' = r ∧ ∃ tgt : Nat, (pc : Int) + off = (tgt : Int) ∧ ((b = true ∧ n = tgt) ∨ (b = false ∧ n = pc + 3)) := by
  cases b with
  | true =>
    obtain ⟨h1, h2⟩ := mTo_map (show (mTo pc off).map (fun q => (q, r)) = some (n, st') from h)
    exact ⟨h2, n, h1, Or.inl ⟨rfl, rfl⟩⟩
  | false =>
    have h : (mTo pc off).map (fun _ => (pc + 3, r)) = some (n, st') := h
    cases hq : mTo pc off with
    | none => rw [hq] at h; cases h
    | some q =>
      rw [hq] at h
      cases h
      exact ⟨rfl, q, mTo_inv hq, Or.inr ⟨rfl, rfl⟩⟩
theorem mCnd_eq {x y : Int32} : (mCnd .eq x y = true ↔ x = y) := by simp [mCnd]
theorem mCnd_ne {x y : Int32} : (mCnd .ne x y = true ↔ ¬ x = y) := by simp [mCnd]
theorem mCnd_lt {x y : Int32} : (mCnd .lt x y = true ↔ x < y) := by simp [mCnd]
theorem mCnd_ge {x y : Int32} : (mCnd .ge x y = true ↔ y ≤ x) := by simp [mCnd]
theorem mCnd_gt {x y : Int32} : (mCnd .gt x y = true ↔ y < x) := by simp [mCnd]
theorem mCnd_le {x y : Int32} : (mCnd .le x y = true ↔ x ≤ y) := by simp [mCnd]
/-- the two ways of a branch, out of the one that is gone -/
theorem mBr_t {b : Bool} {P : Prop} {n tgt pc3 : Nat} {W1 : Nat → Prop} (hP : b = true ↔ P) (h : (b = true ∧ n = tgt) ∨ (b = false ∧ n = pc3)) (k : W1 n) : P → W1 tgt := by
  intro hp
  rcases h with ⟨-, h2⟩ | ⟨h1, -⟩
  · exact h2 ▸ k
  · rw [hP.mpr hp] at h1; cases h1
theorem mBr_f {b : Bool} {P : Prop} {n tgt pc3 : Nat} {W1 : Nat → Prop} (hP : b = true ↔ P) (h : (b = true ∧ n = tgt) ∨ (b = false ∧ n = pc3)) (k : W1 n) : ¬ P → W1 pc3 := by
  intro hp
  rcases h with ⟨h1, -⟩ | ⟨-, h2⟩
  · exact absurd (hP.mp h1) hp
  · exact h2 ▸ k
set_option maxHeartbeats 4000000 in
theorem mJ_ok (ad : Nat → Nat) (hinj : ∀ a b, mEa a → mEa b → ad a = ad b → a = b) {i : Instr} {o1 : Nat} {pc' : Nat} {st st' : List Value} (hx : p.tables.exec = Jvm.exec) (hb : c.code = cc) (hdg : decode cc pc = .ok (i, mLn i o1)) (h : mJ i pc st = some (pc', st'))
    (k : W p l e R s m args below meth c H locs cells slots Q (F0 m pc' ls (mTs ad st'))) : W p l e R s m args below meth c H locs cells slots Q (F0 m pc ls (mTs ad st)) := by
  cases i <;> simp only [mJ, reduceCtorEq] at h
  case goto off =>
    obtain ⟨h1, rfl⟩ := mTo_map h
    exact lv_goto hx hb hdg h1 k
  case ifCond cnd off =>
    split at h
    · rename_i x r
      obtain ⟨rfl, tgt, ht, h2⟩ := mBr_inv h
      cases cnd
      case eq => exact lv_if_eq hx hb hdg ht (mBr_t (W1 := fun q => W p l e R s m args below meth c H locs cells slots Q (F0 m q ls (mTs ad _))) mCnd_eq h2 k) (mBr_f (W1 := fun q => W p l e R s m args below meth c H locs cells slots Q (F0 m q ls (mTs ad _))) mCnd_eq h2 k)
      case ne => exact lv_if_ne hx hb hdg ht (mBr_t (W1 := fun q => W p l e R s m args below meth c H locs cells slots Q (F0 m q ls (mTs ad _))) mCnd_ne h2 k) (fun hq => mBr_f (W1 := fun q => W p l e R s m args below meth c H locs cells slots Q (F0 m q ls (mTs ad _))) mCnd_ne h2 k (fun hz => hz hq))
      case lt => exact lv_if_lt hx hb hdg ht (mBr_t (W1 := fun q => W p l e R s m args below meth c H locs cells slots Q (F0 m q ls (mTs ad _))) mCnd_lt h2 k) (mBr_f (W1 := fun q => W p l e R s m args below meth c H locs cells slots Q (F0 m q ls (mTs ad _))) mCnd_lt h2 k)
      case ge => exact lv_if_ge hx hb hdg ht (mBr_t (W1 := fun q => W p l e R s m args below meth c H locs cells slots Q (F0 m q ls (mTs ad _))) mCnd_ge h2 k) (mBr_f (W1 := fun q => W p l e R s m args below meth c H locs cells slots Q (F0 m q ls (mTs ad _))) mCnd_ge h2 k)
      case gt => exact lv_if_gt hx hb hdg ht (mBr_t (W1 := fun q => W p l e R s m args below meth c H locs cells slots Q (F0 m q ls (mTs ad _))) mCnd_gt h2 k) (mBr_f (W1 := fun q => W p l e R s m args below meth c H locs cells slots Q (F0 m q ls (mTs ad _))) mCnd_gt h2 k)
      case le => exact lv_if_le hx hb hdg ht (mBr_t (W1 := fun q => W p l e R s m args below meth c H locs cells slots Q (F0 m q ls (mTs ad _))) mCnd_le h2 k) (mBr_f (W1 := fun q => W p l e R s m args below meth c H locs cells slots Q (F0 m q ls (mTs ad _))) mCnd_le h2 k)
    · cases h
  case if_icmp cnd off =>
    split at h
    · rename_i y x r
      obtain ⟨rfl, tgt, ht, h2⟩ := mBr_inv h
      cases cnd
      case eq => exact lv_icmp_eq hx hb hdg ht (mBr_t (W1 := fun q => W p l e R s m args below meth c H locs cells slots Q (F0 m q ls (mTs ad _))) mCnd_eq h2 k) (mBr_f (W1 := fun q => W p l e R s m args below meth c H locs cells slots Q (F0 m q ls (mTs ad _))) mCnd_eq h2 k)
      case ne => exact lv_icmp_ne hx hb hdg ht (mBr_t (W1 := fun q => W p l e R s m args below meth c H locs cells slots Q (F0 m q ls (mTs ad _))) mCnd_ne h2 k) (fun hq => mBr_f (W1 := fun q => W p l e R s m args below meth c H locs cells slots Q (F0 m q ls (mTs ad _))) mCnd_ne h2 k (fun hz => hz hq))
      case lt => exact lv_icmp_lt hx hb hdg ht (mBr_t (W1 := fun q => W p l e R s m args below meth c H locs cells slots Q (F0 m q ls (mTs ad _))) mCnd_lt h2 k) (mBr_f (W1 := fun q => W p l e R s m args below meth c H locs cells slots Q (F0 m q ls (mTs ad _))) mCnd_lt h2 k)
      case ge => exact lv_icmp_ge hx hb hdg ht (mBr_t (W1 := fun q => W p l e R s m args below meth c H locs cells slots Q (F0 m q ls (mTs ad _))) mCnd_ge h2 k) (mBr_f (W1 := fun q => W p l e R s m args below meth c H locs cells slots Q (F0 m q ls (mTs ad _))) mCnd_ge h2 k)
      case gt => exact lv_icmp_gt hx hb hdg ht (mBr_t (W1 := fun q => W p l e R s m args below meth c H locs cells slots Q (F0 m q ls (mTs ad _))) mCnd_gt h2 k) (mBr_f (W1 := fun q => W p l e R s m args below meth c H locs cells slots Q (F0 m q ls (mTs ad _))) mCnd_gt h2 k)
      case le => exact lv_icmp_le hx hb hdg ht (mBr_t (W1 := fun q => W p l e R s m args below meth c H locs cells slots Q (F0 m q ls (mTs ad _))) mCnd_le h2 k) (mBr_f (W1 := fun q => W p l e R s m args below meth c H locs cells slots Q (F0 m q ls (mTs ad _))) mCnd_le h2 k)
    · cases h
  case if_acmp cnd off =>
    cases cnd
    case eq =>
      simp only [] at h
      split at h
      · rename_i y x r
        split at h
        · rename_i hxy
          obtain ⟨rfl, tgt, ht, h2⟩ := mBr_inv h
          have hP : decide (x = y) = true ↔ (some (ad x) = some (ad y)) := ⟨fun q => by rw [of_decide_eq_true q], fun q => decide_eq_true (hinj _ _ hxy.1 hxy.2 (Option.some.inj q))⟩
          exact lv_acmp_eq (rx := some (ad x)) (ry := some (ad y)) hx hb hdg ht (mBr_t (W1 := fun q => W p l e R s m args below meth c H locs cells slots Q (F0 m q ls (mTs ad _))) hP h2 k) (mBr_f (W1 := fun q => W p l e R s m args below meth c H locs cells slots Q (F0 m q ls (mTs ad _))) hP h2 k)
        · cases h
      · cases h
    case ne =>
      simp only [] at h
      split at h
      · rename_i y x r
        split at h
        · rename_i hxy
          obtain ⟨rfl, tgt, ht, h2⟩ := mBr_inv h
          have hP : decide (¬ x = y) = true ↔ ¬ (some (ad x) = some (ad y)) := ⟨fun q z => of_decide_eq_true q (hinj _ _ hxy.1 hxy.2 (Option.some.inj z)), fun q => decide_eq_true (fun z => q (by rw [z]))⟩
          exact lv_acmp_ne (rx := some (ad x)) (ry := some (ad y)) hx hb hdg ht (mBr_t (W1 := fun q => W p l e R s m args below meth c H locs cells slots Q (F0 m q ls (mTs ad _))) hP h2 k) (fun hq => mBr_f (W1 := fun q => W p l e R s m args below meth c H locs cells slots Q (F0 m q ls (mTs ad _))) hP h2 k (fun hz => hz hq))
        · cases h
      · cases h
  case tableswitch d lo hi offs =>
    split at h
    · rename_i x r
      split at h
      · rename_i hc
        obtain ⟨h1, rfl⟩ := mTo_map h
        exact lv_tableOut hx hb hdg hc h1 k
      · rename_i hc
        split at h
        · rename_i off ho
          obtain ⟨h1, rfl⟩ := mTo_map h
          exact lv_tableIn hx hb hdg (fun z => hc (Or.inl z)) (fun z => hc (Or.inr z)) ho h1 k
        · cases h
    · cases h
  case lookupswitch d ps =>
    split at h
    · rename_i x r
      split at h
      · rename_i hc
        obtain ⟨h1, rfl⟩ := mTo_map h
        exact lv_lookup hx hb hdg hc rfl h1 k
      · cases h
    · cases h
end MR
