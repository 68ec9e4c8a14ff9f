/-! THE MACHINE WITH UNKNOWN NUMBERS IS SOUND: the instructions -/
section AI
variable {sI : Nat → Int32} {sL : Nat → Int64}
theorem m1i_s {f : Int32 → Value} (hf : ∀ x, aS sI sL (f x) = f x) {st st' : List Value} (h : m1i f st = some st') : m1i f (aSs sI sL st) = some (aSs sI sL st') := by
  unfold m1i at h
  split at h
  · cases h
    show some (f _ :: aSs sI sL _) = some (aS sI sL (f _) :: aSs sI sL _)
    rw [hf]
  · cases h
theorem m2i_s {f : Int32 → Int32 → Value} (hf : ∀ x y, aS sI sL (f x y) = f x y) {st st' : List Value} (h : m2i f st = some st') : m2i f (aSs sI sL st) = some (aSs sI sL st') := by
  unfold m2i at h
  split at h
  · cases h
    show some (f _ _ :: aSs sI sL _) = some (aS sI sL (f _ _) :: aSs sI sL _)
    rw [hf]
  · cases h
theorem m2d_s {f : Int32 → Int32 → Value} (hf : ∀ x y, aS sI sL (f x y) = f x y) {st st' : List Value} (h : m2d f st = some st') : m2d f (aSs sI sL st) = some (aSs sI sL st') := by
  unfold m2d at h
  split at h
  · split at h
    · cases h
    · rename_i hq
      cases h
      show (if _ = 0 then none else some (f _ _ :: aSs sI sL _)) = some (aS sI sL (f _ _) :: aSs sI sL _)
      rw [hf, if_neg hq]
  · cases h
theorem m1l_s {f : Int64 → Value} (hf : ∀ x, aS sI sL (f x) = f x) {st st' : List Value} (h : m1l f st = some st') : m1l f (aSs sI sL st) = some (aSs sI sL st') := by
  unfold m1l at h
  split at h
  · cases h
    show some (f _ :: aSs sI sL _) = some (aS sI sL (f _) :: aSs sI sL _)
    rw [hf]
  · cases h
theorem m2l_s {f : Int64 → Int64 → Value} (hf : ∀ x y, aS sI sL (f x y) = f x y) {st st' : List Value} (h : m2l f st = some st') : m2l f (aSs sI sL st) = some (aSs sI sL st') := by
  unfold m2l at h
  split at h
  · cases h
    show some (f _ _ :: aSs sI sL _) = some (aS sI sL (f _ _) :: aSs sI sL _)
    rw [hf]
  · cases h
theorem m2e_s {f : Int64 → Int64 → Value} (hf : ∀ x y, aS sI sL (f x y) = f x y) {st st' : List Value} (h : m2e f st = some st') : m2e f (aSs sI sL st) = some (aSs sI sL st') := by
  unfold m2e at h
  split at h
  · split at h
    · cases h
    · rename_i hq
      cases h
      show (if _ = 0 then none else some (f _ _ :: aSs sI sL _)) = some (aS sI sL (f _ _) :: aSs sI sL _)
      rw [hf, if_neg hq]
  · cases h
theorem m2s_s {f : Int64 → Int32 → Value} (hf : ∀ x y, aS sI sL (f x y) = f x y) {st st' : List Value} (h : m2s f st = some st') : m2s f (aSs sI sL st) = some (aSs sI sL st') := by
  unfold m2s at h
  split at h
  · cases h
    show some (f _ _ :: aSs sI sL _) = some (aS sI sL (f _ _) :: aSs sI sL _)
    rw [hf]
  · cases h
theorem mA_s {i : Instr} {st st' : List Value} (h : mA i st = some st') : mA i (aSs sI sL st) = some (aSs sI sL st') := by
  cases i <;> simp only [mA, reduceCtorEq] at h ⊢
  case dup =>
    split at h
    · split at h
      · rename_i v r hq
        cases h
        simp only [aSs_cons, aS_cat, hq, if_true]
      · cases h
    · cases h
  case pop =>
    split at h
    · split at h
      · rename_i v r hq
        cases h
        simp only [aSs_cons, aS_cat, hq, if_true]
      · cases h
    · cases h
  case dup_x1 =>
    split at h
    · split at h
      · rename_i v w r hq
        cases h
        simp only [aSs_cons, aS_cat, hq, and_self, if_true]
      · cases h
    · cases h
  case dup_x2 =>
    split at h
    · split at h
      · rename_i v w x r hq
        cases h
        simp only [aSs_cons, aS_cat, hq, and_self, if_true]
      · cases h
    · cases h
  case dup2 =>
    split at h
    · split at h
      · rename_i v w r hq
        cases h
        simp only [aSs_cons, aS_cat, hq, and_self, if_true]
      · cases h
    · cases h
  all_goals first
    | exact m2i_s (fun _ _ => rfl) h
    | exact m2d_s (fun _ _ => rfl) h
    | exact m1i_s (fun _ => rfl) h
    | exact m2l_s (fun _ _ => rfl) h
    | exact m2e_s (fun _ _ => rfl) h
    | exact m1l_s (fun _ => rfl) h
    | exact m2s_s (fun _ _ => rfl) h
    | (cases h; rfl)
theorem aId64 {k : Nat} (h : k < 100) : (UInt64.ofNat k).toNat = k := by
  rw [UInt64.toNat_ofNat']
  exact Nat.mod_eq_of_lt (by omega)
theorem aId32 {k : Nat} (h : k < 100) : (UInt32.ofNat k).toNat = k := by
  rw [UInt32.toNat_ofNat']
  exact Nat.mod_eq_of_lt (by omega)
theorem aU_ok (hD : aDn sI sL) {i : Instr} {st st' : List Value} (h : aU i st = some st') : mA i (aSs sI sL st) = some (aSs sI sL st') := by
  obtain ⟨d1, d2, d3, d4, d5, d6, d7, d8, d9, d10, d11⟩ := hD
  unfold aU at h
  split at h
  · split at h
    · rename_i y b r hq
      cases h
      show some (Value.int (sI b.toNat &&& y) :: aSs sI sL r) = some (Value.int (sI 5) :: aSs sI sL r)
      rw [hq.1, hq.2, d3]
    · cases h
  · split at h
    · rename_i b r hq
      cases h
      show some (Value.long (sI b.toNat).toInt64 :: aSs sI sL r) = some (Value.long (sL (UInt64.ofNat b.toNat).toNat) :: aSs sI sL r)
      rw [aId64 (by omega), d4 _ hq]
    · cases h
  · split at h
    · rename_i y b r hq
      cases h
      show some (Value.long (sL b.toNat <<< (y.toInt64 &&& 63)) :: aSs sI sL r) = some (Value.long (sL 5) :: aSs sI sL r)
      rw [hq.1, hq.2, d5]
    · cases h
  · split at h
    · rename_i y b r hq
      cases h
      show some (Value.long (sL b.toNat &&& y) :: aSs sI sL r) = some (Value.long (sL 6) :: aSs sI sL r)
      rw [hq.1, hq.2, d6]
    · split at h
      · rename_i y b r _ hq
        cases h
        show some (Value.long (sL b.toNat &&& y) :: aSs sI sL r) = some (Value.long (sL (UInt64.ofNat (b.toNat + 10)).toNat) :: aSs sI sL r)
        rw [aId64 (by omega), d9 _ hq.1 hq.2.1, hq.2.2]
      · cases h
  · split at h
    · rename_i c b r hq
      cases h
      show some (Value.long (sL b.toNat ||| sL c.toNat) :: aSs sI sL r) = some (Value.long (sL 7) :: aSs sI sL r)
      rw [hq.1, hq.2, d7]
    · cases h
  · split at h
    · rename_i y b r hq
      cases h
      show some (Value.long (sL b.toNat >>> (y.toInt64 &&& 63)) :: aSs sI sL r) = some (Value.long (sL (UInt64.ofNat (10 + y.toNatClampNeg / 8)).toNat) :: aSs sI sL r)
      rw [aId64 (by omega), d8 _ hq.2.1, hq.1, ← hq.2.2]
    · cases h
  · split at h
    · rename_i b r hq
      cases h
      show some (Value.int (sL b.toNat).toInt32 :: aSs sI sL r) = some (Value.int (sI (UInt32.ofNat b.toNat).toNat) :: aSs sI sL r)
      rw [aId32 (by omega), d10 _ hq.1 hq.2]
    · cases h
  · split at h
    · rename_i b r hq
      cases h
      show some (Value.int ((sI b.toNat).toUInt32 % 65536).toInt32 :: aSs sI sL r) = some (Value.int (sI b.toNat) :: aSs sI sL r)
      rw [d11 _ hq.1 hq.2]
    · cases h
  · cases h
theorem aLc_ok (hD : aDn sI sL) {fs : aF} (hO : aOk sI fs) {i : Instr} {st st' : List Value} (h : aLc fs i st = some st') : mA i (aSs sI sL st) = some (aSs sI sL st') := by
  unfold aLc at h
  split at h
  · split at h
    · rename_i y b r hq
      cases hs : aSg (aGet fs b.toNat) y.toInt with
      | none => rw [hs] at h; cases h
      | some v =>
        rw [hs] at h
        cases h
        show some (Value.int (lg_cmp (sL b.toNat) y) :: aSs sI sL r) = some (Value.int v :: aSs sI sL r)
        have hg := aGet_ok hD hO b.toNat
        rw [← hD.2.1 _ hq] at hg
        rw [aSg_ok hg hs]
    · cases h
  · cases h
theorem aKi_ok {o : Option Value} {v : Value} (h : aKi o = some v) : mKi (o.map (aS sI sL)) = some (aS sI sL v) := by
  unfold aKi at h
  split at h <;> first | (cases h; rfl) | cases h
theorem aKl_ok {o : Option Value} {v : Value} (h : aKl o = some v) : mKl (o.map (aS sI sL)) = some (aS sI sL v) := by
  unfold aKl at h
  split at h <;> first | (cases h; rfl) | cases h
theorem aKr_ok {o : Option Value} {v : Value} (h : mKr o = some v) : mKr (o.map (aS sI sL)) = some (aS sI sL v) := by
  unfold mKr at h
  split at h <;> first | (cases h; rfl) | cases h
theorem aB_ok {i : Instr} {lv : mL} {v : Value} (h : aB i lv = some v) : mB i (aSv sI sL lv) = some (aS sI sL v) := by
  cases i <;> simp only [aB, reduceCtorEq] at h <;> simp only [mB, aLd]
  all_goals first
    | exact aKi_ok h
    | exact aKl_ok h
    | exact aKr_ok h
theorem aSi_ok {nL n : Nat} {lv lv' : mL} {st st' : List Value} (h : aSi nL lv n st = some (lv', st')) : mSi nL (aSv sI sL lv) n (aSs sI sL st) = some (aSv sI sL lv', aSs sI sL st') := by
  unfold aSi at h
  split at h
  · split at h
    · rename_i x r hq
      cases h
      show (if n < nL then some (mSt1 (aSv sI sL lv) n (aS sI sL (.int x)), aSs sI sL st') else none) = _
      rw [if_pos hq, aSt1]
    · cases h
  · split at h
    · rename_i x r hq
      cases h
      show (if n < nL then some (mSt1 (aSv sI sL lv) n (aS sI sL (.float x)), aSs sI sL st') else none) = _
      rw [if_pos hq, aSt1]
    · cases h
  · cases h
theorem aSl_ok {nL n : Nat} {lv lv' : mL} {st st' : List Value} (h : aSl nL lv n st = some (lv', st')) : mSl nL (aSv sI sL lv) n (aSs sI sL st) = some (aSv sI sL lv', aSs sI sL st') := by
  unfold aSl at h
  split at h
  · split at h
    · rename_i x r hq
      cases h
      show (if n + 1 < nL then some (mSt2 (aSv sI sL lv) n (aS sI sL (.long x)), aSs sI sL st') else none) = _
      rw [if_pos hq, aSt2]
    · cases h
  · split at h
    · rename_i x r hq
      cases h
      show (if n + 1 < nL then some (mSt2 (aSv sI sL lv) n (aS sI sL (.double x)), aSs sI sL st') else none) = _
      rw [if_pos hq, aSt2]
    · cases h
  · cases h
theorem aSr_ok {nL n : Nat} {lv lv' : mL} {st st' : List Value} (h : mSr nL lv n st = some (lv', st')) : mSr nL (aSv sI sL lv) n (aSs sI sL st) = some (aSv sI sL lv', aSs sI sL st') := by
  unfold mSr at h
  split at h
  · split at h
    · rename_i x r hq
      cases h
      show (if n < nL then some (mSt1 (aSv sI sL lv) n (aS sI sL (.ref x)), aSs sI sL st') else none) = _
      rw [if_pos hq, aSt1]
    · cases h
  · cases h
theorem aIc_ok {nL n : Nat} {c : Int} {lv lv' : mL} {o : Option Value} {st st' : List Value} (h : mIc nL lv n c o st = some (lv', st')) : mIc nL (aSv sI sL lv) n c (o.map (aS sI sL)) (aSs sI sL st) = some (aSv sI sL lv', aSs sI sL st') := by
  unfold mIc at h
  split at h
  · split at h
    · rename_i x hq
      cases h
      show (if n < nL then some (mSt1 (aSv sI sL lv) n (aS sI sL (.int (x + Int32.ofInt c))), aSs sI sL st) else none) = _
      rw [if_pos hq, aSt1]
    · cases h
  · cases h
theorem aD_ok {i : Instr} {nL : Nat} {lv lv' : mL} {st st' : List Value} (h : aD i nL lv st = some (lv', st')) : mD i nL (aSv sI sL lv) (aSs sI sL st) = some (aSv sI sL lv', aSs sI sL st') := by
  cases i <;> simp only [aD, reduceCtorEq] at h <;> simp only [mD, aLd]
  all_goals first
    | exact aSi_ok h
    | exact aSl_ok h
    | exact aSr_ok h
    | exact aIc_ok h
theorem mBr_s {t : Bool} {pc pc' : Nat} {off : Int} {r r' : List Value} (h : mBr t pc off r = some (pc', r')) : mBr t pc off (aSs sI sL r) = some (pc', aSs sI sL r') := by
  unfold mBr at h ⊢
  cases hm : mTo pc off with
  | none => rw [hm] at h; cases t <;> cases h
  | some q => rw [hm] at h; cases t <;> (cases h; rfl)
theorem mTo_s {pc pc' : Nat} {off : Int} {r r' : List Value} (h : (mTo pc off).map (fun q => (q, r)) = some (pc', r')) : (mTo pc off).map (fun q => (q, aSs sI sL r)) = some (pc', aSs sI sL r') := by
  cases hm : mTo pc off with
  | none => rw [hm] at h; cases h
  | some q => rw [hm] at h; cases h; rfl
theorem mJ_s {i : Instr} (hac : ∀ c off, i ≠ .if_acmp c off) {pc pc' : Nat} {st st' : List Value} (h : mJ i pc st = some (pc', st')) : mJ i pc (aSs sI sL st) = some (pc', aSs sI sL st') := by
  cases i <;> simp only [mJ, reduceCtorEq] at h ⊢
  case goto off => exact mTo_s h
  case ifCond c off =>
    split at h
    · exact mBr_s h
    · cases h
  case if_icmp c off =>
    split at h
    · exact mBr_s h
    · cases h
  case if_acmp c off => exact absurd rfl (hac c off)
  case tableswitch d lo hi offs =>
    split at h
    · rename_i x r
      show (if x.toInt < lo ∨ hi < x.toInt then (mTo pc d).map (fun q => (q, aSs sI sL r)) else match offs[(x.toInt - lo).toNat]? with
        | some off => (mTo pc off).map (fun q => (q, aSs sI sL r))
        | none => none) = some (pc', aSs sI sL st')
      split at h
      · rename_i hq
        rw [if_pos hq]
        exact mTo_s h
      · rename_i hq
        rw [if_neg hq]
        split at h
        · rename_i off ho
          rw [ho]
          exact mTo_s h
        · cases h
    · cases h
  case lookupswitch d ps =>
    split at h
    · rename_i x r
      split at h
      · rename_i hq
        simp only [aSs_cons, aS]
        rw [if_pos hq]
        exact mTo_s h
      · cases h
    · cases h
theorem aJ_ok (hD : aDn sI sL) {fs : aF} (hO : aOk sI fs) {i : Instr} {pc pc' : Nat} {st st' : List Value} (h : aJ fs i pc st = some (pc', st')) : mJ i pc (aSs sI sL st) = some (pc', aSs sI sL st') := by
  unfold aJ at h
  split at h
  · split at h
    · rename_i c off b r _ t ht
      show mBr (mCnd c (sI b.toNat) 0) pc off (aSs sI sL r) = _
      rw [aDec_ok (y := 0) (aGet_ok hD hO b.toNat) ht]
      exact mBr_s h
    · cases h
  · split at h
    · rename_i c off y b r _ t ht
      show mBr (mCnd c (sI b.toNat) y) pc off (aSs sI sL r) = _
      rw [aDec_ok (aGet_ok hD hO b.toNat) ht]
      exact mBr_s h
    · cases h
  · split at h
    · rename_i c off b x r _ t ht
      show mBr (mCnd c x (sI b.toNat)) pc off (aSs sI sL r) = _
      rw [← mCnd_sw, aDec_ok (aGet_ok hD hO b.toNat) ht]
      exact mBr_s h
    · cases h
  · split at h
    · rename_i d lo hi offs b r hq
      show (if (sI b.toNat).toInt < lo ∨ hi < (sI b.toNat).toInt then (mTo pc d).map (fun q => (q, aSs sI sL r)) else _) = some (pc', aSs sI sL st')
      obtain ⟨w, hw, h1, h2⟩ := aGet_ok hD hO b.toNat
      have h3 := List.all_eq_true.mp hq w hw
      rw [Bool.or_eq_true, decide_eq_true_eq, decide_eq_true_eq] at h3
      rw [if_pos (by omega)]
      exact mTo_s h
    · cases h
  · cases h
  · rename_i h1 h2 h3 h4 h5
    exact mJ_s (fun c off he => h1 c off he) h
end AI
