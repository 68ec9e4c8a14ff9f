/-! THE MACHINE WITH UNKNOWN NUMBERS IS SOUND: numbers, ranges, stacks, locals -/
def aS (sI : Nat → Int32) (sL : Nat → Int64) (v : Value) : Value := match v with
  | .float b => .int (sI b.toNat)
  | .double b => .long (sL b.toNat)
  | .int x => .int x
  | .long x => .long x
  | .null => .null
  | .ref a => .ref a
  | .retAddr k => .retAddr k
def aSs (sI : Nat → Int32) (sL : Nat → Int64) (st : List Value) : List Value := st.map (aS sI sL)
def aSv (sI : Nat → Int32) (sL : Nat → Int64) (lv : mL) : mL := lv.map (fun q => (q.1, aS sI sL q.2))
def aIn (x : Int) (rs : List (Int × Int)) : Prop := ∃ r ∈ rs, r.1 ≤ x ∧ x ≤ r.2
def aOk (sI : Nat → Int32) (fs : aF) : Prop := ∀ q ∈ fs, aIn (sI q.1).toInt q.2
/-- what the unknown numbers are to one another -/
def aDn (sI : Nat → Int32) (sL : Nat → Int64) : Prop :=
  (∀ b, aIn (sI b).toInt (aDf b)) ∧ (∀ b, aAg b = true → (sL b).toInt = (sI b).toInt) ∧ sI 5 = sI 0 &&& 15 ∧ (∀ b, b < 5 → sL b = (sI b).toInt64) ∧ sL 5 = sL 1 <<< ((32 : Int32).toInt64 &&& 63) ∧ sL 6 = sL 2 &&& 4294967295 ∧ sL 7 = sL 5 ||| sL 6 ∧ (∀ k, k < 8 → sL (10 + k) = sL 7 >>> ((Int32.ofNat (8 * k)).toInt64 &&& 63)) ∧ (∀ k, 10 ≤ k → k < 18 → sL (k + 10) = sL k &&& 255) ∧ (∀ k, 20 ≤ k → k < 28 → sI k = (sL k).toInt32) ∧ (∀ k, 20 ≤ k → k < 28 → ((sI k).toUInt32 % 65536).toInt32 = sI k)
section AS
variable {sI : Nat → Int32} {sL : Nat → Int64}
theorem aS_cat (v : Value) : (aS sI sL v).category = v.category := by cases v <;> rfl
theorem aS_exa {v : Value} (h : aExa v = true) : aS sI sL v = v := by
  cases v <;> first | rfl | cases h
theorem aSs_exa {l : List Value} (h : l.all aExa = true) : aSs sI sL l = l := by
  induction l with
  | nil => rfl
  | cons v r ih =>
    rw [List.all_cons, Bool.and_eq_true] at h
    show aS sI sL v :: aSs sI sL r = v :: r
    rw [aS_exa h.1, ih h.2]
theorem aSs_cons (v : Value) (r : List Value) : aSs sI sL (v :: r) = aS sI sL v :: aSs sI sL r := rfl
theorem aSs_app (l r : List Value) : aSs sI sL (l ++ r) = aSs sI sL l ++ aSs sI sL r := List.map_append
theorem aSs_cats (l : List Value) : (aSs sI sL l).map (fun v => v.category) = l.map (fun v => v.category) := by
  unfold aSs
  rw [List.map_map]
  exact List.map_congr_left (fun v _ => aS_cat v)
theorem aGet_ok (hD : aDn sI sL) {fs : aF} (h : aOk sI fs) (b : Nat) : aIn (sI b).toInt (aGet fs b) := by
  unfold aGet
  induction fs with
  | nil => exact hD.1 b
  | cons q r ih =>
    unfold aLk
    by_cases hq : q.1 = b
    · rw [if_pos hq]
      have := h q List.mem_cons_self
      rw [hq] at this
      exact this
    · rw [if_neg hq]
      exact ih (fun q hq => h q (List.mem_cons_of_mem _ hq))
theorem aSet_ok {fs : aF} (h : aOk sI fs) {b : Nat} {rs : List (Int × Int)} (hr : aIn (sI b).toInt rs) : aOk sI (aSet fs b rs) := by
  intro q hq
  rcases List.mem_cons.mp hq with rfl | hq
  · exact hr
  · exact h q (List.mem_filter.mp hq).1
theorem aLe_ok {x c : Int} {rs : List (Int × Int)} (h : aIn x rs) (hx : x ≤ c) : aIn x (aLe rs c) := by
  obtain ⟨r, hr, h1, h2⟩ := h
  refine ⟨(r.1, if r.2 ≤ c then r.2 else c), List.mem_filterMap.mpr ⟨r, hr, if_pos (Int.le_trans h1 hx)⟩, h1, ?_⟩
  show x ≤ if r.2 ≤ c then r.2 else c
  split
  · exact h2
  · exact hx
theorem aGe_ok {x c : Int} {rs : List (Int × Int)} (h : aIn x rs) (hx : c ≤ x) : aIn x (aGe rs c) := by
  obtain ⟨r, hr, h1, h2⟩ := h
  refine ⟨(if c ≤ r.1 then r.1 else c, r.2), List.mem_filterMap.mpr ⟨r, hr, if_pos (Int.le_trans hx h2)⟩, ?_, h2⟩
  show (if c ≤ r.1 then r.1 else c) ≤ x
  split
  · exact h1
  · exact hx
theorem aCut_ok {x : Int} {rs : List (Int × Int)} (h : aIn x rs) (c : ClassFile.Cond) (y : Int) : ∃ p ∈ aCut c rs y, aIn x p := by
  have k1 : ∃ p ∈ [aLe rs (y - 1), aGe rs y], aIn x p := by
    by_cases hx : x ≤ y - 1
    · exact ⟨_, List.mem_cons_self, aLe_ok h hx⟩
    · exact ⟨_, List.mem_cons_of_mem _ List.mem_cons_self, aGe_ok h (by omega)⟩
  have k2 : ∃ p ∈ [aLe rs y, aGe rs (y + 1)], aIn x p := by
    by_cases hx : x ≤ y
    · exact ⟨_, List.mem_cons_self, aLe_ok h hx⟩
    · exact ⟨_, List.mem_cons_of_mem _ List.mem_cons_self, aGe_ok h (by omega)⟩
  have k3 : ∃ p ∈ [aLe rs (y - 1), aLe (aGe rs y) y, aGe rs (y + 1)], aIn x p := by
    by_cases hx : x ≤ y - 1
    · exact ⟨_, List.mem_cons_self, aLe_ok h hx⟩
    · by_cases hy : x ≤ y
      · exact ⟨_, List.mem_cons_of_mem _ List.mem_cons_self, aLe_ok (aGe_ok h (by omega)) hy⟩
      · exact ⟨_, List.mem_cons_of_mem _ (List.mem_cons_of_mem _ List.mem_cons_self), aGe_ok h (by omega)⟩
  cases c
  all_goals first | exact k1 | exact k2 | exact k3
theorem aCs_ok {fs : aF} (h : aOk sI fs) {b : Nat} {rss : List (List (Int × Int))} (st : List Value) (hc : ∃ p ∈ rss, aIn (sI b).toInt p) : ∃ q ∈ aCs fs b rss st, aOk sI q.1 ∧ q.2 = st := by
  obtain ⟨p, hp, hi⟩ := hc
  refine ⟨(aSet fs b p, st), List.mem_map.mpr ⟨p, List.mem_filter.mpr ⟨hp, ?_⟩, rfl⟩, aSet_ok h hi, rfl⟩
  obtain ⟨r, hr, -⟩ := hi
  cases p with
  | nil => cases hr
  | cons a l => rfl
theorem aVals_ok {x : Int} {rs : List (Int × Int)} {vs : List Int} (h : aIn x rs) (hv : aVals rs = some vs) : x ∈ vs := by
  unfold aVals at hv
  split at hv
  · cases hv
    obtain ⟨r, hr, h1, h2⟩ := h
    refine List.mem_flatMap.mpr ⟨r, hr, List.mem_map.mpr ⟨(x - r.1).toNat, List.mem_range.mpr (by omega), by omega⟩⟩
  · cases hv
theorem aVs_ok {fs : aF} (h : aOk sI fs) {b : UInt32} {vs : List Int} (f : Value → List Value) (hv : (sI b.toNat).toInt ∈ vs) (hf : ∀ v w, aS sI sL v = aS sI sL w → aSs sI sL (f v) = aSs sI sL (f w)) : ∃ q ∈ aVs fs b.toNat vs f, aOk sI q.1 ∧ aSs sI sL q.2 = aSs sI sL (f (.float b)) := by
  refine ⟨_, List.mem_map.mpr ⟨_, hv, rfl⟩, aSet_ok h ⟨_, List.mem_cons_self, Int.le_refl _, Int.le_refl _⟩, hf _ _ ?_⟩
  show Value.int (Int32.ofInt (sI b.toNat).toInt) = Value.int (sI b.toNat)
  rw [Int32.ofInt_toInt]
theorem aCn_ok {c : ClassFile.Cond} {x y : Int32} {r : Int × Int} (h1 : r.1 ≤ x.toInt) (h2 : x.toInt ≤ r.2) (h : aCn c y.toInt r = true) : mCnd c x y = true := by
  cases c
  all_goals simp only [aCn, Bool.and_eq_true, Bool.or_eq_true, decide_eq_true_eq] at h
  all_goals simp only [mCnd, decide_eq_true_eq]
  · exact Int32.toInt_inj.mp (by omega)
  · intro hxy
    subst hxy
    omega
  · rw [Int32.lt_iff_toInt_lt]; omega
  · rw [Int32.le_iff_toInt_le]; omega
  · rw [Int32.lt_iff_toInt_lt]; omega
  · rw [Int32.le_iff_toInt_le]; omega
theorem mCnd_neg (c : ClassFile.Cond) (x y : Int32) (h : mCnd (aNeg c) x y = true) : mCnd c x y = false := by
  cases c
  all_goals simp only [aNeg, mCnd, decide_eq_true_eq, decide_eq_false_iff_not] at h ⊢
  · exact h
  · exact fun k => k h
  · intro k
    rw [Int32.lt_iff_toInt_lt] at k
    rw [Int32.le_iff_toInt_le] at h
    omega
  · intro k
    rw [Int32.lt_iff_toInt_lt] at h
    rw [Int32.le_iff_toInt_le] at k
    omega
  · intro k
    rw [Int32.lt_iff_toInt_lt] at k
    rw [Int32.le_iff_toInt_le] at h
    omega
  · intro k
    rw [Int32.lt_iff_toInt_lt] at h
    rw [Int32.le_iff_toInt_le] at k
    omega
theorem mCnd_sw (c : ClassFile.Cond) (x y : Int32) : mCnd (aSw c) x y = mCnd c y x := by
  cases c
  · show decide (x = y) = decide (y = x)
    exact decide_eq_decide.mpr eq_comm
  · show decide (¬ x = y) = decide (¬ y = x)
    exact decide_eq_decide.mpr (not_congr eq_comm)
  all_goals rfl
theorem aDec_ok {c : ClassFile.Cond} {x y : Int32} {rs : List (Int × Int)} {t : Bool} (h : aIn x.toInt rs) (hd : aDec c rs y.toInt = some t) : mCnd c x y = t := by
  obtain ⟨r, hr, h1, h2⟩ := h
  unfold aDec at hd
  split at hd
  · rename_i hq
    cases hd
    exact aCn_ok h1 h2 (List.all_eq_true.mp hq r hr)
  · split at hd
    · rename_i hq
      cases hd
      exact mCnd_neg c x y (aCn_ok h1 h2 (List.all_eq_true.mp hq r hr))
    · cases hd
theorem aSg_ok {x y : Int64} {rs : List (Int × Int)} {v : Int32} (h : aIn x.toInt rs) (hd : aSg rs y.toInt = some v) : lg_cmp x y = v := by
  obtain ⟨r, hr, h1, h2⟩ := h
  unfold aSg at hd
  unfold lg_cmp
  split at hd
  · rename_i hq
    cases hd
    have := List.all_eq_true.mp hq r hr
    simp only [aCn, decide_eq_true_eq] at this
    exact if_pos (Int64.lt_iff_toInt_lt.mpr (by omega))
  · split at hd
    · rename_i hq
      cases hd
      have := List.all_eq_true.mp hq r hr
      simp only [aCn, Bool.and_eq_true, decide_eq_true_eq] at this
      have e : x = y := Int64.toInt_inj.mp (by omega)
      subst e
      rw [if_neg (fun k => by have := Int64.lt_iff_toInt_lt.mp k; omega), if_pos rfl]
    · split at hd
      · rename_i hq
        cases hd
        have := List.all_eq_true.mp hq r hr
        simp only [aCn, decide_eq_true_eq] at this
        rw [if_neg (fun k => by have := Int64.lt_iff_toInt_lt.mp k; omega), if_neg (fun k => by subst k; omega)]
      · cases hd
theorem aLd (lv : mL) (i : Nat) : mLd (aSv sI sL lv) i = (mLd lv i).map (aS sI sL) := by
  induction lv with
  | nil => rfl
  | cons q r ih =>
    show (if q.1 = i then some (aS sI sL q.2) else mLd (aSv sI sL r) i) = (if q.1 = i then some q.2 else mLd r i).map (aS sI sL)
    split
    · rfl
    · exact ih
theorem aSv_fil (f : Nat × Value → Bool) (hf : ∀ q : Nat × Value, f (q.1, aS sI sL q.2) = f q) (lv : mL) : (aSv sI sL lv).filter f = aSv sI sL (lv.filter f) := by
  induction lv with
  | nil => rfl
  | cons q r ih =>
    show List.filter f ((q.1, aS sI sL q.2) :: aSv sI sL r) = _
    rw [List.filter_cons, List.filter_cons, hf, ih]
    split <;> rfl
theorem aSt1 (lv : mL) (i : Nat) (v : Value) : mSt1 (aSv sI sL lv) i (aS sI sL v) = aSv sI sL (mSt1 lv i v) := by
  unfold mSt1
  rw [aSv_fil _ (fun q => by rw [aS_cat])]
  rfl
theorem aSt2 (lv : mL) (i : Nat) (v : Value) : mSt2 (aSv sI sL lv) i (aS sI sL v) = aSv sI sL (mSt2 lv i v) := by
  unfold mSt2
  rw [aSv_fil _ (fun q => by rw [aS_cat])]
  rfl
theorem lv_args_s : ∀ (as : List Value) (i : Nat), lv_args i (aSs sI sL as) = aSv sI sL (lv_args i as)
  | [], _ => rfl
  | v :: as, i => by
    show (i, aS sI sL v) :: lv_args (if (aS sI sL v).category = 2 then i + 2 else i + 1) (aSs sI sL as) = aSv sI sL ((i, v) :: lv_args (if v.category = 2 then i + 2 else i + 1) as)
    rw [aS_cat, lv_args_s as]
    rfl
theorem lg_sl_s : ∀ as : List Value, (lg_sl (aSs sI sL as)).length = (lg_sl as).length
  | [] => rfl
  | v :: as => by
    have h := lg_sl_s as
    unfold lg_sl at h ⊢
    rw [aSs_cons, List.flatMap_cons, List.flatMap_cons, List.length_append, List.length_append, h]
    cases v <;> rfl
end AS
