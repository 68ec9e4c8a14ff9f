/-! THE MACHINE WITH UNKNOWN NUMBERS IS SOUND: the heap -/
def aCr (sI : Nat → Int32) (sL : Nat → Int64) (a : aC) (c : mC) : Prop := match a with
  | none => c = none
  | some (.inr (ci, fs)) => c = some (.inr (ci, aSs sI sL fs))
  | some (.inl (k, n, z)) => if k = 1 then ∃ f : Nat → Int64, c = some (.inl (1, n, .inr (.inl f))) ∧ ∀ v, z = some v → ∀ j, j < n → Value.long (f j) = aS sI sL v
    else if k = 5 then ∃ f : Nat → Int32, c = some (.inl (4, n, .inl f)) ∧ ∀ j, j < n → f j = sI j
    else ∃ f : Nat → Int32, c = some (.inl (k, n, .inl f)) ∧ ∀ v, z = some v → ∀ j, j < n → Value.int (f j) = aS sI sL v
def aHr (sI : Nat → Int32) (sL : Nat → Int64) (h : aH) (hc : mH) : Prop := h.length = hc.length ∧ ∀ (i : Nat) (a : aC), h[i]? = some a → ∃ c, hc[i]? = some c ∧ aCr sI sL a c
section AH
variable {sI : Nat → Int32} {sL : Nat → Int64}
theorem aHr.set {h : aH} {hc : mH} (hh : aHr sI sL h hc) {a : aC} {c : mC} (i : Nat) (hr : aCr sI sL a c) : aHr sI sL (h.set i a) (hc.set i c) := by
  refine ⟨by rw [List.length_set, List.length_set]; exact hh.1, fun j x hx => ?_⟩
  rw [List.getElem?_set] at hx ⊢
  rw [hh.1] at hx
  split at hx
  · rename_i hi
    rw [if_pos hi]
    split at hx
    · rename_i hl
      cases hx
      exact ⟨c, if_pos hl, hr⟩
    · cases hx
  · rename_i hi
    rw [if_neg hi]
    exact hh.2 j x hx
theorem aHr.push {h : aH} {hc : mH} (hh : aHr sI sL h hc) {a : aC} {c : mC} (hr : aCr sI sL a c) : aHr sI sL (h ++ [a]) (hc ++ [c]) := by
  refine ⟨by rw [List.length_append, List.length_append, hh.1]; rfl, fun j x hx => ?_⟩
  rw [List.getElem?_append] at hx ⊢
  rw [← hh.1]
  split at hx
  · rename_i hi
    rw [if_pos hi]
    exact hh.2 j x hx
  · rename_i hi
    rw [if_neg hi]
    cases hk : j - h.length with
    | zero => rw [hk] at hx; cases hx; exact ⟨c, rfl, hr⟩
    | succ m => rw [hk] at hx; cases hx
theorem aCr.obj {ci : Nat} {fs : List Value} {c : mC} (h : aCr sI sL (some (.inr (ci, fs))) c) : c = some (.inr (ci, aSs sI sL fs)) := h
theorem aCr.lng {n : Nat} {z : Option Value} {c : mC} (h : aCr sI sL (some (.inl (1, n, z))) c) : ∃ f : Nat → Int64, c = some (.inl (1, n, .inr (.inl f))) ∧ ∀ v, z = some v → ∀ j, j < n → Value.long (f j) = aS sI sL v := h
theorem aCr.scr {n : Nat} {z : Option Value} {c : mC} (h : aCr sI sL (some (.inl (5, n, z))) c) : ∃ f : Nat → Int32, c = some (.inl (4, n, .inl f)) ∧ ∀ j, j < n → f j = sI j := h
theorem aCr.int {k n : Nat} {z : Option Value} {c : mC} (h1 : ¬ k = 1) (h5 : ¬ k = 5) (h : aCr sI sL (some (.inl (k, n, z))) c) : ∃ f : Nat → Int32, c = some (.inl (k, n, .inl f)) ∧ ∀ v, z = some v → ∀ j, j < n → Value.int (f j) = aS sI sL v := by
  unfold aCr at h
  dsimp only at h
  rw [if_neg h1, if_neg h5] at h
  exact h
theorem aCr.mint {k n : Nat} {z : Option Value} {f : Nat → Int32} (h1 : ¬ k = 1) (h5 : ¬ k = 5) (h : ∀ v, z = some v → ∀ j, j < n → Value.int (f j) = aS sI sL v) : aCr sI sL (some (.inl (k, n, z))) (some (.inl (k, n, .inl f))) := by
  unfold aCr
  dsimp only
  rw [if_neg h1, if_neg h5]
  exact ⟨f, rfl, h⟩
theorem mIn_lt {i : Int32} {n : Nat} (h : mIn i n = true) : i.toNatClampNeg < n := by
  unfold mIn at h
  rw [Bool.and_eq_true, decide_eq_true_eq] at h
  exact h.2
theorem aIx_ok (hD : aDn sI sL) {fs : aF} (hO : aOk sI fs) {n : Nat} {x : Value} (h : aIx fs n x = true) : ∃ i, aS sI sL x = .int i ∧ mIn i n = true := by
  unfold aIx at h
  split at h
  · exact ⟨_, rfl, h⟩
  · rename_i b
    refine ⟨sI b.toNat, rfl, ?_⟩
    obtain ⟨w, hw, h1, h2⟩ := aGet_ok hD hO b.toNat
    have h3 := List.all_eq_true.mp h w hw
    rw [Bool.and_eq_true, decide_eq_true_eq, decide_eq_true_eq] at h3
    unfold mIn
    rw [Bool.and_eq_true, decide_eq_true_eq, Bool.not_eq_true', decide_eq_false_iff_not, Int32.lt_iff_toInt_lt]
    have e : (sI b.toNat).toNatClampNeg = (sI b.toNat).toInt.toNat := rfl
    have z : (0 : Int32).toInt = 0 := rfl
    rw [e, z]
    omega
  · cases h
set_option maxHeartbeats 2000000 in
theorem aG_ok (hD : aDn sI sL) {fs : aF} (hO : aOk sI fs) {h : aH} {hc : mH} (hh : aHr sI sL h hc) {i : Instr} {o1 o2 : Nat} {v : Value} {st st' : List Value} (hg : aG fs i o1 o2 v st h = some st') : mG i o1 o2 v (aSs sI sL st) hc = some (aSs sI sL st') := by
  cases i <;> simp only [aG, reduceCtorEq] at hg
  case getfield ix =>
    split at hg
    · split at hg
      · rename_i a r _ ci fs hq
        split at hg
        · rename_i hci
          obtain ⟨c, e1, e2⟩ := hh.2 _ _ hq
          rw [e2.obj] at e1
          show (match hc[a]? with
            | some (some (.inr (ci, fs))) => if ci = o1 then (fs[o2]?).map (fun x => x :: aSs sI sL r) else none
            | _ => none) = some (aSs sI sL st')
          rw [e1]
          show (if ci = o1 then ((aSs sI sL fs)[o2]?).map (fun x => x :: aSs sI sL r) else none) = some (aSs sI sL st')
          rw [if_pos hci]
          unfold aSs
          rw [List.getElem?_map]
          cases hf : fs[o2]? with
          | none => rw [hf] at hg; cases hg
          | some y => rw [hf] at hg; cases hg; rfl
        · cases hg
      · cases hg
    · cases hg
  case iaload =>
    split at hg
    · rename_i x a r
      split at hg
      · rename_i _ n z hq
        split at hg
        · rename_i hx
          cases hg
          obtain ⟨i, hi1, hi2⟩ := aIx_ok hD hO hx
          obtain ⟨c, e1, e2⟩ := hh.2 _ _ hq
          obtain ⟨f, e3, e4⟩ := e2.int (by decide) (by decide)
          rw [e3] at e1
          rw [aSs_cons, hi1]
          show (match hc[a]? with
            | some (some (.inl (0, n, .inl f))) => if mIn i n = true then some (.int (f i.toNatClampNeg) :: aSs sI sL r) else none
            | some (some (.inl (4, n, .inl f))) => if mIn i n = true then some (.int (f i.toNatClampNeg) :: aSs sI sL r) else none
            | _ => none) = some (aSs sI sL (z :: r))
          rw [e1]
          show (if mIn i n = true then some (.int (f i.toNatClampNeg) :: aSs sI sL r) else none) = some (aSs sI sL (z :: r))
          rw [if_pos hi2, e4 z rfl _ (mIn_lt hi2)]
          rfl
        · cases hg
      · rename_i _ n z hq
        split at hg
        · rename_i i
          split at hg
          · rename_i hx
            cases hg
            obtain ⟨c, e1, e2⟩ := hh.2 _ _ hq
            obtain ⟨f, e3, e4⟩ := e2.scr
            rw [e3] at e1
            show (match hc[a]? with
              | some (some (.inl (0, n, .inl f))) => if mIn i n = true then some (.int (f i.toNatClampNeg) :: aSs sI sL r) else none
              | some (some (.inl (4, n, .inl f))) => if mIn i n = true then some (.int (f i.toNatClampNeg) :: aSs sI sL r) else none
              | _ => none) = some (aSs sI sL (_ :: r))
            rw [e1]
            show (if mIn i n = true then some (.int (f i.toNatClampNeg) :: aSs sI sL r) else none) = some (Value.int (sI (UInt32.ofNat i.toNatClampNeg).toNat) :: aSs sI sL r)
            rw [if_pos hx.1, e4 _ (mIn_lt hx.1), aId32 (by omega)]
          · cases hg
        · cases hg
      · cases hg
    · cases hg
  case caload =>
    split at hg
    · rename_i x a r
      split at hg
      · rename_i _ n z hq
        split at hg
        · rename_i hx
          cases hg
          obtain ⟨i, hi1, hi2⟩ := aIx_ok hD hO hx
          obtain ⟨c, e1, e2⟩ := hh.2 _ _ hq
          obtain ⟨f, e3, e4⟩ := e2.int (by decide) (by decide)
          rw [e3] at e1
          rw [aSs_cons, hi1]
          show (match hc[a]? with
            | some (some (.inl (2, n, .inl f))) => if mIn i n = true then some (.int (f i.toNatClampNeg) :: aSs sI sL r) else none
            | _ => none) = some (aSs sI sL (z :: r))
          rw [e1]
          show (if mIn i n = true then some (.int (f i.toNatClampNeg) :: aSs sI sL r) else none) = some (aSs sI sL (z :: r))
          rw [if_pos hi2, e4 z rfl _ (mIn_lt hi2)]
          rfl
        · cases hg
      · cases hg
    · cases hg
  case baload =>
    split at hg
    · rename_i x a r
      split at hg
      · rename_i _ n z hq
        split at hg
        · rename_i hx
          cases hg
          obtain ⟨i, hi1, hi2⟩ := aIx_ok hD hO hx
          obtain ⟨c, e1, e2⟩ := hh.2 _ _ hq
          obtain ⟨f, e3, e4⟩ := e2.int (by decide) (by decide)
          rw [e3] at e1
          rw [aSs_cons, hi1]
          show (match hc[a]? with
            | some (some (.inl (3, n, .inl f))) => if mIn i n = true then some (.int (f i.toNatClampNeg) :: aSs sI sL r) else none
            | _ => none) = some (aSs sI sL (z :: r))
          rw [e1]
          show (if mIn i n = true then some (.int (f i.toNatClampNeg) :: aSs sI sL r) else none) = some (aSs sI sL (z :: r))
          rw [if_pos hi2, e4 z rfl _ (mIn_lt hi2)]
          rfl
        · cases hg
      · cases hg
    · cases hg
  case laload =>
    split at hg
    · rename_i x a r
      split at hg
      · rename_i _ n z hq
        split at hg
        · rename_i hx
          cases hg
          obtain ⟨i, hi1, hi2⟩ := aIx_ok hD hO hx
          obtain ⟨c, e1, e2⟩ := hh.2 _ _ hq
          obtain ⟨f, e3, e4⟩ := e2.lng
          rw [e3] at e1
          rw [aSs_cons, hi1]
          show (match hc[a]? with
            | some (some (.inl (1, n, .inr (.inl f)))) => if mIn i n = true then some (.long (f i.toNatClampNeg) :: aSs sI sL r) else none
            | _ => none) = some (aSs sI sL (z :: r))
          rw [e1]
          show (if mIn i n = true then some (.long (f i.toNatClampNeg) :: aSs sI sL r) else none) = some (aSs sI sL (z :: r))
          rw [if_pos hi2, e4 z rfl _ (mIn_lt hi2)]
          rfl
        · cases hg
      · cases hg
    · cases hg
  case arraylength =>
    split at hg
    · rename_i a r
      split at hg
      · rename_i _ t n z hq
        split at hg
        · rename_i ht
          cases hg
          obtain ⟨c, e1, e2⟩ := hh.2 _ _ hq
          show (match hc[a]? with
            | some (some (.inl (4, n, .inl _))) => some (.int (Int32.ofNat n) :: aSs sI sL r)
            | some (some (.inl (t, n, _))) => if t < 4 then some (.int (Int32.ofNat n) :: aSs sI sL r) else none
            | _ => none) = some (Value.int (Int32.ofNat n) :: aSs sI sL r)
          by_cases h1 : t = 1
          · subst h1
            obtain ⟨f, e3, -⟩ := e2.lng
            rw [e1, e3]
            rfl
          · by_cases h5 : t = 5
            · subst h5
              obtain ⟨f, e3, -⟩ := e2.scr
              rw [e1, e3]
              rfl
            · obtain ⟨f, e3, -⟩ := e2.int h1 h5
              rw [e1, e3]
              have : t = 0 ∨ t = 2 ∨ t = 3 ∨ t = 4 := by omega
              rcases this with rfl | rfl | rfl | rfl <;> rfl
        · cases hg
      · cases hg
    · cases hg
  all_goals
    split at hg
    · rename_i hv
      cases hg
      show some (v :: aSs sI sL st) = some (aS sI sL v :: aSs sI sL st)
      rw [aS_exa hv]
    · cases hg
theorem aFit_ok {k : Nat} {v : Value} (h : aFit k v = true) : mFit k (aS sI sL v) = true := by
  unfold aFit at h
  split at h <;> first | exact h | rfl | cases h
theorem aFit0 {v : Value} (h : aFit 0 v = true) : ∃ x, aS sI sL v = .int x := by
  cases v <;> first | exact ⟨_, rfl⟩ | cases h
theorem aFit2 {v : Value} (h : aFit 2 v = true) : ∃ x, aS sI sL v = .long x := by
  cases v <;> first | exact ⟨_, rfl⟩ | cases h
theorem aPut_int {n i : Nat} {z : Option Value} {v : Value} {x : Int32} {f : Nat → Int32} (hx : aS sI sL v = .int x) (hi : i < n) (hf : ∀ w, z = some w → ∀ j, j < n → Value.int (f j) = aS sI sL w) : ∀ w, aPut n z v = some w → ∀ j, j < n → Value.int (upd f i x j) = aS sI sL w := by
  intro w hw j hj
  unfold aPut at hw
  unfold upd
  split at hw
  · cases hw
    rw [if_pos (by omega), hx]
  · split at hw
    · rename_i hz
      rw [hz] at hw
      cases hw
      split
      · exact hx.symm
      · exact hf _ hz j hj
    · cases hw
theorem aPut_lng {n i : Nat} {z : Option Value} {v : Value} {x : Int64} {f : Nat → Int64} (hx : aS sI sL v = .long x) (hi : i < n) (hf : ∀ w, z = some w → ∀ j, j < n → Value.long (f j) = aS sI sL w) : ∀ w, aPut n z v = some w → ∀ j, j < n → Value.long (vp_updL f i x j) = aS sI sL w := by
  intro w hw j hj
  unfold aPut at hw
  unfold vp_updL
  split at hw
  · cases hw
    rw [if_pos (by omega), hx]
  · split at hw
    · rename_i hz
      rw [hz] at hw
      cases hw
      split
      · exact hx.symm
      · exact hf _ hz j hj
    · cases hw
set_option maxHeartbeats 2000000 in
theorem aP_ok (hD : aDn sI sL) {fs : aF} (hO : aOk sI fs) {h h' : aH} {hc : mH} (hh : aHr sI sL h hc) {k0 : Nat} {i : Instr} {o1 o2 o3 : Nat} {st st' : List Value} (hg : aP fs k0 i o1 o2 o3 st h = some (st', h')) : ∃ hc', mP k0 i o1 o2 o3 (aSs sI sL st) hc = some (aSs sI sL st', hc') ∧ aHr sI sL h' hc' := by
  cases i <;> simp only [aP, reduceCtorEq] at hg
  case putfield ix =>
    split at hg
    · rename_i v a r
      split at hg
      · rename_i _ ci fs hq
        split at hg
        · rename_i hci
          cases hg
          obtain ⟨c, e1, e2⟩ := hh.2 _ _ hq
          rw [e2.obj] at e1
          refine ⟨hc.set a (some (.inr (ci, (aSs sI sL fs).set o2 (aS sI sL v)))), ?_, hh.set a ?_⟩
          · show (match hc[a]? with
              | some (some (.inr (ci, fs))) => if ci = o1 ∧ k0 ≤ a ∧ o2 < fs.length ∧ mFit o3 (aS sI sL v) = true then some (aSs sI sL st', hc.set a (some (.inr (ci, fs.set o2 (aS sI sL v))))) else none
              | _ => none) = _
            rw [e1]
            exact if_pos ⟨hci.1, hci.2.1, by unfold aSs; rw [List.length_map]; exact hci.2.2.1, aFit_ok hci.2.2.2⟩
          · show some (Sum.inr (ci, (aSs sI sL fs).set o2 (aS sI sL v))) = some (Sum.inr (ci, aSs sI sL (fs.set o2 v)))
            unfold aSs
            rw [List.map_set]
        · cases hg
      · cases hg
    · cases hg
  case iastore =>
    split at hg
    · rename_i v x a r
      split at hg
      · rename_i _ n z hq
        split at hg
        · rename_i hci
          cases hg
          obtain ⟨i, hi1, hi2⟩ := aIx_ok hD hO hci.1
          obtain ⟨y, hy⟩ := aFit0 (sI := sI) (sL := sL) hci.2.2
          obtain ⟨c, e1, e2⟩ := hh.2 _ _ hq
          obtain ⟨f, e3, e4⟩ := e2.int (by decide) (by decide)
          rw [e3] at e1
          refine ⟨hc.set a (some (.inl (0, n, .inl (upd f i.toNatClampNeg y)))), ?_, hh.set a (aCr.mint (by decide) (by decide) (aPut_int hy (mIn_lt hi2) e4))⟩
          rw [aSs_cons, aSs_cons, hy, hi1]
          show (match hc[a]? with
            | some (some (.inl (0, n, .inl f))) => if mIn i n = true ∧ k0 ≤ a then some (aSs sI sL st', hc.set a (some (.inl (0, n, .inl (upd f i.toNatClampNeg y))))) else none
            | _ => none) = _
          rw [e1]
          exact if_pos ⟨hi2, hci.2.1⟩
        · cases hg
      · cases hg
    · cases hg
  case castore =>
    split at hg
    · rename_i v x a r
      split at hg
      · rename_i _ n z hq
        split at hg
        · rename_i hci
          cases hg
          obtain ⟨i, hi1, hi2⟩ := aIx_ok hD hO hci.1
          obtain ⟨y, hy⟩ := aFit0 (sI := sI) (sL := sL) hci.2.2
          obtain ⟨c, e1, e2⟩ := hh.2 _ _ hq
          obtain ⟨f, e3, e4⟩ := e2.int (by decide) (by decide)
          rw [e3] at e1
          refine ⟨hc.set a (some (.inl (2, n, .inl (upd f i.toNatClampNeg (vp_nar .char y))))), ?_, hh.set a (aCr.mint (by decide) (by decide) (fun w hw => by cases hw))⟩
          rw [aSs_cons, aSs_cons, hy, hi1]
          show (match hc[a]? with
            | some (some (.inl (2, n, .inl f))) => if mIn i n = true ∧ k0 ≤ a then some (aSs sI sL st', hc.set a (some (.inl (2, n, .inl (upd f i.toNatClampNeg (vp_nar .char y)))))) else none
            | _ => none) = _
          rw [e1]
          exact if_pos ⟨hi2, hci.2.1⟩
        · cases hg
      · cases hg
    · cases hg
  case bastore =>
    split at hg
    · rename_i v x a r
      split at hg
      · rename_i _ n z hq
        split at hg
        · rename_i hci
          cases hg
          obtain ⟨i, hi1, hi2⟩ := aIx_ok hD hO hci.1
          obtain ⟨y, hy⟩ := aFit0 (sI := sI) (sL := sL) hci.2.2
          obtain ⟨c, e1, e2⟩ := hh.2 _ _ hq
          obtain ⟨f, e3, e4⟩ := e2.int (by decide) (by decide)
          rw [e3] at e1
          refine ⟨hc.set a (some (.inl (3, n, .inl (upd f i.toNatClampNeg (vp_nar .boolean y))))), ?_, hh.set a (aCr.mint (by decide) (by decide) (fun w hw => by cases hw))⟩
          rw [aSs_cons, aSs_cons, hy, hi1]
          show (match hc[a]? with
            | some (some (.inl (3, n, .inl f))) => if mIn i n = true ∧ k0 ≤ a then some (aSs sI sL st', hc.set a (some (.inl (3, n, .inl (upd f i.toNatClampNeg (vp_nar .boolean y)))))) else none
            | _ => none) = _
          rw [e1]
          exact if_pos ⟨hi2, hci.2.1⟩
        · cases hg
      · cases hg
    · cases hg
  case lastore =>
    split at hg
    · rename_i v x a r
      split at hg
      · rename_i _ n z hq
        split at hg
        · rename_i hci
          cases hg
          obtain ⟨i, hi1, hi2⟩ := aIx_ok hD hO hci.1
          obtain ⟨y, hy⟩ := aFit2 (sI := sI) (sL := sL) hci.2.2
          obtain ⟨c, e1, e2⟩ := hh.2 _ _ hq
          obtain ⟨f, e3, e4⟩ := e2.lng
          rw [e3] at e1
          refine ⟨hc.set a (some (.inl (1, n, .inr (.inl (vp_updL f i.toNatClampNeg y))))), ?_, hh.set a ⟨_, rfl, aPut_lng hy (mIn_lt hi2) e4⟩⟩
          rw [aSs_cons, aSs_cons, hy, hi1]
          show (match hc[a]? with
            | some (some (.inl (1, n, .inr (.inl f)))) => if mIn i n = true ∧ k0 ≤ a then some (aSs sI sL st', hc.set a (some (.inl (1, n, .inr (.inl (vp_updL f i.toNatClampNeg y)))))) else none
            | _ => none) = _
          rw [e1]
          exact if_pos ⟨hi2, hci.2.1⟩
        · cases hg
      · cases hg
    · cases hg
theorem aNa_ok {h h' : aH} {hc : mH} (hh : aHr sI sL h hc) {k : Nat} {z : Value} {g : Nat → vp_A} {st st' : List Value} (hk : ∀ n, aCr sI sL (some (.inl (k, n, some z))) (some (.inl (k, g n)))) (hg : aNa k z st h = some (st', h')) : ∃ hc', mNa k (aSs sI sL st) hc g = some (aSs sI sL st', hc') ∧ aHr sI sL h' hc' := by
  unfold aNa at hg
  split at hg
  · rename_i n r
    split at hg
    · rename_i hq
      cases hg
      refine ⟨hc ++ [some (.inl (k, g n.toNatClampNeg))], ?_, hh.push (hk _)⟩
      show (if ¬ n < 0 ∧ n.toNatClampNeg ≤ 1000 then some (.ref hc.length :: aSs sI sL r, hc ++ [some (.inl (k, g n.toNatClampNeg))]) else none) = some (Value.ref h.length :: aSs sI sL r, _)
      rw [if_pos hq, hh.1]
    · cases hg
  · cases hg
theorem aN_ok {h h' : aH} {hc : mH} (hh : aHr sI sL h hc) {dflt : Nat → List Value} {i : Instr} {o1 : Nat} {st st' : List Value} (hg : aN dflt i o1 st h = some (st', h')) : ∃ hc', mN dflt i o1 (aSs sI sL st) hc = some (aSs sI sL st', hc') ∧ aHr sI sL h' hc' := by
  cases i <;> simp only [aN, reduceCtorEq] at hg
  case newarray t =>
    cases t <;> simp only [reduceCtorEq] at hg <;> simp only [mN]
    all_goals first
      | exact aNa_ok hh (fun n => ⟨_, rfl, fun v hv j _ => by cases hv; rfl⟩) hg
      | exact aNa_ok hh (fun n => aCr.mint (by decide) (by decide) (fun v hv j _ => by cases hv; rfl)) hg
  case new ix =>
    split at hg
    · rename_i hq
      cases hg
      refine ⟨hc ++ [some (.inr (o1, dflt o1))], ?_, hh.push ?_⟩
      · show some (Value.ref hc.length :: aSs sI sL st, _) = some (Value.ref h.length :: aSs sI sL st, _)
        rw [hh.1]
      · show some (Sum.inr (o1, dflt o1)) = some (Sum.inr (o1, aSs sI sL (dflt o1)))
        rw [aSs_exa hq]
    · cases hg
theorem aX_ok {o3 : Nat} {st st' : List Value} (hc : mH) (hg : aX o3 st = some st') : mX o3 (aSs sI sL st) hc = some (aSs sI sL st', hc) := by
  unfold aX at hg
  split at hg
  · split at hg
    · split at hg
      · rename_i a r hq
        cases hg
        show (if ((aSs sI sL st').map fun v => v.category).sum ≤ 8 then some (aSs sI sL st', hc) else none) = _
        rw [aSs_cats, if_pos hq]
      · cases hg
    · cases hg
  · split at hg
    · split at hg
      · rename_i y x r hq
        cases hg
        show (if ((aSs sI sL r).map fun v => v.category).sum ≤ 7 then some (.int (if y < x then y else x) :: aSs sI sL r, hc) else none) = _
        rw [aSs_cats, if_pos hq]
        rfl
      · cases hg
    · cases hg
  · split at hg
    · split at hg
      · rename_i y x r hq
        cases hg
        show (if ((aSs sI sL r).map fun v => v.category).sum ≤ 7 then some (.int (if x < y then y else x) :: aSs sI sL r, hc) else none) = _
        rw [aSs_cats, if_pos hq]
        rfl
      · cases hg
    · cases hg
  · cases hg
theorem aZ_ok (hD : aDn sI sL) {fs : aF} (hO : aOk sI fs) {i : Instr} {st : List Value} {l : List (aF × List Value)} (hg : aZ fs i st = some l) : ∃ q ∈ l, aOk sI q.1 ∧ aSs sI sL q.2 = aSs sI sL st := by
  have key : ∀ {b : Nat} {rss : List (List (Int × Int))} (st : List Value), (∃ p ∈ rss, aIn (sI b).toInt p) → ∃ q ∈ aCs fs b rss st, aOk sI q.1 ∧ aSs sI sL q.2 = aSs sI sL st := fun st hp => by
    obtain ⟨q, q1, q2, q3⟩ := aCs_ok hO st hp
    exact ⟨q, q1, q2, by rw [q3]⟩
  unfold aZ at hg
  split at hg
  · cases hg
    exact key _ (aCut_ok (aGet_ok hD hO _) _ _)
  · cases hg
    exact key _ (aCut_ok (aGet_ok hD hO _) _ _)
  · cases hg
    exact key _ (aCut_ok (aGet_ok hD hO _) _ _)
  · split at hg
    · cases hg
      exact key _ (aCut_ok (aGet_ok hD hO _) _ _)
    · cases hg
  · rename_i d lo hi offs b r
    cases hv : aVals (aLe (aGe (aGet fs b.toNat) lo) hi) with
    | none => rw [hv] at hg; cases hg
    | some vs =>
      rw [hv] at hg
      cases hg
      have hb := aGet_ok hD hO b.toNat
      by_cases h1 : (sI b.toNat).toInt ≤ lo - 1
      · obtain ⟨q, q1, q2⟩ := key (b := b.toNat) (rss := [aLe (aGet fs b.toNat) (lo - 1), aGe (aGet fs b.toNat) (hi + 1)]) (.float b :: r) ⟨_, List.mem_cons_self, aLe_ok hb h1⟩
        exact ⟨q, List.mem_append_left _ q1, q2⟩
      · by_cases h2 : hi + 1 ≤ (sI b.toNat).toInt
        · obtain ⟨q, q1, q2⟩ := key (b := b.toNat) (rss := [aLe (aGet fs b.toNat) (lo - 1), aGe (aGet fs b.toNat) (hi + 1)]) (.float b :: r) ⟨_, List.mem_cons_of_mem _ List.mem_cons_self, aGe_ok hb h2⟩
          exact ⟨q, List.mem_append_left _ q1, q2⟩
        · obtain ⟨q, q1, q2⟩ := aVs_ok (sL := sL) hO (b := b) (fun v => v :: r) (aVals_ok (aLe_ok (aGe_ok hb (by omega)) (by omega)) hv) (fun v w e => by rw [aSs_cons, aSs_cons, e])
          exact ⟨q, List.mem_append_right _ q1, q2⟩
  · rename_i i b r _ _ _
    split at hg
    · cases hv : aVals (aGet fs b.toNat) with
      | none => rw [hv] at hg; cases hg
      | some vs =>
        rw [hv] at hg
        cases hg
        exact aVs_ok (sL := sL) hO (b := b) (fun v => v :: r) (aVals_ok (aGet_ok hD hO b.toNat) hv) (fun v w e => by rw [aSs_cons, aSs_cons, e])
    · cases hg
  · rename_i i y b r _
    split at hg
    · cases hv : aVals (aGet fs b.toNat) with
      | none => rw [hv] at hg; cases hg
      | some vs =>
        rw [hv] at hg
        cases hg
        exact aVs_ok (sL := sL) hO (b := b) (fun v => .int y :: v :: r) (aVals_ok (aGet_ok hD hO b.toNat) hv) (fun v w e => by rw [aSs_cons, aSs_cons, aSs_cons, aSs_cons, e])
    · cases hg
  · cases hg
end AH
