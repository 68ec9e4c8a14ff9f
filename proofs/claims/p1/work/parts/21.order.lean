/-! THE ORDER OF HEAPS: what runs over a heap with unknown cells runs over every heap that tells them -/
def mLe (h h2 : mH) : Prop := h.length = h2.length ∧ ∀ (i : Nat) (c : (Nat × vp_A) ⊕ (Nat × List Value)), h[i]? = some (some c) → h2[i]? = some (some c)
theorem mLe.rf (h : mH) : mLe h h := ⟨rfl, fun _ _ q => q⟩
theorem mLe.set {h h2 : mH} (hl : mLe h h2) (a : Nat) (c : mC) : mLe (h.set a c) (h2.set a c) := by
  refine ⟨by rw [List.length_set, List.length_set]; exact hl.1, fun i x hx => ?_⟩
  rw [List.getElem?_set] at hx ⊢
  rw [hl.1] at hx
  split at hx
  · rename_i hi
    rw [if_pos hi]
    exact hx
  · rename_i hi
    rw [if_neg hi]
    exact hl.2 i x hx
theorem mLe.push {h h2 : mH} (hl : mLe h h2) (c : mC) : mLe (h ++ [c]) (h2 ++ [c]) := by
  refine ⟨by rw [List.length_append, List.length_append, hl.1], fun i x hx => ?_⟩
  rw [List.getElem?_append] at hx ⊢
  rw [← hl.1]
  split at hx
  · rename_i hi
    rw [if_pos hi]
    exact hl.2 i x hx
  · rename_i hi
    rw [if_neg hi]
    exact hx
theorem mG_le {h h2 : mH} (hl : mLe h h2) {i : Instr} {o1 o2 : Nat} {v : Value} {st st' : List Value} (hg : mG i o1 o2 v st h = some st') : mG i o1 o2 v st h2 = some st' := by
  cases i <;> simp only [mG, reduceCtorEq] at hg ⊢
  case getstatic ix => exact hg
  case ldc ix => exact hg
  case ldc_w ix => exact hg
  case ldc2_w ix => exact hg
  all_goals
    split at hg
    · split at hg
      all_goals first
        | (rename_i hc; simp only [hl.2 _ _ hc]; exact hg)
        | cases hg
    · cases hg
theorem mP_le {h h2 h' : mH} (hl : mLe h h2) {k0 : Nat} {i : Instr} {o1 o2 o3 : Nat} {st st' : List Value} (hg : mP k0 i o1 o2 o3 st h = some (st', h')) : ∃ h2', mP k0 i o1 o2 o3 st h2 = some (st', h2') ∧ mLe h' h2' := by
  cases i <;> simp only [mP, reduceCtorEq] at hg ⊢
  all_goals
    split at hg
    · split at hg
      · rename_i hc
        simp only [hl.2 _ _ hc]
        split at hg
        · rename_i hq
          cases hg
          exact ⟨_, if_pos hq, hl.set _ _⟩
        · cases hg
      · cases hg
    · cases hg
theorem mN_le {h h2 h' : mH} (hl : mLe h h2) {dflt : Nat → List Value} {i : Instr} {o1 : Nat} {st st' : List Value} (hg : mN dflt i o1 st h = some (st', h')) : ∃ h2', mN dflt i o1 st h2 = some (st', h2') ∧ mLe h' h2' := by
  cases i <;> simp only [mN, reduceCtorEq] at hg ⊢
  case newarray t =>
    cases t <;> simp only [reduceCtorEq] at hg ⊢
    all_goals
      unfold mNa at hg ⊢
      split at hg
      · split at hg
        · rename_i hq
          cases hg
          rw [hl.1]
          exact ⟨_, if_pos hq, hl.push _⟩
        · cases hg
      · cases hg
  case new ix =>
    cases hg
    rw [hl.1]
    exact ⟨_, rfl, hl.push _⟩
theorem mX_le {h h2 h' : mH} {o3 : Nat} {st st' : List Value} (hg : mX o3 st h = some (st', h')) : mX o3 st h2 = some (st', h2) ∧ h' = h := by
  unfold mX at hg ⊢
  split at hg
  all_goals first
    | (cases hg; done)
    | (split at hg
       · split at hg
         · rename_i hq
           cases hg
           exact ⟨if_pos hq, rfl⟩
         · cases hg
       · cases hg)
