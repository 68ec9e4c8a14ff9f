/-! THE MACHINE WITH RANGES IS SOUND: known numbers, locals, jumps -/
section RL
variable {ρ : List Int} {fs : rF}
theorem rm1i {f : Int32 → Value} (hf : ∀ x, rE ρ (f x) = some (f x)) {st stc st' : List Value} (hs : rEs ρ st = some stc) (h : m1i f st = some st') : ∃ stc', m1i f stc = some stc' ∧ rEs ρ st' = some stc' := by
  unfold m1i at h
  split at h
  · cases h
    obtain ⟨c, rc, hc, hr, rfl⟩ := rEs_cons hs
    cases hc
    exact ⟨_, rfl, rEs_mk (hf _) hr⟩
  · cases h
theorem rm1l {f : Int64 → Value} (hf : ∀ x, rE ρ (f x) = some (f x)) {st stc st' : List Value} (hs : rEs ρ st = some stc) (h : m1l f st = some st') : ∃ stc', m1l f stc = some stc' ∧ rEs ρ st' = some stc' := by
  unfold m1l at h
  split at h
  · cases h
    obtain ⟨c, rc, hc, hr, rfl⟩ := rEs_cons hs
    cases hc
    exact ⟨_, rfl, rEs_mk (hf _) hr⟩
  · cases h
theorem rm2i {f : Int32 → Int32 → Value} (hf : ∀ x y, rE ρ (f x y) = some (f x y)) {st stc st' : List Value} (hs : rEs ρ st = some stc) (h : m2i f st = some st') : ∃ stc', m2i f stc = some stc' ∧ rEs ρ st' = some stc' := by
  unfold m2i at h
  split at h
  · cases h
    obtain ⟨c, rc, hc, hr, rfl⟩ := rEs_cons hs
    obtain ⟨d, rd, hd, hr2, rfl⟩ := rEs_cons hr
    cases hc
    cases hd
    exact ⟨_, rfl, rEs_mk (hf _ _) hr2⟩
  · cases h
theorem rm2l {f : Int64 → Int64 → Value} (hf : ∀ x y, rE ρ (f x y) = some (f x y)) {st stc st' : List Value} (hs : rEs ρ st = some stc) (h : m2l f st = some st') : ∃ stc', m2l f stc = some stc' ∧ rEs ρ st' = some stc' := by
  unfold m2l at h
  split at h
  · cases h
    obtain ⟨c, rc, hc, hr, rfl⟩ := rEs_cons hs
    obtain ⟨d, rd, hd, hr2, rfl⟩ := rEs_cons hr
    cases hc
    cases hd
    exact ⟨_, rfl, rEs_mk (hf _ _) hr2⟩
  · cases h
theorem rm2s {f : Int64 → Int32 → Value} (hf : ∀ x y, rE ρ (f x y) = some (f x y)) {st stc st' : List Value} (hs : rEs ρ st = some stc) (h : m2s f st = some st') : ∃ stc', m2s f stc = some stc' ∧ rEs ρ st' = some stc' := by
  unfold m2s at h
  split at h
  · cases h
    obtain ⟨c, rc, hc, hr, rfl⟩ := rEs_cons hs
    obtain ⟨d, rd, hd, hr2, rfl⟩ := rEs_cons hr
    cases hc
    cases hd
    exact ⟨_, rfl, rEs_mk (hf _ _) hr2⟩
  · cases h
theorem rm2d {f : Int32 → Int32 → Value} (hf : ∀ x y, rE ρ (f x y) = some (f x y)) {st stc st' : List Value} (hs : rEs ρ st = some stc) (h : m2d f st = some st') : ∃ stc', m2d f stc = some stc' ∧ rEs ρ st' = some stc' := by
  unfold m2d at h
  split at h
  · split at h
    · cases h
    · rename_i hq
      cases h
      obtain ⟨c, rc, hc, hr, rfl⟩ := rEs_cons hs
      obtain ⟨d, rd, hd, hr2, rfl⟩ := rEs_cons hr
      cases hc
      cases hd
      exact ⟨_, if_neg hq, rEs_mk (hf _ _) hr2⟩
  · cases h
theorem rm2e {f : Int64 → Int64 → Value} (hf : ∀ x y, rE ρ (f x y) = some (f x y)) {st stc st' : List Value} (hs : rEs ρ st = some stc) (h : m2e f st = some st') : ∃ stc', m2e f stc = some stc' ∧ rEs ρ st' = some stc' := by
  unfold m2e at h
  split at h
  · split at h
    · cases h
    · rename_i hq
      cases h
      obtain ⟨c, rc, hc, hr, rfl⟩ := rEs_cons hs
      obtain ⟨d, rd, hd, hr2, rfl⟩ := rEs_cons hr
      cases hc
      cases hd
      exact ⟨_, if_neg hq, rEs_mk (hf _ _) hr2⟩
  · cases h
theorem mA_r {i : Instr} {st stc st' : List Value} (hs : rEs ρ st = some stc) (h : mA i st = some st') : ∃ stc', mA i stc = some stc' ∧ rEs ρ st' = some stc' := by
  cases i <;> simp only [mA, reduceCtorEq] at h ⊢
  case dup =>
    split at h
    · split at h
      · rename_i v r hq
        cases h
        obtain ⟨c, rc, hc, hr, rfl⟩ := rEs_cons hs
        exact ⟨_, if_pos (by rw [rE_cat hc]; exact hq), rEs_mk hc hs⟩
      · cases h
    · cases h
  case pop =>
    split at h
    · split at h
      · rename_i v r hq
        cases h
        obtain ⟨c, rc, hc, hr, rfl⟩ := rEs_cons hs
        exact ⟨_, if_pos (by rw [rE_cat hc]; exact hq), hr⟩
      · cases h
    · cases h
  case dup_x1 =>
    split at h
    · split at h
      · rename_i v w r hq
        cases h
        obtain ⟨c, rc, hc, hr, rfl⟩ := rEs_cons hs
        obtain ⟨d, rd, hd, hr2, rfl⟩ := rEs_cons hr
        exact ⟨_, if_pos (by rw [rE_cat hc, rE_cat hd]; exact hq), rEs_mk hc (rEs_mk hd (rEs_mk hc hr2))⟩
      · cases h
    · cases h
  case dup_x2 =>
    split at h
    · split at h
      · rename_i v w x r hq
        cases h
        obtain ⟨c, rc, hc, hr, rfl⟩ := rEs_cons hs
        obtain ⟨d, rd, hd, hr2, rfl⟩ := rEs_cons hr
        obtain ⟨e, re, he, hr3, rfl⟩ := rEs_cons hr2
        exact ⟨_, if_pos (by rw [rE_cat hc, rE_cat hd, rE_cat he]; exact hq), rEs_mk hc (rEs_mk hd (rEs_mk he (rEs_mk hc hr3)))⟩
      · cases h
    · cases h
  case dup2 =>
    split at h
    · split at h
      · rename_i v w r hq
        cases h
        obtain ⟨c, rc, hc, hr, rfl⟩ := rEs_cons hs
        obtain ⟨d, rd, hd, hr2, rfl⟩ := rEs_cons hr
        exact ⟨_, if_pos (by rw [rE_cat hc, rE_cat hd]; exact hq), rEs_mk hc (rEs_mk hd (rEs_mk hc (rEs_mk hd hr2)))⟩
      · cases h
    · cases h
  all_goals first
    | exact rm2i (fun _ _ => rfl) hs h
    | exact rm2d (fun _ _ => rfl) hs h
    | exact rm1i (fun _ => rfl) hs h
    | exact rm2l (fun _ _ => rfl) hs h
    | exact rm2e (fun _ _ => rfl) hs h
    | exact rm1l (fun _ => rfl) hs h
    | exact rm2s (fun _ _ => rfl) hs h
    | (cases h; exact ⟨_, rfl, rEs_mk rfl hs⟩)
theorem rEv_cons {q : Nat × Value} {r l : mL} (h : rEv ρ (q :: r) = some l) : ∃ c l', rE ρ q.2 = some c ∧ rEv ρ r = some l' ∧ l = (q.1, c) :: l' := by
  unfold rEv at h
  split at h
  · rename_i c hc
    split at h
    · rename_i l' hl
      cases h
      exact ⟨c, l', hc, hl, rfl⟩
    · cases h
  · cases h
theorem rEv_mk {n : Nat} {v c : Value} {r l : mL} (h1 : rE ρ v = some c) (h2 : rEv ρ r = some l) : rEv ρ ((n, v) :: r) = some ((n, c) :: l) := by
  unfold rEv
  rw [h1, h2]
theorem rLd : ∀ {lv lc : mL} {i : Nat} {v : Value}, rEv ρ lv = some lc → mLd lv i = some v → ∃ c, mLd lc i = some c ∧ rE ρ v = some c
  | [], _, _, _, _, h => by cases h
  | q :: r, lc, i, v, hl, h => by
    obtain ⟨c, l', h1, h2, rfl⟩ := rEv_cons hl
    unfold mLd at h ⊢
    dsimp only
    split at h
    · rename_i hq
      cases h
      exact ⟨c, if_pos hq, h1⟩
    · rename_i hq
      rw [if_neg hq]
      exact rLd h2 h
theorem rEv_fil (f : Nat × Value → Bool) (hf : ∀ (n : Nat) (v c : Value), c.category = v.category → f (n, c) = f (n, v)) : ∀ {lv lc : mL}, rEv ρ lv = some lc → rEv ρ (lv.filter f) = some (lc.filter f)
  | [], lc, h => by cases h; rfl
  | q :: r, lc, h => by
    obtain ⟨c, l', h1, h2, rfl⟩ := rEv_cons h
    have ih := rEv_fil f hf h2
    rw [List.filter_cons, List.filter_cons, hf q.1 q.2 c (rE_cat h1)]
    split
    · exact rEv_mk h1 ih
    · exact ih
theorem rSt1 {lv lc : mL} {i : Nat} {v c : Value} (hl : rEv ρ lv = some lc) (hv : rE ρ v = some c) : rEv ρ (mSt1 lv i v) = some (mSt1 lc i c) := by
  unfold mSt1
  exact rEv_mk hv (rEv_fil _ (fun n v c h => by dsimp only; rw [h]) hl)
theorem rSt2 {lv lc : mL} {i : Nat} {v c : Value} (hl : rEv ρ lv = some lc) (hv : rE ρ v = some c) : rEv ρ (mSt2 lv i v) = some (mSt2 lc i c) := by
  unfold mSt2
  exact rEv_mk hv (rEv_fil _ (fun n v c h => by dsimp only; rw [h]) hl)
theorem rKi_ok (hO : rOk ρ fs) {o : Option Value} {v : Value} (h : rKi fs o = some v) : ∃ w, o = some w ∧ ∀ c, rE ρ w = some c → rE ρ v = some c ∧ ∃ x, c = .int x := by
  unfold rKi at h
  split at h
  · cases h
    exact ⟨_, rfl, fun c hc => ⟨hc, by cases hc; exact ⟨_, rfl⟩⟩⟩
  · rename_i x
    have key : ∀ c, rE ρ (.float x) = some c → ∃ y, c = .int y := fun c hc => by
      rw [rE_f] at hc
      cases hz : ρ[rId x]? with
      | none => rw [hz] at hc; cases hc
      | some z => rw [hz] at hc; cases hc; exact ⟨_, rfl⟩
    split at h
    · rename_i q hq
      split at h
      · rename_i hr
        cases h
        refine ⟨_, rfl, fun c hc => ⟨?_, key c hc⟩⟩
        obtain ⟨z, z1, z2, z3⟩ := hO.2.1 _ _ hq
        rw [rE_f, z1] at hc
        cases hc
        have : z = q.1 := by omega
        rw [this]
        rfl
      · cases h
        exact ⟨_, rfl, fun c hc => ⟨hc, key c hc⟩⟩
    · cases h
      exact ⟨_, rfl, fun c hc => ⟨hc, key c hc⟩⟩
  · cases h
theorem rB_ok (hO : rOk ρ fs) {i : Instr} {lv lc : mL} {v : Value} (hl : rEv ρ lv = some lc) (h : rB fs i lv = some v) : ∃ c, mB i lc = some c ∧ rE ρ v = some c := by
  have ki : ∀ {n : Nat}, rKi fs (mLd lv n) = some v → ∃ c, mKi (mLd lc n) = some c ∧ rE ρ v = some c := fun {n} h => by
    obtain ⟨w, hw, hk⟩ := rKi_ok hO h
    obtain ⟨c, c1, c2⟩ := rLd hl hw
    obtain ⟨c3, x, rfl⟩ := hk c c2
    exact ⟨_, by rw [c1]; rfl, c3⟩
  have kl : ∀ {n : Nat}, rKl (mLd lv n) = some v → ∃ c, mKl (mLd lc n) = some c ∧ rE ρ v = some c := fun {n} h => by
    unfold rKl at h
    split at h
    · rename_i x hx
      cases h
      obtain ⟨c, c1, c2⟩ := rLd hl hx
      cases c2
      exact ⟨_, by rw [c1]; rfl, rfl⟩
    · rename_i x hx
      cases h
      obtain ⟨c, c1, c2⟩ := rLd hl hx
      have c3 := c2
      rw [rE_d] at c3
      cases hz : ρ[x.toNat]? with
      | none => rw [hz] at c3; cases c3
      | some z => rw [hz] at c3; cases c3; exact ⟨_, by rw [c1]; rfl, c2⟩
    · cases h
  have kr : ∀ {n : Nat}, rKr (mLd lv n) = some v → ∃ c, mKr (mLd lc n) = some c ∧ rE ρ v = some c := fun {n} h => by
    unfold rKr at h
    split at h
    · rename_i x hx
      cases h
      obtain ⟨c, c1, c2⟩ := rLd hl hx
      cases c2
      exact ⟨_, by rw [c1]; rfl, rfl⟩
    · rename_i x hx
      cases h
      obtain ⟨c, c1, c2⟩ := rLd hl hx
      have c3 := c2
      rw [rE_r] at c3
      cases hz : ρ[x]? with
      | none => rw [hz] at c3; cases c3
      | some z => rw [hz] at c3; cases c3; exact ⟨_, by rw [c1]; rfl, c2⟩
    · cases h
  cases i <;> simp only [rB, reduceCtorEq] at h <;> simp only [mB]
  all_goals first
    | exact ki h
    | exact kl h
    | exact kr h
end RL
