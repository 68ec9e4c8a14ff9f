/-! THE ORDER OF HEAPS: what runs over a heap with unknown cells runs over every heap that tells them -/
def mLe (h h2 : mH) : Prop := h.length = h2.length ∧ ∀ (i : Nat) (c : (Nat × vp_A) ⊕ (Nat × List Value)), h[i]? = some (some c) → h2[i]? = some (some c)
theorem mLe.rf (h : mH) : mLe h h := ⟨rfl, fun _ _ q => q⟩
theorem mLe.set {h h2 : mH} (hl : mLe h h2) (a : Nat) (c : mC) : mLe (h.set a c) (h2.set a c) := by
  refine ⟨by rw [List.length_set, List.length_set]; exact hl.1, fun i x hx => ?_⟩
  rw [List.getElem?_set] at hx ⊢
  rw [hl.1] at hx
  split at hx
  · rename_i hi
    rw [if_pos hi]
    exact hx
  · rename_i hi
    rw [if_neg hi]
    exact hl.2 i x hx
theorem mLe.push {h h2 : mH} (hl : mLe h h2) (c : mC) : mLe (h ++ [c]) (h2 ++ [c]) := by
  refine ⟨by rw [List.length_append, List.length_append, hl.1], fun i x hx => ?_⟩
  rw [List.getElem?_append] at hx ⊢
  rw [← hl.1]
  split at hx
  · rename_i hi
    rw [if_pos hi]
    exact hl.2 i x hx
  · rename_i hi
    rw [if_neg hi]
    exact hx
theorem mG_le {h h2 : mH} (hl : mLe h h2) {i : Instr} {o1 o2 : Nat} {v : Value} {st st' : List Value} (hg : mG i o1 o2 v st h = some st') : mG i o1 o2 v st h2 = some st' := by
  cases i <;> simp only [mG, reduceCtorEq] at hg ⊢
  case getstatic ix => exact hg
  case ldc ix => exact hg
  case ldc_w ix => exact hg
  case ldc2_w ix => exact hg
  all_goals
    split at hg
    · split at hg
      all_goals first
        | (rename_i hc; simp only [hl.2 _ _ hc]; exact hg)
        | cases hg
    · cases hg
theorem mP_le {h h2 h' : mH} (hl : mLe h h2) {k0 : Nat} {i : Instr} {o1 o2 o3 : Nat} {st st' : List Value} (hg : mP k0 i o1 o2 o3 st h = some (st', h')) : ∃ h2', mP k0 i o1 o2 o3 st h2 = some (st', h2') ∧ mLe h' h2' := by
  cases i <;> simp only [mP, reduceCtorEq] at hg ⊢
  all_goals
    split at hg
    · split at hg
      · rename_i hc
        simp only [hl.2 _ _ hc]
        split at hg
        · rename_i hq
          cases hg
          exact ⟨_, if_pos hq, hl.set _ _⟩
        · cases hg
      · cases hg
    · cases hg
theorem mN_le {h h2 h' : mH} (hl : mLe h h2) {dflt : Nat → List Value} {i : Instr} {o1 : Nat} {st st' : List Value} (hg : mN dflt i o1 st h = some (st', h')) : ∃ h2', mN dflt i o1 st h2 = some (st', h2') ∧ mLe h' h2' := by
  cases i <;> simp only [mN, reduceCtorEq] at hg ⊢
  case newarray t =>
    cases t <;> simp only [reduceCtorEq] at hg ⊢
    all_goals
      unfold mNa at hg ⊢
      split at hg
      · split at hg
        · rename_i hq
          cases hg
          rw [hl.1]
          exact ⟨_, if_pos hq, hl.push _⟩
        · cases hg
      · cases hg
  case new ix =>
    cases hg
    rw [hl.1]
    exact ⟨_, rfl, hl.push _⟩
theorem mX_le {h h2 h' : mH} {o3 : Nat} {st st' : List Value} (hg : mX o3 st h = some (st', h')) : mX o3 st h2 = some (st', h2) ∧ h' = h := by
  unfold mX at hg ⊢
  split at hg
  all_goals first
    | (cases hg; done)
    | (split at hg
       · split at hg
         · rename_i hq
           cases hg
           exact ⟨if_pos hq, rfl⟩
         · cases hg
       · cases hg)
theorem mY_le {h h2 h' : mH} (hl : mLe h h2) {k0 o3 : Nat} {st st' : List Value} (hg : mY k0 o3 st h = some (st', h')) : ∃ h2', mY k0 o3 st h2 = some (st', h2') ∧ mLe h' h2' := by
  unfold mY at hg ⊢
  split at hg
  · split at hg
    · split at hg
      · rename_i ha hb
        split at hg
        · rename_i hq
          cases hg
          simp only [hl.2 _ _ ha, hl.2 _ _ hb]
          exact ⟨_, if_pos hq, hl.set _ _⟩
        · cases hg
      · cases hg
    · cases hg
  · split at hg
    · split at hg
      · rename_i ha hb
        split at hg
        · rename_i hq
          cases hg
          simp only [hl.2 _ _ ha, hl.2 _ _ hb]
          exact ⟨_, if_pos hq, hl.set _ _⟩
        · cases hg
      · cases hg
    · cases hg
  · cases hg
theorem mP_noG {k0 : Nat} {i : Instr} {o1 o2 o3 a b : Nat} {v : Value} {st st2 : List Value} {h h2 : mH} {r : List Value × mH} (hg : mP k0 i o1 o2 o3 st h = some r) : mG i a b v st2 h2 = none := by
  cases i <;> simp only [mP, reduceCtorEq] at hg <;> rfl
theorem mN_noG {dflt : Nat → List Value} {i : Instr} {o1 a b : Nat} {v : Value} {st st2 : List Value} {h h2 : mH} {r : List Value × mH} (hg : mN dflt i o1 st h = some r) : mG i a b v st2 h2 = none := by
  cases i <;> simp only [mN, reduceCtorEq] at hg <;> rfl
theorem mN_noP {dflt : Nat → List Value} {i : Instr} {k0 o1 a b c : Nat} {st st2 : List Value} {h h2 : mH} {r : List Value × mH} (hg : mN dflt i o1 st h = some r) : mP k0 i a b c st2 h2 = none := by
  cases i <;> simp only [mN, reduceCtorEq] at hg <;> rfl
theorem mIv_noG {i : Instr} {a b : Nat} {v : Value} {st2 : List Value} {h2 : mH} (hg : mIv i = true) : mG i a b v st2 h2 = none := by
  cases i <;> simp only [mIv, reduceCtorEq] at hg <;> rfl
theorem mIv_noP {i : Instr} {k0 a b c : Nat} {st2 : List Value} {h2 : mH} (hg : mIv i = true) : mP k0 i a b c st2 h2 = none := by
  cases i <;> simp only [mIv, reduceCtorEq] at hg <;> rfl
theorem mIv_noN {dflt : Nat → List Value} {i : Instr} {a : Nat} {st2 : List Value} {h2 : mH} (hg : mIv i = true) : mN dflt i a st2 h2 = none := by
  cases i <;> simp only [mIv, reduceCtorEq] at hg <;> rfl
theorem mNx_le {h h2 h' : mH} (hl : mLe h h2) {k0 : Nat} {dflt : Nat → List Value} {e : mI} {pc pc' : Nat} {lv lv' : mL} {st st' : List Value} (hn : mNx k0 dflt e pc lv st h = some (pc', lv', st', h')) : ∃ h2', mNx k0 dflt e pc lv st h2 = some (pc', lv', st', h2') ∧ mLe h' h2' := by
  unfold mNx at hn ⊢
  split at hn
  · cases hn
    exact ⟨h2, rfl, hl⟩
  · split at hn
    · cases hn
      exact ⟨h2, rfl, hl⟩
    · split at hn
      · cases hn
        exact ⟨h2, rfl, hl⟩
      · split at hn
        · cases hn
          exact ⟨h2, rfl, hl⟩
        · split at hn
          · rename_i hG
            cases hn
            rw [mG_le hl hG]
            exact ⟨h2, rfl, hl⟩
          · split at hn
            · rename_i hP
              cases hn
              obtain ⟨h2', q1, q2⟩ := mP_le hl hP
              rw [mP_noG hP, q1]
              exact ⟨h2', rfl, q2⟩
            · split at hn
              · rename_i hN
                cases hn
                obtain ⟨h2', q1, q2⟩ := mN_le hl hN
                rw [mN_noG hN, mN_noP hN, q1]
                exact ⟨h2', rfl, q2⟩
              · split at hn
                · rename_i hiv
                  split at hn
                  · rename_i hX
                    cases hn
                    obtain ⟨q1, q2⟩ := mX_le (h2 := h2) hX
                    rw [mIv_noG hiv, mIv_noP hiv, mIv_noN hiv, if_pos hiv, q1]
                    exact ⟨h2, rfl, by rw [q2]; exact hl⟩
                  · rename_i hX
                    split at hn
                    · rename_i hY
                      cases hn
                      obtain ⟨h2', q1, q2⟩ := mY_le hl hY
                      have hX2 : mX e.2.2.2.1 st h2 = none := by
                        cases hq : mX e.2.2.2.1 st h2 with
                        | none => rfl
                        | some r =>
                          obtain ⟨a, b⟩ := r
                          rw [(mX_le (h2 := h) hq).1] at hX
                          cases hX
                      rw [mIv_noG hiv, mIv_noP hiv, mIv_noN hiv, if_pos hiv, hX2, q1]
                      exact ⟨h2', rfl, q2⟩
                    · cases hn
                · cases hn
theorem mNx_iv {h : mH} {k0 : Nat} {dflt : Nat → List Value} {e : mI} {pc : Nat} {lv : mL} {st : List Value} {r : Nat × mL × List Value × mH} (hn : mNx k0 dflt e pc lv st h = some r) (hiv : mIv e.1 = true) : e.2.2.2.1 ≠ 0 := by
  intro h0
  have hA : mA e.1 st = none := by cases hz : e.1 <;> rw [hz] at hiv <;> simp only [mIv, reduceCtorEq] at hiv <;> rfl
  have hB : mB e.1 lv = none := by cases hz : e.1 <;> rw [hz] at hiv <;> simp only [mIv, reduceCtorEq] at hiv <;> rfl
  have hD : mD e.1 e.2.1 lv st = none := by cases hz : e.1 <;> rw [hz] at hiv <;> simp only [mIv, reduceCtorEq] at hiv <;> rfl
  have hJ : mJ e.1 pc st = none := by cases hz : e.1 <;> rw [hz] at hiv <;> simp only [mIv, reduceCtorEq] at hiv <;> rfl
  unfold mNx at hn
  rw [hA, hB, hD, hJ, mIv_noG hiv, mIv_noP hiv, mIv_noN hiv, if_pos hiv, h0] at hn
  cases hn
theorem mRc_le {h h2 : mH} (hl : mLe h h2) {i : Instr} {v : Value} {as : List Value} (hr : mRc i v as h = true) : mRc i v as h2 = true := by
  cases i <;> simp only [mRc, reduceCtorEq] at hr ⊢
  case invokespecial ix => exact hr
  case invokevirtual ix =>
    split at hr
    · split at hr
      · rename_i hc
        simp only [hl.2 _ _ hc]
        exact hr
      · cases hr
    · cases hr
theorem mCl_le {h h2 : mH} (hl : mLe h h2) {e : mI} {st : List Value} {r : Nat × List Value × List Value} (hc : mCl e st h = some r) : mCl e st h2 = some r := by
  unfold mCl at hc ⊢
  split at hc
  · rename_i hq
    rw [if_pos ⟨hq.1, hq.2.1, hq.2.2.1, hq.2.2.2.1, mRc_le hl hq.2.2.2.2⟩]
    exact hc
  · cases hc
theorem mCl_no {h2 : mH} {e : mI} {st : List Value} (hq : mIv e.1 = true → e.2.2.2.1 ≠ 0) : mCl e st h2 = none := by
  unfold mCl
  rw [if_neg]
  intro h
  exact hq h.1 h.2.1
theorem evF_le {k0 : Nat} {dflt : Nat → List Value} {P P2 : Nat → Nat → Option mI} (hP : ∀ mi pc e, P mi pc = some e → P2 mi pc = some e) {Hn : Nat → List (Nat × Nat × Nat × Nat)} {dp : Nat} {call call2 : Nat → List Value → mH → Option (mO × mH)} (hcl : ∀ ce as h h2 o h', mLe h h2 → call ce as h = some (o, h') → ∃ h2', call2 ce as h2 = some (o, h2') ∧ mLe h' h2') :
    ∀ (n mi pc : Nat) (lv : mL) (st : List Value) (h h2 : mH) (o : mO) (h' : mH), mLe h h2 → evF k0 dflt P Hn dp call n mi pc lv st h = some (o, h') → ∃ h2', evF k0 dflt P2 Hn dp call2 n mi pc lv st h2 = some (o, h2') ∧ mLe h' h2'
  | 0, _, _, _, _, _, _, _, _, _, he => by cases he
  | n + 1, mi, pc, lv, st, h, h2, o, h', hl, he => by
    unfold evF at he ⊢
    split at he
    · cases he
    · rename_i en hen
      rw [hP _ _ _ hen]
      dsimp only
      split at he
      · rename_i v hrt
        cases he
        exact ⟨h2, by first | rfl | rw [hrt], hl⟩
      · rename_i hrt
        try rw [hrt]
        split at he
        · rename_i x hx
          try rw [hx]
          split at he
          · rename_i hq
            cases he
            exact ⟨h2 ++ [mEx x], by rw [hl.1]; exact if_pos hq, hl.push _⟩
          · cases he
        · rename_i hx
          try rw [hx]
          split at he
          · rename_i ce as rest hc
            rw [mCl_le hl hc]
            dsimp only
            split at he
            · rename_i v h1 hk
              obtain ⟨h3, k1, k2⟩ := hcl _ _ _ _ _ _ hl hk
              rw [k1]
              exact evF_le hP hcl n _ _ _ _ _ _ _ _ k2 he
            · rename_i x a h1 hk
              obtain ⟨h3, k1, k2⟩ := hcl _ _ _ _ _ _ hl hk
              rw [k1]
              dsimp only
              split at he
              · rename_i hp hhp
                try rw [hhp]
                exact evF_le hP hcl n _ _ _ _ _ _ _ _ k2 he
              · rename_i hhp
                try rw [hhp]
                split at he
                · rename_i hq
                  cases he
                  exact ⟨h3, if_pos hq, k2⟩
                · cases he
            · cases he
          · split at he
            · rename_i hnx
              obtain ⟨h3, k1, k2⟩ := mNx_le hl hnx
              rw [mCl_no (fun hiv => mNx_iv hnx hiv), k1]
              exact evF_le hP hcl n _ _ _ _ _ _ _ _ k2 he
            · cases he
theorem evM_le {k0 : Nat} {dflt : Nat → List Value} {P P2 : Nat → Nat → Option mI} (hP : ∀ mi pc e, P mi pc = some e → P2 mi pc = some e) {Hn : Nat → List (Nat × Nat × Nat × Nat)} {mx : Nat → Nat} :
    ∀ (d n mi : Nat) (as : List Value) (h h2 : mH) (o : mO) (h' : mH), mLe h h2 → evM k0 dflt P Hn mx d n mi as h = some (o, h') → ∃ h2', evM k0 dflt P2 Hn mx d n mi as h2 = some (o, h2') ∧ mLe h' h2'
  | 0, _, _, _, _, _, _, _, _, he => by cases he
  | d + 1, n, mi, as, h, h2, o, h', hl, he => by
    unfold evM at he ⊢
    split at he
    · rename_i hq
      rw [if_pos hq]
      exact evF_le hP (fun ce as h h2 o h' => evM_le hP d n ce as h h2 o h') n _ _ _ _ _ _ _ _ hl he
    · cases he
/-! WHAT A RUN DOES TO THE HEAP: old cells stay, sizes -/
section RL
variable {k0 : Nat} {dflt : Nat → List Value} {P : Nat → Nat → Option mI} {Hn : Nat → List (Nat × Nat × Nat × Nat)} {mx : Nat → Nat} {R : mH → mH → Prop}
theorem evF_rel {dp : Nat} {call : Nat → List Value → mH → Option (mO × mH)} (rf : ∀ h, R h h) (tr : ∀ a b c, R a b → R b c → R a c) (nx : ∀ e pc lv st h q, mNx k0 dflt e pc lv st h = some q → R h q.2.2.2) (th : ∀ h x, R h (h ++ [mEx x])) (hc : ∀ ce as h o h', call ce as h = some (o, h') → R h h') : ∀ (n mi pc : Nat) (lv : mL) (st : List Value) (h : mH) (o : mO) (hF : mH), evF k0 dflt P Hn dp call n mi pc lv st h = some (o, hF) → R h hF
  | 0, _, _, _, _, _, _, _, he => by cases he
  | n + 1, mi, pc, lv, st, h, o, hF, he => by
    unfold evF at he
    split at he
    · cases he
    · split at he
      · cases he; exact rf _
      · split at he
        · split at he
          · cases he
            exact th _ _
          · cases he
        · split at he
          · split at he
            · rename_i hcl
              exact tr _ _ _ (hc _ _ _ _ _ hcl) (evF_rel rf tr nx th hc n _ _ _ _ _ _ _ he)
            · rename_i hcl
              split at he
              · exact tr _ _ _ (hc _ _ _ _ _ hcl) (evF_rel rf tr nx th hc n _ _ _ _ _ _ _ he)
              · split at he
                · cases he
                  exact hc _ _ _ _ _ hcl
                · cases he
            · cases he
          · split at he
            · rename_i hnx
              exact tr _ _ _ (nx _ _ _ _ _ _ hnx) (evF_rel rf tr nx th hc n _ _ _ _ _ _ _ he)
            · cases he
theorem evM_rel (rf : ∀ h, R h h) (tr : ∀ a b c, R a b → R b c → R a c) (nx : ∀ e pc lv st h q, mNx k0 dflt e pc lv st h = some q → R h q.2.2.2) (th : ∀ h x, R h (h ++ [mEx x])) : ∀ (d n ce : Nat) (as : List Value) (h : mH) (o : mO) (h' : mH), evM k0 dflt P Hn mx d n ce as h = some (o, h') → R h h'
  | 0, _, _, _, _, _, _, he => by cases he
  | d + 1, n, ce, as, h, o, h', he => by
    unfold evM at he
    split at he
    · exact evF_rel rf tr nx th (fun ce as h o h' => evM_rel rf tr nx th d n ce as h o h') n _ _ _ _ _ _ _ he
    · cases he
end RL
/-- the ways a step changes the heap -/
theorem mNx_ways {k0 : Nat} {dflt : Nat → List Value} {e : mI} {pc : Nat} {lv : mL} {st : List Value} {h : mH} {q : Nat × mL × List Value × mH} (hn : mNx k0 dflt e pc lv st h = some q) : q.2.2.2 = h ∨ (∃ st', mP k0 e.1 e.2.1 e.2.2.1 e.2.2.2.1 st h = some (st', q.2.2.2)) ∨ (∃ st', mN dflt e.1 e.2.1 st h = some (st', q.2.2.2)) ∨ (∃ st', mY k0 e.2.2.2.1 st h = some (st', q.2.2.2)) := by
  unfold mNx at hn
  split at hn
  · cases hn; exact Or.inl rfl
  · split at hn
    · cases hn; exact Or.inl rfl
    · split at hn
      · cases hn; exact Or.inl rfl
      · split at hn
        · cases hn; exact Or.inl rfl
        · split at hn
          · cases hn; exact Or.inl rfl
          · split at hn
            · rename_i hP
              cases hn
              exact Or.inr (Or.inl ⟨_, hP⟩)
            · split at hn
              · rename_i hN
                cases hn
                exact Or.inr (Or.inr (Or.inl ⟨_, hN⟩))
              · split at hn
                · split at hn
                  · rename_i hX
                    cases hn
                    exact Or.inl (mX_same hX)
                  · split at hn
                    · rename_i hY
                      cases hn
                      exact Or.inr (Or.inr (Or.inr ⟨_, hY⟩))
                    · cases hn
                · cases hn
theorem mP_old {k0 : Nat} {i : Instr} {o1 o2 o3 : Nat} {st st' : List Value} {h h' : mH} (hg : mP k0 i o1 o2 o3 st h = some (st', h')) (j : Nat) (hj : j < k0) : h'[j]? = h[j]? := by
  cases i <;> simp only [mP, reduceCtorEq] at hg
  all_goals
    split at hg
    · split at hg
      · split at hg
        · rename_i hq
          cases hg
          exact List.getElem?_set_ne (by omega)
        · cases hg
      · cases hg
    · cases hg
theorem mY_old {k0 o3 : Nat} {st st' : List Value} {h h' : mH} (hg : mY k0 o3 st h = some (st', h')) (j : Nat) (hj : j < k0) : h'[j]? = h[j]? := by
  unfold mY at hg
  split at hg
  · split at hg
    · split at hg
      · split at hg
        · rename_i hq
          cases hg
          exact List.getElem?_set_ne (by omega)
        · cases hg
      · cases hg
    · cases hg
  · split at hg
    · split at hg
      · split at hg
        · rename_i hq
          cases hg
          exact List.getElem?_set_ne (by omega)
        · cases hg
      · cases hg
    · cases hg
  · cases hg
theorem mN_sz {dflt : Nat → List Value} (hD : ∀ c, (dflt c).length ≤ 1000) {i : Instr} {o1 : Nat} {st st' : List Value} {h h' : mH} (hg : mN dflt i o1 st h = some (st', h')) : ∃ x, h' = h ++ [x] ∧ mSz x ≤ 1000 := by
  cases i <;> simp only [mN, reduceCtorEq] at hg
  case newarray t =>
    cases t <;> simp only [reduceCtorEq] at hg
    all_goals
      unfold mNa at hg
      split at hg
      · split at hg
        · rename_i hq
          cases hg
          exact ⟨_, rfl, hq.2⟩
        · cases hg
      · cases hg
  case new ix =>
    cases hg
    exact ⟨_, rfl, hD o1⟩
def mOl (k0 : Nat) (h h' : mH) : Prop := k0 ≤ h.length → k0 ≤ h'.length ∧ ∀ j, j < k0 → h'[j]? = h[j]?
theorem evM_old {k0 : Nat} {dflt : Nat → List Value} {P : Nat → Nat → Option mI} {Hn : Nat → List (Nat × Nat × Nat × Nat)} {mx : Nat → Nat} {d n ce : Nat} {as : List Value} {h h' : mH} {o : mO} (he : evM k0 dflt P Hn mx d n ce as h = some (o, h')) : mOl k0 h h' := by
  have app : ∀ (h : mH) (x : mC), mOl k0 h (h ++ [x]) := fun h x hk => ⟨by rw [List.length_append]; omega, fun j hj => List.getElem?_append_left (by omega)⟩
  refine evM_rel (R := mOl k0) (fun h hk => ⟨hk, fun _ _ => rfl⟩) (fun a b c h1 h2 hk => ?_) (fun e pc lv st h q hq => ?_) (fun h x => app h _) d n ce as h o h' he
  · obtain ⟨a1, a2⟩ := h1 hk
    obtain ⟨b1, b2⟩ := h2 a1
    exact ⟨b1, fun j hj => (b2 j hj).trans (a2 j hj)⟩
  · rcases mNx_ways hq with e1 | ⟨s1, e1⟩ | ⟨s1, e1⟩ | ⟨s1, e1⟩
    · rw [e1]; exact fun hk => ⟨hk, fun _ _ => rfl⟩
    · exact fun hk => ⟨by rw [(mP_keeps e1).1]; exact hk, fun j hj => mP_old e1 j hj⟩
    · obtain ⟨x, e2⟩ := mN_grows e1
      rw [e2]; exact app h x
    · exact fun hk => ⟨by rw [(mY_keeps e1).1]; exact hk, fun j hj => mY_old e1 j hj⟩
def mSzr (h h' : mH) : Prop := h.length ≤ h'.length ∧ mSls h' + 1000 * h.length ≤ mSls h + 1000 * h'.length
theorem evM_size {k0 : Nat} {dflt : Nat → List Value} (hD : ∀ c, (dflt c).length ≤ 1000) {P : Nat → Nat → Option mI} {Hn : Nat → List (Nat × Nat × Nat × Nat)} {mx : Nat → Nat} {d n ce : Nat} {as : List Value} {h h' : mH} {o : mO} (he : evM k0 dflt P Hn mx d n ce as h = some (o, h')) : mSzr h h' := by
  have app : ∀ (h : mH) (x : mC), mSz x ≤ 1000 → mSzr h (h ++ [x]) := fun h x hx => ⟨by rw [List.length_append]; omega, by rw [mSls_app, List.length_append, List.length_singleton]; omega⟩
  refine evM_rel (R := mSzr) (fun h => ⟨Nat.le_refl _, Nat.le_refl _⟩) (fun a b c h1 h2 => ⟨Nat.le_trans h1.1 h2.1, by have := h1.2; have := h2.2; omega⟩) (fun e pc lv st h q hq => ?_) (fun h x => app h _ (show 6 ≤ 1000 by decide)) d n ce as h o h' he
  rcases mNx_ways hq with e1 | ⟨s1, e1⟩ | ⟨s1, e1⟩ | ⟨s1, e1⟩
  · rw [e1]; exact ⟨Nat.le_refl _, Nat.le_refl _⟩
  · obtain ⟨a, b⟩ := mP_keeps e1
    exact ⟨by omega, by omega⟩
  · obtain ⟨x, e2, e3⟩ := mN_sz hD e1
    rw [e2]; exact app h x e3
  · obtain ⟨a, b⟩ := mY_keeps e1
    exact ⟨by omega, by omega⟩
