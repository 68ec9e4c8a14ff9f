/-! MORE LOCALS DO NO HARM; ANOTHER TABLE, A DEEPER STACK -/
def rSubl (a b : mL) : Prop := ∀ q ∈ a, mLd b q.1 = some q.2
theorem rLd_mem : ∀ {l : mL} {n : Nat} {v : Value}, mLd l n = some v → (n, v) ∈ l
  | [], _, _, h => by cases h
  | q :: r, n, v, h => by
    unfold mLd at h
    split at h
    · rename_i e
      cases h
      subst e
      exact List.mem_cons_self
    · exact List.mem_cons_of_mem _ (rLd_mem h)
theorem rSubl.ld {a b : mL} (h : rSubl a b) {n : Nat} {v : Value} (hv : mLd a n = some v) : mLd b n = some v := h _ (rLd_mem hv)
theorem mLd_fil {f : Nat × Value → Bool} : ∀ {l : mL} {n : Nat} {v : Value}, mLd l n = some v → f (n, v) = true → mLd (l.filter f) n = some v
  | [], _, _, h, _ => by cases h
  | q :: r, n, v, h, hf => by
    unfold mLd at h
    split at h
    · rename_i e
      cases h
      subst e
      rw [List.filter_cons_of_pos hf]
      unfold mLd
      rw [if_pos rfl]
    · rename_i e
      by_cases hq : f q = true
      · rw [List.filter_cons_of_pos hq]
        unfold mLd
        rw [if_neg e]
        exact mLd_fil h hf
      · rw [List.filter_cons_of_neg hq]
        exact mLd_fil h hf
theorem rSubl.cons {a b : mL} {f : Nat × Value → Bool} (h : rSubl a b) (n : Nat) (v : Value) (hf : ∀ w, f (n, w) = false) : rSubl ((n, v) :: a.filter f) ((n, v) :: b.filter f) := by
  intro q hq
  rcases List.mem_cons.mp hq with rfl | hq
  · unfold mLd
    rw [if_pos rfl]
  · obtain ⟨q1, q2⟩ := List.mem_filter.mp hq
    unfold mLd
    by_cases e : n = q.1
    · subst e
      have := hf q.2
      rw [q2] at this
      cases this
    · rw [if_neg e]
      exact mLd_fil (h q q1) q2
theorem rSubl.st1 {a b : mL} (h : rSubl a b) (n : Nat) (v : Value) : rSubl (mSt1 a n v) (mSt1 b n v) := h.cons n v (fun w => by show (!(n == n) && _) = false; rw [beq_self_eq_true]; rfl)
theorem rSubl.st2 {a b : mL} (h : rSubl a b) (n : Nat) (v : Value) : rSubl (mSt2 a n v) (mSt2 b n v) := h.cons n v (fun w => by show (!(n == n) && _) = false; rw [beq_self_eq_true]; rfl)
theorem mB_no2 {i : Instr} {lv : mL} {v : Value} (h : mB i lv = some v) (dflt : Nat → List Value) (k0 nL pc q1 q2 q3 : Nat) (w : Value) (st2 : List Value) (lv2 : mL) (h2 : mH) : mA i st2 = none ∧ mD i nL lv2 st2 = none ∧ mJ i pc st2 = none ∧ mG i q1 q2 w st2 h2 = none ∧ mP k0 i q1 q2 q3 st2 h2 = none ∧ mN dflt i q1 st2 h2 = none ∧ mIv i = false := by
  cases i <;> simp only [mB, reduceCtorEq] at h <;> exact ⟨rfl, rfl, rfl, rfl, rfl, rfl, rfl⟩
theorem mD_no2 {i : Instr} {nL : Nat} {lv : mL} {st : List Value} {x : mL × List Value} (h : mD i nL lv st = some x) (dflt : Nat → List Value) (k0 pc q1 q2 q3 : Nat) (w : Value) (st2 : List Value) (lv2 : mL) (h2 : mH) : mA i st2 = none ∧ mB i lv2 = none ∧ mJ i pc st2 = none ∧ mG i q1 q2 w st2 h2 = none ∧ mP k0 i q1 q2 q3 st2 h2 = none ∧ mN dflt i q1 st2 h2 = none ∧ mIv i = false := by
  cases i <;> simp only [mD, reduceCtorEq] at h <;> exact ⟨rfl, rfl, rfl, rfl, rfl, rfl, rfl⟩
theorem mB_lv {i : Instr} {a b : mL} (h : rSubl a b) {v : Value} (hv : mB i a = some v) : mB i b = some v := by
  have ki : ∀ {n : Nat}, mKi (mLd a n) = some v → mKi (mLd b n) = some v := fun {n} k => by
    cases hq : mLd a n with
    | none => rw [hq] at k; cases k
    | some w => rw [hq] at k; rw [h.ld hq]; exact k
  have kl : ∀ {n : Nat}, mKl (mLd a n) = some v → mKl (mLd b n) = some v := fun {n} k => by
    cases hq : mLd a n with
    | none => rw [hq] at k; cases k
    | some w => rw [hq] at k; rw [h.ld hq]; exact k
  have kr : ∀ {n : Nat}, mKr (mLd a n) = some v → mKr (mLd b n) = some v := fun {n} k => by
    cases hq : mLd a n with
    | none => rw [hq] at k; cases k
    | some w => rw [hq] at k; rw [h.ld hq]; exact k
  cases i <;> simp only [mB, reduceCtorEq] at hv ⊢
  all_goals first | exact ki hv | exact kl hv | exact kr hv
theorem mD_lv {i : Instr} {nL : Nat} {a b a' : mL} {st st' : List Value} (h : rSubl a b) (hv : mD i nL a st = some (a', st')) : ∃ b', mD i nL b st = some (b', st') ∧ rSubl a' b' := by
  have si : ∀ {n : Nat}, mSi nL a n st = some (a', st') → ∃ b', mSi nL b n st = some (b', st') ∧ rSubl a' b' := fun {n} k => by
    unfold mSi at k ⊢
    split at k
    · split at k
      · rename_i hn
        cases k
        exact ⟨_, if_pos hn, h.st1 _ _⟩
      · cases k
    · cases k
  have sl : ∀ {n : Nat}, mSl nL a n st = some (a', st') → ∃ b', mSl nL b n st = some (b', st') ∧ rSubl a' b' := fun {n} k => by
    unfold mSl at k ⊢
    split at k
    · split at k
      · rename_i hn
        cases k
        exact ⟨_, if_pos hn, h.st2 _ _⟩
      · cases k
    · cases k
  have sr : ∀ {n : Nat}, mSr nL a n st = some (a', st') → ∃ b', mSr nL b n st = some (b', st') ∧ rSubl a' b' := fun {n} k => by
    unfold mSr at k ⊢
    split at k
    · split at k
      · rename_i hn
        cases k
        exact ⟨_, if_pos hn, h.st1 _ _⟩
      · cases k
    · cases k
  have sc : ∀ {n : Nat} {c : Int}, mIc nL a n c (mLd a n) st = some (a', st') → ∃ b', mIc nL b n c (mLd b n) st = some (b', st') ∧ rSubl a' b' := fun {n c} k => by
    unfold mIc at k
    split at k
    · rename_i x hx
      rw [h.ld hx]
      split at k
      · rename_i hn
        cases k
        exact ⟨_, if_pos hn, h.st1 _ _⟩
      · cases k
    · cases k
  cases i <;> simp only [mD, reduceCtorEq] at hv ⊢
  all_goals first | exact si hv | exact sl hv | exact sr hv | exact sc hv
theorem mNx_lv {k0 : Nat} {dflt : Nat → List Value} {e : mI} {pc pc' : Nat} {a b a' : mL} {st st' : List Value} {h h' : mH} (hs : rSubl a b) (hx : mNx k0 dflt e pc a st h = some (pc', a', st', h')) : ∃ b', mNx k0 dflt e pc b st h = some (pc', b', st', h') ∧ rSubl a' b' := by
  cases hA : mA e.1 st with
  | some s1 =>
    unfold mNx at hx ⊢
    rw [hA] at hx ⊢
    cases hx
    exact ⟨b, rfl, hs⟩
  | none =>
    cases hB : mB e.1 a with
    | some v =>
      unfold mNx at hx ⊢
      rw [hA] at hx ⊢
      dsimp only at hx ⊢
      rw [hB] at hx
      rw [mB_lv hs hB]
      cases hx
      exact ⟨b, rfl, hs⟩
    | none =>
      have hB' : mB e.1 b = none := by
        cases hb : mB e.1 b with
        | none => rfl
        | some v =>
          obtain ⟨-, n2, n3, n4, n5, n6, n7⟩ := mB_no2 hb dflt k0 e.2.1 pc e.2.1 e.2.2.1 e.2.2.2.1 e.2.2.2.2 st a h
          unfold mNx at hx
          rw [hA, hB, n2, n3, n4, n5, n6] at hx
          dsimp only at hx
          rw [if_neg (by rw [n7]; decide)] at hx
          cases hx
      cases hD : mD e.1 e.2.1 a st with
      | some q =>
        obtain ⟨a1, s1⟩ := q
        unfold mNx at hx ⊢
        rw [hA] at hx ⊢
        dsimp only at hx ⊢
        rw [hB] at hx
        rw [hB']
        dsimp only at hx ⊢
        rw [hD] at hx
        obtain ⟨b1, k1, k2⟩ := mD_lv hs hD
        rw [k1]
        cases hx
        exact ⟨b1, rfl, k2⟩
      | none =>
        have hD' : mD e.1 e.2.1 b st = none := by
          cases hb : mD e.1 e.2.1 b st with
          | none => rfl
          | some v =>
            obtain ⟨-, -, n3, n4, n5, n6, n7⟩ := mD_no2 hb dflt k0 pc e.2.1 e.2.2.1 e.2.2.2.1 e.2.2.2.2 st a h
            unfold mNx at hx
            rw [hA, hB, hD, n3, n4, n5, n6] at hx
            dsimp only at hx
            rw [if_neg (by rw [n7]; decide)] at hx
            cases hx
        unfold mNx at hx ⊢
        rw [hA] at hx ⊢
        dsimp only at hx ⊢
        rw [hB] at hx
        rw [hB']
        dsimp only at hx ⊢
        rw [hD] at hx
        rw [hD']
        dsimp only at hx ⊢
        split at hx
        · cases hx; exact ⟨b, rfl, hs⟩
        · split at hx
          · cases hx; exact ⟨b, rfl, hs⟩
          · split at hx
            · cases hx; exact ⟨b, rfl, hs⟩
            · split at hx
              · cases hx; exact ⟨b, rfl, hs⟩
              · split at hx
                · rename_i hiv
                  rw [if_pos hiv]
                  split at hx
                  · cases hx; exact ⟨b, rfl, hs⟩
                  · split at hx
                    · cases hx; exact ⟨b, rfl, hs⟩
                    · cases hx
                · cases hx
section LV
variable {k0 : Nat} {dflt : Nat → List Value} {P : Nat → Nat → Option mI} {Hn : Nat → List (Nat × Nat × Nat × Nat)} {dp : Nat} {call : Nat → List Value → mH → Option (mO × mH)}
theorem evF_lv : ∀ (n : Nat) {mi pc : Nat} {a b : mL} {st : List Value} {h : mH} {r : mO × mH}, rSubl a b → evF k0 dflt P Hn dp call n mi pc a st h = some r → evF k0 dflt P Hn dp call n mi pc b st h = some r
  | 0, _, _, _, _, _, _, _, _, he => by cases he
  | n + 1, mi, pc, a, b, st, h, r, hs, he => by
    unfold evF at he ⊢
    split at he
    · cases he
    · rename_i e hp
      try dsimp only at he ⊢
      split at he
      · exact he
      · split at he
        · exact he
        · split at he
          · rename_i ce as rest hcl
            try dsimp only
            split at he
            · rename_i v h' hcr
              exact evF_lv n hs he
            · rename_i x a' h' hcr
              try dsimp only
              split at he
              · rename_i hp' hhd
                exact evF_lv n hs he
              · exact he
            · cases he
          · rename_i hcl
            try dsimp only
            split at he
            · rename_i pc' lv' st' h' hx
              obtain ⟨b', k1, k2⟩ := mNx_lv hs hx
              rw [k1]
              exact evF_lv n k2 he
            · cases he
end LV
/-- another table that tells no less, a deeper stack -/
theorem rSp_P {k0 : Nat} {Pa P : Nat → Nat → Option mI} (hP : ∀ mi pc e, Pa mi pc = some e → P mi pc = some e) {Hn : Nat → List (Nat × Nat × Nat × Nat)} {d d' : Nat} (hd : d ≤ d') {call : Nat → List Value → rF → rH → Option (List rR)} {mi : Nat} {s : rT} {l : List (rT ⊕ rR)} (h : rSp k0 Pa Hn d call mi s = some l) : rSp k0 P Hn d' call mi s = some l := by
  unfold rSp at h ⊢
  split at h
  · cases h
  · rename_i e he
    rw [hP _ _ _ he]
    dsimp only at h ⊢
    split at h
    · rename_i h1
      rw [if_pos h1]
      exact h
    · rename_i h1
      rw [if_neg h1]
      split at h
      · rename_i x hx
        split at h
        · rename_i hq
          rw [if_pos ⟨by omega, hq.2⟩]
          exact h
        · cases h
      · exact h
