/-! THE WHOLE RUN TURNED ROUND IS SOUND -/
section TF
variable {dflt : Nat → List Value} {P : Nat → Nat → Option mI} {Hn : Nat → List (Nat × Nat × Nat × Nat)} {dp : Nat} {call : Nat → List Value → mH → Option (mO × mH)} {c0 : mH} {C : List (Option mI)} {O : Nat → List Value → zS → Option zCs} {cut : Nat → Bool} {mi n : Nat} {r : mO × mH}
theorem zRt_ok {e : mI} {st : List Value} {v : Option Value} {h : mH} {m pc : Nat} {lv : mL} {k0 : Nat} (hp : P mi pc = some e) (hz : zRt e.1 st = some v) (hx : evF k0 dflt P Hn dp call (m + 1) mi pc lv st h = some r) : r = (.inl v, h) := by
  obtain ⟨i, o⟩ := e
  have hr : ∀ w, mRt i o.1 st = some w → w = v := by
    intro w hw
    unfold zRt at hz
    unfold mRt at hw
    dsimp only at hz
    split at hz
    · split at hz
      · cases hz
        dsimp only at hw
        split at hw
        · cases hw; rfl
        · split at hw
          · cases hw; rfl
          · cases hw
        · split at hw
          · cases hw; rfl
          · cases hw
        · split at hw
          · cases hw; rfl
          · cases hw
        · cases hw
      · cases hz
    · split at hz
      · cases hz; cases hw; rfl
      · cases hz
    · split at hz
      · cases hz; cases hw; rfl
      · cases hz
    · split at hz
      · cases hz; cases hw; rfl
      · cases hz
    · cases hz
  have hi : i = .ireturn ∨ i = .lreturn ∨ i = .areturn ∨ i = .return_ := by
    unfold zRt at hz
    dsimp only at hz
    split at hz
    · exact Or.inl rfl
    · exact Or.inr (Or.inl rfl)
    · exact Or.inr (Or.inr (Or.inl rfl))
    · exact Or.inr (Or.inr (Or.inr rfl))
    · cases hz
  have hrest : mTh (i, o) = none ∧ mCl (i, o) st h = none ∧ mNx k0 dflt (i, o) pc lv st h = none := by
    rcases hi with rfl | rfl | rfl | rfl
    · exact ⟨rfl, by simp [mCl, mIv], rfl⟩
    · exact ⟨rfl, by simp [mCl, mIv], rfl⟩
    · exact ⟨rfl, by simp [mCl, mIv], rfl⟩
    · exact ⟨rfl, by simp [mCl, mIv], rfl⟩
  rcases evF_inv hp hx with ⟨w, h1, rfl⟩ | ⟨_, x, h2, _⟩ | ⟨_, _, ce, as, rest, o', h', h3, _⟩ | ⟨_, _, _, q, h4, _⟩
  · rw [hr w h1]
  · rw [hrest.1] at h2; cases h2
  · rw [hrest.2.1] at h3; cases h3
  · rw [hrest.2.2] at h4; cases h4
/-- what a question does -/
theorem zBr_ok {e : mI} {st s : List Value} {b : Bool} {h : mH} {p pc : Nat} {lv : mL} {q : Nat × mL × List Value × mH} {k0 : Nat} (hz : zBr e pc st = some (b, p, s)) (hq : mNx k0 dflt e pc lv st h = some q) : q = ((if b = true then p else pc + 3), lv, s, h) := by
  have fin : ∀ (b' : Bool) (off : Int) (p' : Nat) (s' : List Value), mTo pc off = some p' → ∀ {w : Nat × List Value}, mBr b' pc off s' = some w → w = ((if b' = true then p' else pc + 3), s') := by
    intro b' off p' s' ht w hw
    unfold mBr at hw
    rw [ht] at hw
    cases b' <;> · cases hw; rfl
  obtain ⟨i, o⟩ := e
  unfold zBr at hz
  dsimp only at hz
  split at hz
  · rename_i c off
    split at hz
    · rename_i x r'
      cases ht : mTo pc off with
      | none => rw [ht] at hz; cases hz
      | some p' =>
        rw [ht] at hz
        cases hz
        have e1 : mNx k0 dflt (.ifCond c off, o) pc lv (.int x :: s) h = (mBr (mCnd c x 0) pc off s).map (fun w => (w.1, lv, w.2, h)) := by
          unfold mNx
          simp only [mA, mB, mD, mJ]
          cases mBr (mCnd c x 0) pc off s with
          | none => rfl
          | some w => rfl
        rw [e1] at hq
        cases hw : mBr (mCnd c x 0) pc off s with
        | none => rw [hw] at hq; cases hq
        | some w =>
          rw [hw] at hq
          cases hq
          rw [fin _ _ _ _ ht hw]
    · cases hz
  · rename_i c off
    split at hz
    · rename_i y x r'
      cases ht : mTo pc off with
      | none => rw [ht] at hz; cases hz
      | some p' =>
        rw [ht] at hz
        cases hz
        have e1 : mNx k0 dflt (.if_icmp c off, o) pc lv (.int y :: .int x :: s) h = (mBr (mCnd c x y) pc off s).map (fun w => (w.1, lv, w.2, h)) := by
          unfold mNx
          simp only [mA, mB, mD, mJ]
          cases mBr (mCnd c x y) pc off s with
          | none => rfl
          | some w => rfl
        rw [e1] at hq
        cases hw : mBr (mCnd c x y) pc off s with
        | none => rw [hw] at hq; cases hq
        | some w =>
          rw [hw] at hq
          cases hq
          rw [fin _ _ _ _ ht hw]
    · cases hz
  · rename_i off
    split at hz
    · rename_i y x r'
      cases ht : mTo pc off with
      | none => rw [ht] at hz; cases hz
      | some p' =>
        rw [ht] at hz
        cases hz
        unfold mNx at hq
        simp only [mA, mB, mD, mJ] at hq
        split at hq
        · rename_i w1 w2 hw
          split at hw
          · cases hq
            have := fin _ _ _ _ ht hw
            cases this
            rfl
          · cases hw
        · cases hq
    · cases hz
  · rename_i off
    split at hz
    · rename_i y x r'
      cases ht : mTo pc off with
      | none => rw [ht] at hz; cases hz
      | some p' =>
        rw [ht] at hz
        cases hz
        unfold mNx at hq
        simp only [mA, mB, mD, mJ] at hq
        split at hq
        · rename_i w1 w2 hw
          split at hw
          · cases hq
            have := fin _ _ _ _ ht hw
            cases this
            rfl
          · cases hw
        · cases hq
    · cases hz
  · cases hz
theorem tLk_ok {d x : Int} {f : Int → Prop} : ∀ {l : List (Int × Int)}, f (Op.lookupswitch.offset l d x) → tLk l d x f
  | [], h => h
  | (a, o) :: r, h => by
    rw [Op.lookupswitch.offset_cons] at h
    by_cases ha : a = x
    · rw [if_pos ha] at h
      exact Or.inl ⟨ha, h⟩
    · rw [if_neg ha] at h
      exact Or.inr ⟨ha, tLk_ok h⟩
theorem tTs_out {d x : Int} {f : Int → Prop} (h : f d) : ∀ {l : List Int} {lo : Int}, (x < lo ∨ lo + l.length ≤ x) → tTs l lo d x f
  | [], lo, _ => h
  | o :: r, lo, hx => by
    rw [List.length_cons] at hx
    exact Or.inr ⟨by omega, tTs_out h (by omega)⟩
theorem tTs_in {d x : Int} {f : Int → Prop} : ∀ {l : List Int} {lo : Int} {k : Nat} {off : Int}, l[k]? = some off → x = lo + k → f off → tTs l lo d x f
  | [], lo, k, off, hk, _, _ => by cases hk
  | o :: r, lo, 0, off, hk, hx, h => by
    cases hk
    exact Or.inl ⟨by omega, h⟩
  | o :: r, lo, k + 1, off, hk, hx, h => Or.inr ⟨by omega, tTs_in (k := k) hk (by omega) h⟩
theorem zSw_ok {e : mI} {st s : List Value} {T : (Int → Prop) → Prop} {h : mH} {pc : Nat} {lv : mL} {q : Nat × mL × List Value × mH} {k0 : Nat} (hz : zSw e st = some (T, s)) (hq : mNx k0 dflt e pc lv st h = some q) : ∃ off p, mTo pc off = some p ∧ q = (p, lv, s, h) ∧ ∀ f : Int → Prop, f off → T f := by
  obtain ⟨i, o⟩ := e
  unfold zSw at hz
  dsimp only at hz
  split at hz
  · rename_i d ps
    split at hz
    · rename_i x r'
      cases hz
      unfold mNx at hq
      simp only [mA, mB, mD, mJ] at hq
      split at hq
      · rename_i w1 w2 hw
        cases hq
        split at hw
        · cases ht : mTo pc (Op.lookupswitch.offset ps.toList d x.toInt) with
          | none => rw [ht] at hw; cases hw
          | some p =>
            rw [ht] at hw
            cases hw
            exact ⟨_, _, ht, rfl, fun f hf => tLk_ok hf⟩
        · cases hw
      · cases hq
    · cases hz
  · rename_i d lo hi offs
    split at hz
    · rename_i x r'
      split at hz
      · rename_i hlen
        have hlen := Nat.eq_of_beq_eq_true hlen
        cases hz
        unfold mNx at hq
        simp only [mA, mB, mD, mJ] at hq
        split at hq
        · rename_i w1 w2 hw
          cases hq
          split at hw
          · rename_i hr
            cases ht : mTo pc d with
            | none => rw [ht] at hw; cases hw
            | some p =>
              rw [ht] at hw
              cases hw
              exact ⟨_, _, ht, rfl, fun f hf => tTs_out hf (by omega)⟩
          · rename_i hr
            split at hw
            · rename_i off ho
              cases ht : mTo pc off with
              | none => rw [ht] at hw; cases hw
              | some p =>
                rw [ht] at hw
                cases hw
                refine ⟨_, _, ht, rfl, fun f hf => tTs_in (k := (x.toInt - lo).toNat) (off := off) ?_ (by omega) hf⟩
                rw [← ho]
                exact Array.getElem?_toList
            · cases hw
        · cases hq
      · cases hz
    · cases hz
  · cases hz
theorem zSt_no {e : mI} {pc : Nat} {lv : mL} {st : List Value} {σ : zS} {h : mH} {z : Option Prop × Nat × mL × List Value × zS} (hz : zSt e pc lv st σ = some z) : mRt e.1 e.2.1 st = none ∧ mCl e st h = none := by
  obtain ⟨i, o⟩ := e
  constructor
  · cases hr : mRt i o.1 st with
    | none => rfl
    | some v =>
      unfold mRt at hr
      split at hr
      · simp [zSt, zPl, mA, mB, mD] at hz
      · simp [zSt, zPl, mA, mB, mD] at hz
      · simp [zSt, zPl, mA, mB, mD] at hz
      · simp [zSt, zPl, mA, mB, mD] at hz
      · cases hr
  · cases hv : mIv i with
    | false => simp [mCl, hv]
    | true =>
      unfold mIv at hv
      split at hv
      · simp [zSt, zPl, mA, mB, mD] at hz
      · simp [zSt, zPl, mA, mB, mD] at hz
      · have hz : zCy o.2.2.1 pc lv st σ = some z := hz
        have ho : ¬ o.2.2.1 = 0 := fun h => by
          rw [h] at hz
          cases hz
        unfold mCl
        rw [if_neg (fun h => ho h.2.1)]
      · cases hv
theorem tF_ok (h0 : zC0 c0) (hC : ∀ pc e, C[pc]? = some (some e) → P mi pc = some e) (hH : Hn mi = []) (hO : ∀ ce as σ cs r, O ce as σ = some cs → call ce as (zH c0 σ) = some r → ∃ o σ', cs o σ' ∧ r = zOut c0 o σ') : ∀ (j i m pc : Nat) (lv : mL) (st : List Value) (σ : zS), m + i = n → evF 158 dflt P Hn dp call m mi pc lv st (zH c0 σ) = some r → tF C O cut (fun i pc lv st σ => ∃ m, m + i = n ∧ evF 158 dflt P Hn dp call m mi pc lv st (zH c0 σ) = some r) (fun o σ => r = zOut c0 o σ) j i pc lv st σ
  | 0, i, m, pc, lv, st, σ, hm, hx => ⟨m, hm, hx⟩
  | j + 1, i, m, pc, lv, st, σ, hm, hx => by
    have ihj := tF_ok h0 hC hH hO j
    rw [tF_s]
    unfold tG
    split
    · exact ⟨m, hm, hx⟩
    · split
      · rename_i e he
        have hp := hC _ _ he
        cases m with
        | zero => cases hx
        | succ m =>
          have hm' : m + (i + 1) = n := by omega
          split
          · rename_i v hv
            exact zRt_ok hp hv hx
          · rename_i hrt
            split
            · rename_i x hth
              split
              · rename_i hblt
                rcases evF_inv hp hx with ⟨w, h1, _⟩ | ⟨_, x', h2, rfl⟩ | ⟨_, h2, _⟩ | ⟨_, h2, _⟩
                · exfalso
                  obtain ⟨ii, o⟩ := e
                  unfold mTh at hth
                  split at hth
                  · rename_i hnw
                    unfold mNw at hnw
                    dsimp only at hnw h1
                    split at hnw
                    · cases h1
                    · cases hnw
                  · cases hth
                · rw [hth] at h2
                  cases h2
                  show (_, _) = zOut c0 (.inr x) (zX σ x)
                  unfold zOut
                  dsimp only
                  rw [← zH_X hblt, List.length_append]
                  rfl
                · rw [hth] at h2; cases h2
                · rw [hth] at h2; cases h2
              · exact ⟨m + 1, hm, hx⟩
            · rename_i hth
              split
              · rename_i ce as rest hca
                split
                · rename_i cs hcs
                  unfold zCa at hca
                  split at hca
                  · rename_i hcond
                    rw [Bool.and_eq_true, Bool.and_eq_true] at hcond
                    cases hca
                    have hn0 : ∀ q, mCl e st (zH c0 σ) = none → mNx 158 dflt e pc lv st (zH c0 σ) = some q → False := by
                      intro q _ hq
                      obtain ⟨ii, o1, o2, o3, v⟩ := e
                      have h3 : o3 = 0 := Nat.eq_of_beq_eq_true hcond.1.2
                      subst h3
                      have hiv := hcond.1.1
                      dsimp only at hiv
                      unfold mIv at hiv
                      split at hiv
                      · cases hq
                      · cases hq
                      · cases hq
                      · cases hiv
                    have hrt' : ∀ w, mRt e.1 e.2.1 st = some w → False := by
                      intro w hw
                      obtain ⟨ii, o1, o2, o3, v⟩ := e
                      have hiv := hcond.1.1
                      dsimp only at hiv hw
                      unfold mIv at hiv
                      split at hiv
                      · cases hw
                      · cases hw
                      · cases hw
                      · cases hiv
                    rcases evF_inv hp hx with ⟨w, h1, _⟩ | ⟨_, x', h2, _⟩ | ⟨_, _, ce', as', rest', o, h', h3, h4, h5⟩ | ⟨_, _, h3, q, h4, _⟩
                    · exact (hrt' w h1).elim
                    · rw [hth] at h2; cases h2
                    · unfold mCl at h3
                      split at h3
                      · cases h3
                        obtain ⟨o1, σ1, hs, ho⟩ := hO _ _ _ _ _ hcs h4
                        refine ⟨o1, σ1, hs, ?_⟩
                        rcases h5 with ⟨v, rfl, h6⟩ | ⟨x, a, rfl, h6⟩
                        · cases o1 with
                          | inl v1 =>
                            unfold zOut at ho
                            cases ho
                            exact ihj (i + 1) m _ _ _ _ hm' h6
                          | inr x1 => unfold zOut at ho; cases ho
                        · cases o1 with
                          | inl v1 => unfold zOut at ho; cases ho
                          | inr x1 =>
                            rcases h6 with ⟨hp', h7⟩ | ⟨_, rfl⟩
                            · rw [hH] at h7; cases h7
                            · exact ho
                      · cases h3
                    · exact (hn0 q h3 h4).elim
                  · cases hca
                · exact ⟨m + 1, hm, hx⟩
              · rename_i hca
                have hmr : mRt e.1 e.2.1 st = none ∨ ∃ v, mRt e.1 e.2.1 st = some v := by
                  cases mRt e.1 e.2.1 st with
                  | none => exact Or.inl rfl
                  | some v => exact Or.inr ⟨v, rfl⟩
                split
                · rename_i c p s hbr
                  have hq : ∃ q, mNx 158 dflt e pc lv st (zH c0 σ) = some q ∧ evF 158 dflt P Hn dp call m mi q.1 q.2.1 q.2.2.1 q.2.2.2 = some r := by
                    obtain ⟨ii, o⟩ := e
                    have hno : mRt ii o.1 st = none ∧ mCl (ii, o) st (zH c0 σ) = none := by
                      unfold zBr at hbr
                      dsimp only at hbr
                      split at hbr
                      · exact ⟨rfl, by simp [mCl, mIv]⟩
                      · exact ⟨rfl, by simp [mCl, mIv]⟩
                      · exact ⟨rfl, by simp [mCl, mIv]⟩
                      · exact ⟨rfl, by simp [mCl, mIv]⟩
                      · cases hbr
                    rcases evF_inv hp hx with ⟨w, h1, _⟩ | ⟨_, x', h2, _⟩ | ⟨_, _, ce', as', rest', o', h', h3, _⟩ | ⟨_, _, _, q, h4, h5⟩
                    · dsimp only at h1
                      rw [hno.1] at h1; cases h1
                    · rw [hth] at h2; cases h2
                    · rw [hno.2] at h3; cases h3
                    · exact ⟨q, h4, h5⟩
                  obtain ⟨q, q1, q2⟩ := hq
                  have := zBr_ok hbr q1
                  subst this
                  cases c with
                  | true => exact Or.inl ⟨rfl, ihj (i + 1) m _ _ _ _ hm' q2⟩
                  | false => exact Or.inr ⟨rfl, ihj (i + 1) m _ _ _ _ hm' q2⟩
                · split
                  · rename_i T s hsw
                    have hq : ∃ q, mNx 158 dflt e pc lv st (zH c0 σ) = some q ∧ evF 158 dflt P Hn dp call m mi q.1 q.2.1 q.2.2.1 q.2.2.2 = some r := by
                      obtain ⟨ii, o⟩ := e
                      have hno : mRt ii o.1 st = none ∧ mCl (ii, o) st (zH c0 σ) = none := by
                        unfold zSw at hsw
                        dsimp only at hsw
                        split at hsw
                        · exact ⟨rfl, by simp [mCl, mIv]⟩
                        · exact ⟨rfl, by simp [mCl, mIv]⟩
                        · cases hsw
                      rcases evF_inv hp hx with ⟨w, h1, _⟩ | ⟨_, x', h2, _⟩ | ⟨_, _, ce', as', rest', o', h', h3, _⟩ | ⟨_, _, _, q, h4, h5⟩
                      · dsimp only at h1
                        rw [hno.1] at h1; cases h1
                      · rw [hth] at h2; cases h2
                      · rw [hno.2] at h3; cases h3
                      · exact ⟨q, h4, h5⟩
                    obtain ⟨q, q1, q2⟩ := hq
                    obtain ⟨off, p, s1, rfl, s2⟩ := zSw_ok hsw q1
                    apply s2
                    rw [s1]
                    exact ihj (i + 1) m _ _ _ _ hm' q2
                  · split
                    · rename_i c pc' lv' st' σ' hst
                      have hq : ∃ q, mNx 158 dflt e pc lv st (zH c0 σ) = some q ∧ evF 158 dflt P Hn dp call m mi q.1 q.2.1 q.2.2.1 q.2.2.2 = some r := by
                        have hno := zSt_no (h := zH c0 σ) hst
                        rcases evF_inv hp hx with ⟨w, h1, _⟩ | ⟨_, x', h2, _⟩ | ⟨_, _, ce', as', rest', o', h', h3, _⟩ | ⟨_, _, _, q, h4, h5⟩
                        · rw [hno.1] at h1; cases h1
                        · rw [hth] at h2; cases h2
                        · rw [hno.2] at h3; cases h3
                        · exact ⟨q, h4, h5⟩
                      obtain ⟨q, q1, q2⟩ := hq
                      obtain ⟨hc1, rfl⟩ := zSt_ok (i := e.1) (o := e.2) h0 hst q1
                      cases c with
                      | none => exact ihj (i + 1) m _ _ _ _ hm' q2
                      | some p => exact ⟨hc1 p rfl, ihj (i + 1) m _ _ _ _ hm' q2⟩
                    · exact ⟨m + 1, hm, hx⟩
      · exact ⟨m, hm, hx⟩
end TF
