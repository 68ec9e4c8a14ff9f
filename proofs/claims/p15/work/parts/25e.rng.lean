/-! THE MACHINE WITH RANGES IS SOUND: stores, comparisons, questions -/
section RJ
variable {ρ : List Int} {fs : rF}
theorem rOf_rng (b : UInt32) : -32768 ≤ rOf b ∧ rOf b ≤ 32767 := by
  unfold rOf
  have := Nat.mod_lt b.toNat (show 0 < 65536 by decide)
  omega
theorem rE_fi {b : UInt32} {c : Value} (h : rE ρ (.float b) = some c) : ∃ y, c = .int y := by
  rw [rE_f] at h
  cases hz : ρ[rId b]? with
  | none => rw [hz] at h; cases h
  | some z => rw [hz] at h; cases h; exact ⟨_, rfl⟩
theorem rE_dl {b : UInt64} {c : Value} (h : rE ρ (.double b) = some c) : ∃ y, c = .long y := by
  rw [rE_d] at h
  cases hz : ρ[b.toNat]? with
  | none => rw [hz] at h; cases h
  | some z => rw [hz] at h; cases h; exact ⟨_, rfl⟩
theorem rE_rr {b : Nat} {c : Value} (h : rE ρ (.retAddr b) = some c) : ∃ y, c = .ref y := by
  rw [rE_r] at h
  cases hz : ρ[b]? with
  | none => rw [hz] at h; cases h
  | some z => rw [hz] at h; cases h; exact ⟨_, rfl⟩
theorem rD_ok (hO : rOk ρ fs) (hn : fs.length < 60000) {i : Instr} {nL : Nat} {lv lv' lc : mL} {st st' stc : List Value} (hl : rEv ρ lv = some lc) (hs : rEs ρ st = some stc) (h : rD fs i nL lv st = some (lv', st')) : ∃ lc' stc', mD i nL lc stc = some (lc', stc') ∧ rEv ρ lv' = some lc' ∧ rEs ρ st' = some stc' := by
  have si : ∀ {n : Nat} {lv' : mL} {st' : List Value}, rSi nL lv n st = some (lv', st') → ∃ lc' stc', mSi nL lc n stc = some (lc', stc') ∧ rEv ρ lv' = some lc' ∧ rEs ρ st' = some stc' := fun {n lv' st'} h => by
    unfold rSi at h
    split at h
    · split at h
      · rename_i x r hq
        cases h
        obtain ⟨c, rc, hc, hr, rfl⟩ := rEs_cons hs
        cases hc
        exact ⟨_, _, if_pos hq, rSt1 hl rfl, hr⟩
      · cases h
    · split at h
      · rename_i x r hq
        cases h
        obtain ⟨c, rc, hc, hr, rfl⟩ := rEs_cons hs
        obtain ⟨y, rfl⟩ := rE_fi hc
        exact ⟨_, _, if_pos hq, rSt1 hl hc, hr⟩
      · cases h
    · cases h
  have sl : ∀ {n : Nat} {lv' : mL} {st' : List Value}, rSl nL lv n st = some (lv', st') → ∃ lc' stc', mSl nL lc n stc = some (lc', stc') ∧ rEv ρ lv' = some lc' ∧ rEs ρ st' = some stc' := fun {n lv' st'} h => by
    unfold rSl at h
    split at h
    · split at h
      · rename_i x r hq
        cases h
        obtain ⟨c, rc, hc, hr, rfl⟩ := rEs_cons hs
        cases hc
        exact ⟨_, _, if_pos hq, rSt2 hl rfl, hr⟩
      · cases h
    · split at h
      · rename_i x r hq
        cases h
        obtain ⟨c, rc, hc, hr, rfl⟩ := rEs_cons hs
        obtain ⟨y, rfl⟩ := rE_dl hc
        exact ⟨_, _, if_pos hq, rSt2 hl hc, hr⟩
      · cases h
    · cases h
  have sr : ∀ {n : Nat} {lv' : mL} {st' : List Value}, rSr nL lv n st = some (lv', st') → ∃ lc' stc', mSr nL lc n stc = some (lc', stc') ∧ rEv ρ lv' = some lc' ∧ rEs ρ st' = some stc' := fun {n lv' st'} h => by
    unfold rSr at h
    split at h
    · split at h
      · rename_i x r hq
        cases h
        obtain ⟨c, rc, hc, hr, rfl⟩ := rEs_cons hs
        cases hc
        exact ⟨_, _, if_pos hq, rSt1 hl rfl, hr⟩
      · cases h
    · split at h
      · rename_i x r hq
        cases h
        obtain ⟨c, rc, hc, hr, rfl⟩ := rEs_cons hs
        obtain ⟨y, rfl⟩ := rE_rr hc
        exact ⟨_, _, if_pos hq, rSt1 hl hc, hr⟩
      · cases h
    · cases h
  have ic : ∀ {n : Nat} {c : Int} {lv' : mL} {st' : List Value}, rIc fs nL lv n c (mLd lv n) st = some (lv', st') → ∃ lc' stc', mIc nL lc n c (mLd lc n) stc = some (lc', stc') ∧ rEv ρ lv' = some lc' ∧ rEs ρ st' = some stc' := fun {n c lv' st'} h => by
    unfold rIc at h
    split at h
    · rename_i x hx
      split at h
      · rename_i hq
        cases h
        obtain ⟨d, d1, d2⟩ := rLd hl hx
        cases d2
        refine ⟨_, _, ?_, rSt1 hl rfl, hs⟩
        rw [d1]
        exact if_pos hq
      · cases h
    · rename_i x hx
      split at h
      · rename_i v hv
        split at h
        · rename_i hq
          cases h
          obtain ⟨d, d1, d2⟩ := rLd hl hx
          have d3 := d2
          rw [rE_f] at d3
          cases hz : ρ[rId x]? with
          | none => rw [hz] at d3; cases d3
          | some z =>
            rw [hz] at d3
            cases d3
            obtain ⟨w, w1, w2, w3, w4⟩ := rPlus_ok hO hv hn d2
            have hc : (Int32.ofInt c).toInt = c := by
              have h1 := rOf_rng x
              unfold rPlus at hv
              dsimp only at hv
              split at hv
              · rename_i hb
                exact rInt (by unfold rI0; omega) (by unfold rI1; omega)
              · cases hv
            refine ⟨_, _, ?_, rSt1 hl w1, hs⟩
            rw [d1]
            show (if n < nL then some (mSt1 lc n (.int (Int32.ofInt (z + rOf x) + Int32.ofInt c)), stc) else none) = _
            rw [if_pos hq]
            have : Int32.ofInt (z + rOf x) + Int32.ofInt c = w := Int32.toInt_inj.mp (by rw [rAdd_ok (by rw [hc]; exact w3) (by rw [hc]; exact w4), hc, w2])
            rw [this]
        · cases h
      · cases h
    · cases h
  cases i <;> simp only [rD, reduceCtorEq] at h <;> simp only [mD]
  all_goals first
    | exact si h
    | exact sl h
    | exact sr h
    | exact ic h
theorem rDec_ok {c : ClassFile.Cond} {p q : Int × Int} {x y : Int32} {t : Bool} (h : rDec c p q = some t) (x1 : p.1 ≤ x.toInt) (x2 : x.toInt ≤ p.2) (y1 : q.1 ≤ y.toInt) (y2 : y.toInt ≤ q.2) : mCnd c x y = t := by
  have lt : ∀ {a b : Int32}, decide (a < b) = decide (a.toInt < b.toInt) := fun {a b} => decide_eq_decide.mpr Int32.lt_iff_toInt_lt
  have le : ∀ {a b : Int32}, decide (a ≤ b) = decide (a.toInt ≤ b.toInt) := fun {a b} => decide_eq_decide.mpr Int32.le_iff_toInt_le
  have eq : ∀ {a b : Int32}, decide (a = b) = decide (a.toInt = b.toInt) := fun {a b} => decide_eq_decide.mpr Int32.toInt_inj.symm
  have ne : ∀ {a b : Int32}, decide (¬ a = b) = decide (¬ a.toInt = b.toInt) := fun {a b} => decide_eq_decide.mpr (not_congr Int32.toInt_inj.symm)
  cases c <;> simp only [rDec] at h <;> simp only [mCnd, lt, le, eq, ne]
  all_goals
    split at h
    · cases h
      exact decide_eq_true (by omega)
    · split at h
      · cases h
        exact decide_eq_false (by omega)
      · cases h
theorem rLc_ok (hO : rOk ρ fs) {i : Instr} {st st' stc : List Value} (hs : rEs ρ st = some stc) (h : rLc fs i st = some st') : ∃ stc', mA i stc = some stc' ∧ rEs ρ st' = some stc' := by
  unfold rLc at h
  split at h
  · rename_i w v r
    obtain ⟨c, rc, hc, hr, rfl⟩ := rEs_cons hs
    obtain ⟨d, rd, hd, hr2, rfl⟩ := rEs_cons hr
    split at h
    · rename_i x y hx hy
      obtain ⟨y', rfl, y1, y2⟩ := rRl_ok hO hy hc
      obtain ⟨x', rfl, x1, x2⟩ := rRl_ok hO hx hd
      have key : ∀ k : Int32, lg_cmp x' y' = k → ∃ stc', mA .lcmp (.long y' :: .long x' :: rd) = some stc' ∧ rEs ρ (.int k :: r) = some stc' := fun k hk => ⟨.int (lg_cmp x' y') :: rd, rfl, by rw [hk]; exact rEs_mk rfl hr2⟩
      split at h
      · cases h
        refine key _ ?_
        unfold lg_cmp
        rw [if_neg (fun k => by have := Int64.lt_iff_toInt_lt.mp k; omega), if_neg (fun k => by subst k; omega)]
      · split at h
        · cases h
          refine key _ ?_
          unfold lg_cmp
          exact if_pos (Int64.lt_iff_toInt_lt.mpr (by omega))
        · split at h
          · cases h
            refine key _ ?_
            have e : x' = y' := Int64.toInt_inj.mp (by omega)
            subst e
            unfold lg_cmp
            rw [if_neg (fun k => by have := Int64.lt_iff_toInt_lt.mp k; omega), if_pos rfl]
          · cases h
    · cases h
  · cases h
/-- what number a value is -/
def rVal (ρ : List Int) (v : Value) (x : Int) : Prop := match v with
  | .float b => ∃ z, ρ[rId b]? = some z ∧ x = z + rOf b
  | .double b => ρ[b.toNat]? = some x
  | _ => True
theorem rVal_i (hO : rOk ρ fs) {v : Value} {q : Int × Int} {x : Int32} (hr : rRg fs v = some q) (hc : rE ρ v = some (.int x)) : rVal ρ v x.toInt := by
  unfold rRg at hr
  split at hr
  · trivial
  · rename_i b
    split at hr
    · rename_i p hp
      split at hr
      · rename_i hb
        obtain ⟨z, z1, z2, z3⟩ := hO.get hp
        rw [rE_f, z1] at hc
        cases hc
        exact ⟨z, z1, rInt (by omega) (by omega)⟩
      · cases hr
    · cases hr
  · cases hr
theorem rVal_l (hO : rOk ρ fs) {v : Value} {q : Int × Int} {x : Int64} (hr : rRl fs v = some q) (hc : rE ρ v = some (.long x)) : rVal ρ v x.toInt := by
  unfold rRl at hr
  split at hr
  · trivial
  · rename_i b
    split at hr
    · rename_i p hp
      split at hr
      · rename_i hb
        obtain ⟨z, z1, z2, z3⟩ := hO.2.1 _ _ hp
        rw [rE_d, z1] at hc
        cases hc
        show ρ[b.toNat]? = some _
        rw [z1, rLong (by omega) (by omega)]
      · cases hr
    · cases hr
  · cases hr
theorem rOk.cut (hO : rOk ρ fs) {i : Nat} {z : Int} {p : Int × Int} (hz : ρ[i]? = some z) (h1 : p.1 ≤ z) (h2 : z ≤ p.2) (h3 : rCd ρ p z) : rOk ρ (fs.set i p) := by
  refine ⟨by rw [List.length_set]; exact hO.1, fun j q hq => ?_, fun j q w hq hw => ?_⟩
  · rw [List.getElem?_set] at hq
    split at hq
    · rename_i hij
      subst hij
      split at hq
      · cases hq
        exact ⟨z, hz, h1, h2⟩
      · cases hq
    · exact hO.2.1 j q hq
  · rw [List.getElem?_set] at hq
    split at hq
    · rename_i hij
      subst hij
      split at hq
      · cases hq
        rw [hz] at hw
        cases hw
        exact h3
      · cases hq
    · exact hO.2.2 j q w hq hw
theorem rUp_ok {a b z : Int} (h1 : a ≤ z) (h2 : b ≤ z) (h3 : ∀ j c, rCl a = some (j, c) → ∃ y, ρ[j]? = some y ∧ y + c ≤ z) : rUp a b ≤ z ∧ ∀ j c, rCl (rUp a b) = some (j, c) → ∃ y, ρ[j]? = some y ∧ y + c ≤ z := by
  unfold rUp
  split
  · rename_i h
    refine ⟨h2, fun j c hj => ?_⟩
    unfold rCl at hj
    rw [if_neg (by omega)] at hj
    cases hj
  · exact ⟨h1, h3⟩
theorem rDn_ok {a b z : Int} (h1 : z ≤ a) (h2 : z ≤ b) (h3 : ∀ j c, rCu a = some (j, c) → ∃ y, ρ[j]? = some y ∧ z ≤ y + c) : z ≤ rDn a b ∧ ∀ j c, rCu (rDn a b) = some (j, c) → ∃ y, ρ[j]? = some y ∧ z ≤ y + c := by
  unfold rDn
  split
  · rename_i h
    refine ⟨h2, fun j c hj => ?_⟩
    unfold rCu at hj
    rw [if_neg (by omega)] at hj
    cases hj
  · exact ⟨h1, h3⟩
theorem rMx {a b z : Int} (h1 : a ≤ z) (h2 : b ≤ z) : rMax a b ≤ z := by
  unfold rMax
  split <;> assumption
theorem rMn {a b z : Int} (h1 : z ≤ a) (h2 : z ≤ b) : z ≤ rMin a b := by
  unfold rMin
  split <;> assumption
theorem rCut_ok (hO : rOk ρ fs) {v : Value} {x lo hi : Int} (hv : rVal ρ v x) (h1 : lo ≤ x) (h2 : x ≤ hi) : ∃ g, rCut fs v lo hi = some g ∧ rOk ρ g := by
  have rng : ∀ {i : Nat} {z : Int}, ρ[i]? = some z → ∃ q, fs[i]? = some q ∧ q.1 ≤ z ∧ z ≤ q.2 ∧ rLo fs 6 q.1 ≤ z ∧ z ≤ rHi fs 6 q.2 ∧ rCd ρ q z := fun {i z} hz => by
    have hi : i < fs.length := by rw [← hO.1]; exact (List.getElem?_eq_some_iff.mp hz).1
    obtain ⟨z', z1, z2, z3⟩ := hO.2.1 i _ (List.getElem?_eq_getElem hi)
    obtain ⟨z'', y1, y2, y3⟩ := hO.get (List.getElem?_eq_getElem hi)
    rw [hz] at z1 y1
    cases z1
    cases y1
    exact ⟨_, List.getElem?_eq_getElem hi, z2, z3, y2, y3, hO.2.2 _ _ _ (List.getElem?_eq_getElem hi) hz⟩
  unfold rCut
  split
  · rename_i b
    obtain ⟨z, z1, z2⟩ := hv
    obtain ⟨q, q1, q2, q3, q4, q5, q6⟩ := rng z1
    rw [q1]
    have m1 : rMax (rLo fs 6 q.1) (lo - rOf b) ≤ z := rMx q4 (by omega)
    have m2 : z ≤ rMin (rHi fs 6 q.2) (hi - rOf b) := rMn q5 (by omega)
    obtain ⟨u1, u2⟩ := rUp_ok (b := lo - rOf b) q2 (by omega) q6.1
    obtain ⟨u3, u4⟩ := rDn_ok (b := hi - rOf b) q3 (by omega) q6.2
    exact ⟨_, if_pos (Int.le_trans m1 m2), hO.cut z1 u1 u3 ⟨u2, u4⟩⟩
  · rename_i b
    have z1 : ρ[b.toNat]? = some x := hv
    obtain ⟨q, q1, q2, q3, q4, q5, q6⟩ := rng z1
    rw [q1]
    have m1 : rMax (rLo fs 6 q.1) lo ≤ x := rMx q4 h1
    have m2 : x ≤ rMin (rHi fs 6 q.2) hi := rMn q5 h2
    obtain ⟨u1, u2⟩ := rUp_ok (b := lo) q2 h1 q6.1
    obtain ⟨u3, u4⟩ := rDn_ok (b := hi) q3 h2 q6.2
    exact ⟨_, if_pos (Int.le_trans m1 m2), hO.cut z1 u1 u3 ⟨u2, u4⟩⟩
  · exact ⟨fs, rfl, hO⟩
theorem rTwo_ok (hO : rOk ρ fs) {v w : Value} {x y a b c d : Int} (hv : rVal ρ v x) (hw : rVal ρ w y) (h1 : a ≤ x) (h2 : x ≤ b) (h3 : c ≤ y) (h4 : y ≤ d) : ∃ g ∈ rTwo fs v w a b c d, rOk ρ g := by
  obtain ⟨g, g1, g2⟩ := rCut_ok hO hv h1 h2
  obtain ⟨k, k1, k2⟩ := rCut_ok g2 hw h3 h4
  refine ⟨k, ?_, k2⟩
  unfold rTwo
  rw [g1]
  dsimp only
  rw [k1]
  exact List.mem_cons_self
/-- the comparison of two Ints -/
def rCmp (c : ClassFile.Cond) (x y : Int) : Prop := match c with
  | .eq => x = y
  | .ne => ¬ x = y
  | .lt => x < y
  | .ge => y ≤ x
  | .gt => y < x
  | .le => x ≤ y
theorem rRef_ok (hO : rOk ρ fs) {c : ClassFile.Cond} {v w : Value} {p q : Int × Int} {x y : Int} (hv : rVal ρ v x) (hw : rVal ρ w y) (x1 : p.1 ≤ x) (x2 : x ≤ p.2) (y1 : q.1 ≤ y) (y2 : y ≤ q.2) (bx : rL0 ≤ x ∧ x ≤ rL1) (by' : rL0 ≤ y ∧ y ≤ rL1) (hc : rCmp c x y) : ∃ g ∈ rRef c fs v w p q, rOk ρ g := by
  cases c
  case eq =>
    have hc : x = y := hc
    subst hc
    exact rTwo_ok hO hv hw (rMx x1 y1) (rMn x2 y2) (rMx x1 y1) (rMn x2 y2)
  case ne =>
    have hc : ¬ x = y := hc
    unfold rRef
    dsimp only
    split
    · exact ⟨fs, List.mem_cons_self, hO⟩
    split
    · rename_i hq
      by_cases hlt : x < y
      · obtain ⟨g, g1, g2⟩ := rTwo_ok hO hv hw (a := rL0) (b := q.1 - 1) (c := rL0) (d := rL1) (by omega) (by omega) (by omega) (by omega)
        exact ⟨g, List.mem_append_left _ g1, g2⟩
      · obtain ⟨g, g1, g2⟩ := rTwo_ok hO hv hw (a := q.1 + 1) (b := rL1) (c := rL0) (d := rL1) (by omega) (by omega) (by omega) (by omega)
        exact ⟨g, List.mem_append_right _ g1, g2⟩
    · split
      · rename_i hp
        by_cases hlt : y < x
        · obtain ⟨g, g1, g2⟩ := rTwo_ok hO hv hw (a := rL0) (b := rL1) (c := rL0) (d := p.1 - 1) (by omega) (by omega) (by omega) (by omega)
          exact ⟨g, List.mem_append_left _ g1, g2⟩
        · obtain ⟨g, g1, g2⟩ := rTwo_ok hO hv hw (a := rL0) (b := rL1) (c := p.1 + 1) (d := rL1) (by omega) (by omega) (by omega) (by omega)
          exact ⟨g, List.mem_append_right _ g1, g2⟩
      · exact ⟨fs, List.mem_cons_self, hO⟩
  case lt =>
    have hc : x < y := hc
    exact rTwo_ok hO hv hw (by omega) (by omega) (by omega) (by omega)
  case ge =>
    have hc : y ≤ x := hc
    exact rTwo_ok hO hv hw (by omega) (by omega) (by omega) (by omega)
  case gt =>
    have hc : y < x := hc
    exact rTwo_ok hO hv hw (by omega) (by omega) (by omega) (by omega)
  case le =>
    have hc : x ≤ y := hc
    exact rTwo_ok hO hv hw (by omega) (by omega) (by omega) (by omega)
end RJ
