/-! THE MACHINE WITH RANGES IS SOUND: jumps and questions -/
section RQ
variable {ρ : List Int} {fs : rF}
theorem mBr_pc {t : Bool} {pc pc' : Nat} {off : Int} {r r' : List Value} (h : mBr t pc off r = some (pc', r')) : r' = r ∧ ∀ s : List Value, mBr t pc off s = some (pc', s) := by
  unfold mBr at h ⊢
  cases hm : mTo pc off with
  | none => rw [hm] at h; cases t <;> cases h
  | some q => rw [hm] at h; cases t <;> (cases h; exact ⟨rfl, fun _ => rfl⟩)
theorem mTo_pc {pc pc' : Nat} {off : Int} {r r' : List Value} (h : (mTo pc off).map (fun q => (q, r)) = some (pc', r')) : r' = r ∧ ∀ s : List Value, (mTo pc off).map (fun q => (q, s)) = some (pc', s) := by
  cases hm : mTo pc off with
  | none => rw [hm] at h; cases h
  | some q => rw [hm] at h; cases h; exact ⟨rfl, fun _ => rfl⟩
set_option maxHeartbeats 1000000 in
theorem rJ_ok (hO : rOk ρ fs) {i : Instr} {pc pc' : Nat} {st st' stc : List Value} (hs : rEs ρ st = some stc) (h : rJ fs i pc st = some (pc', st')) : ∃ stc', mJ i pc stc = some (pc', stc') ∧ rEs ρ st' = some stc' := by
  unfold rJ at h
  split at h
  · obtain ⟨rfl, k⟩ := mTo_pc h
    exact ⟨stc, k stc, hs⟩
  · rename_i c off v r
    split at h
    · rename_i x hx
      split at h
      · rename_i t ht
        obtain ⟨d, rd, hd, hr, rfl⟩ := rEs_cons hs
        obtain ⟨x', rfl, x1, x2⟩ := rRg_ok hO hx hd
        obtain ⟨rfl, k⟩ := mBr_pc h
        refine ⟨rd, ?_, hr⟩
        show mBr (mCnd c x' 0) pc off rd = _
        rw [rDec_ok (y := 0) ht x1 x2 (Int.le_refl _) (Int.le_refl _)]
        exact k rd
      · cases h
    · cases h
  · rename_i c off w v r
    split at h
    · rename_i x y hx hy
      split at h
      · rename_i t ht
        obtain ⟨d, rd, hd, hr, rfl⟩ := rEs_cons hs
        obtain ⟨e, re, he, hr2, rfl⟩ := rEs_cons hr
        obtain ⟨y', rfl, y1, y2⟩ := rRg_ok hO hy hd
        obtain ⟨x', rfl, x1, x2⟩ := rRg_ok hO hx he
        obtain ⟨rfl, k⟩ := mBr_pc h
        refine ⟨re, ?_, hr2⟩
        show mBr (mCnd c x' y') pc off re = _
        rw [rDec_ok ht x1 x2 y1 y2]
        exact k re
      · cases h
    · cases h
  · rename_i off y x r
    split at h
    · rename_i hq
      obtain ⟨d, rd, hd, hr, rfl⟩ := rEs_cons hs
      obtain ⟨e, re, he, hr2, rfl⟩ := rEs_cons hr
      cases hd
      cases he
      obtain ⟨rfl, k⟩ := mBr_pc h
      exact ⟨re, by show (if _ then mBr (decide (x = y)) pc off re else none) = _; rw [if_pos hq]; exact k re, hr2⟩
    · cases h
  · rename_i off y x r
    split at h
    · rename_i hq
      obtain ⟨d, rd, hd, hr, rfl⟩ := rEs_cons hs
      obtain ⟨e, re, he, hr2, rfl⟩ := rEs_cons hr
      cases hd
      cases he
      obtain ⟨rfl, k⟩ := mBr_pc h
      exact ⟨re, by show (if _ then mBr (decide (¬ x = y)) pc off re else none) = _; rw [if_pos hq]; exact k re, hr2⟩
    · cases h
  · rename_i d lo hi offs v r
    split at h
    · rename_i x hx
      obtain ⟨e, re, he, hr, rfl⟩ := rEs_cons hs
      obtain ⟨x', rfl, x1, x2⟩ := rRg_ok hO hx he
      split at h
      · rename_i hq
        obtain ⟨rfl, k⟩ := mTo_pc h
        refine ⟨re, ?_, hr⟩
        show (if x'.toInt < lo ∨ hi < x'.toInt then (mTo pc d).map (fun q => (q, re)) else _) = _
        rw [if_pos (by omega)]
        exact k re
      · rename_i hq
        split at h
        · rename_i hx2
          split at h
          · rename_i off ho
            obtain ⟨rfl, k⟩ := mTo_pc h
            refine ⟨re, ?_, hr⟩
            have hxx : x'.toInt = x.1 := by omega
            show (if x'.toInt < lo ∨ hi < x'.toInt then (mTo pc d).map (fun q => (q, re)) else match offs[(x'.toInt - lo).toNat]? with
              | some off => (mTo pc off).map (fun q => (q, re))
              | none => none) = _
            rw [if_neg (by omega), hxx, ho]
            exact k re
          · cases h
        · cases h
    · cases h
  · rename_i d ps v r
    split at h
    · rename_i x hx
      obtain ⟨e, re, he, hr, rfl⟩ := rEs_cons hs
      obtain ⟨x', rfl, x1, x2⟩ := rRg_ok hO hx he
      split at h
      · rename_i hq
        have out : ∀ k : Int, (∀ q ∈ ps.toList, ¬ q.1 = k) → Op.lookupswitch.offset ps.toList d k = d := fun k => by
          induction ps.toList with
          | nil => intro _; rfl
          | cons a l ih =>
            intro hk
            obtain ⟨a1, a2⟩ := a
            rw [Op.lookupswitch.offset_cons, if_neg (hk (a1, a2) List.mem_cons_self)]
            exact ih (fun q hq => hk q (List.mem_cons_of_mem _ hq))
        split at h
        · rename_i hx2
          obtain ⟨rfl, k⟩ := mTo_pc h
          refine ⟨re, ?_, hr⟩
          have hxx : x'.toInt = x.1 := by omega
          show (if (ps.toList.zip (ps.toList.drop 1)).all (fun (a, next) => a.1 < next.1) = true then (mTo pc (Op.lookupswitch.offset ps.toList d x'.toInt)).map (fun q => (q, re)) else none) = _
          rw [if_pos hq, hxx]
          exact k re
        · split at h
          · rename_i hall
            obtain ⟨rfl, k⟩ := mTo_pc h
            refine ⟨re, ?_, hr⟩
            show (if (ps.toList.zip (ps.toList.drop 1)).all (fun (a, next) => a.1 < next.1) = true then (mTo pc (Op.lookupswitch.offset ps.toList d x'.toInt)).map (fun q => (q, re)) else none) = _
            rw [if_pos hq, out x'.toInt (fun q hq hk => ?_)]
            · exact k re
            · have := List.all_eq_true.mp hall q hq
              rw [Bool.or_eq_true, decide_eq_true_eq, decide_eq_true_eq] at this
              omega
          · cases h
      · cases h
    · cases h
  · cases h
theorem rCmp_c (c : ClassFile.Cond) (x y : Int32) : mCnd c x y = true ↔ rCmp c x.toInt y.toInt := by
  cases c <;> simp only [mCnd, rCmp, decide_eq_true_eq]
  · exact Int32.toInt_inj.symm
  · exact not_congr Int32.toInt_inj.symm
  · exact Int32.lt_iff_toInt_lt
  · exact Int32.le_iff_toInt_le
  · exact Int32.lt_iff_toInt_lt
  · exact Int32.le_iff_toInt_le
theorem rCmp_neg (c : ClassFile.Cond) (x y : Int) (h : ¬ rCmp c x y) : rCmp (rNeg c) x y := by
  cases c <;> simp only [rCmp, rNeg] at h ⊢ <;> omega
theorem rI_b (x : Int32) : rL0 ≤ x.toInt ∧ x.toInt ≤ rL1 := by
  have h1 := Int32.le_toInt x
  have h2 := Int32.toInt_le x
  have h3 : (-2147483648 : Int) ≤ x.toInt := h1
  have h4 : x.toInt ≤ 2147483647 := h2
  unfold rL0 rL1
  omega
theorem rWay_ok (hO : rOk ρ fs) {c : ClassFile.Cond} {v w : Value} {p q : Int × Int} {x y : Int32} {pc : Nat} {off : Int} {r rc : List Value} {l : List (rF × Nat × List Value)} (hv : rVal ρ v x.toInt) (hw : rVal ρ w y.toInt) (x1 : p.1 ≤ x.toInt) (x2 : x.toInt ≤ p.2) (y1 : q.1 ≤ y.toInt) (y2 : y.toInt ≤ q.2) (hr : rEs ρ r = some rc) (h : rWay c fs v w p q pc off r = some l) : ∃ k ∈ l, rOk ρ k.1 ∧ rEs ρ k.2.2 = some rc ∧ mBr (mCnd c x y) pc off rc = some (k.2.1, rc) := by
  unfold rWay at h
  split at h
  · rename_i t ht
    cases h
    by_cases hc : rCmp c x.toInt y.toInt
    · obtain ⟨g, g1, g2⟩ := rRef_ok hO hv hw x1 x2 y1 y2 (rI_b x) (rI_b y) hc
      refine ⟨(g, t, r), List.mem_append_left _ (List.mem_map.mpr ⟨g, g1, rfl⟩), g2, hr, ?_⟩
      rw [(rCmp_c c x y).mpr hc]
      unfold mBr
      rw [ht]
      rfl
    · obtain ⟨g, g1, g2⟩ := rRef_ok hO hv hw x1 x2 y1 y2 (rI_b x) (rI_b y) (rCmp_neg c _ _ hc)
      refine ⟨(g, pc + 3, r), List.mem_append_right _ (List.mem_map.mpr ⟨g, g1, rfl⟩), g2, hr, ?_⟩
      have : mCnd c x y = false := by
        cases hm : mCnd c x y with
        | true => exact absurd ((rCmp_c c x y).mp hm) hc
        | false => rfl
      rw [this]
      unfold mBr
      rw [ht]
      rfl
  · cases h
end RQ
