/-! THE MACHINE WITH RANGES IS SOUND: questions -/
section RZ
variable {ρ : List Int} {fs : rF}
set_option maxHeartbeats 1000000 in
theorem rZ_ok (hO : rOk ρ fs) {i : Instr} {pc : Nat} {st stc : List Value} {l : List (rF × Nat × List Value)} (hs : rEs ρ st = some stc) (h : rZ fs i pc st = some l) : ∃ k ∈ l, rOk ρ k.1 ∧ ∃ stc', rEs ρ k.2.2 = some stc' ∧ ((k.2.1 = pc ∧ stc' = stc) ∨ mJ i pc stc = some (k.2.1, stc') ∨ (i = .lcmp ∧ mA i stc = some stc' ∧ k.2.1 = pc + 1)) := by
  unfold rZ at h
  split at h
  · rename_i c off v r
    split at h
    · rename_i x hx
      obtain ⟨d, rd, hd, hr, rfl⟩ := rEs_cons hs
      obtain ⟨x', rfl, x1, x2⟩ := rRg_ok hO hx hd
      obtain ⟨k, k1, k2, k3, k4⟩ := rWay_ok hO (w := .int 0) (y := 0) (rVal_i hO hx hd) (show rVal ρ (.int 0) _ from trivial) x1 x2 (Int.le_refl _) (Int.le_refl _) hr h
      exact ⟨k, k1, k2, rd, k3, Or.inr (Or.inl k4)⟩
    · cases h
  · rename_i c off w v r
    split at h
    · rename_i x y hx hy
      obtain ⟨d, rd, hd, hr, rfl⟩ := rEs_cons hs
      obtain ⟨e, re, he, hr2, rfl⟩ := rEs_cons hr
      obtain ⟨y', rfl, y1, y2⟩ := rRg_ok hO hy hd
      obtain ⟨x', rfl, x1, x2⟩ := rRg_ok hO hx he
      obtain ⟨k, k1, k2, k3, k4⟩ := rWay_ok hO (rVal_i hO hx he) (rVal_i hO hy hd) x1 x2 y1 y2 hr2 h
      exact ⟨k, k1, k2, re, k3, Or.inr (Or.inl k4)⟩
    · cases h
  · rename_i cnd off w v r
    split at h
    · rename_i j y q hq
      split at h
      · rename_i g hg
        split at h
        · rename_i hb
          cases h
          obtain ⟨d, rd, hd, hr, rfl⟩ := rEs_cons hs
          obtain ⟨e, re, he, hr2, rfl⟩ := rEs_cons hr
          cases hd
          obtain ⟨z, z1, z2, z3⟩ := hO.2.1 _ _ hg
          rw [rE_r, z1] at he
          cases he
          have hx : 2 ≤ z.toNat ∧ z.toNat < 52 := by omega
          have go : ∀ t : Bool, ∃ k ∈ [(fs, q, r), (fs, pc + 3, r)], rOk ρ k.1 ∧ rEs ρ k.2.2 = some re ∧ mBr t pc off re = some (k.2.1, re) := fun t => by
            unfold mBr
            rw [hq]
            cases t with
            | true => exact ⟨_, List.mem_cons_self, hO, hr2, rfl⟩
            | false => exact ⟨_, List.mem_cons_of_mem _ List.mem_cons_self, hO, hr2, rfl⟩
          cases cnd with
          | eq =>
            obtain ⟨k, k1, k2, k3, k4⟩ := go (decide (z.toNat = y))
            refine ⟨k, k1, k2, re, k3, Or.inr (Or.inl ?_)⟩
            show (if _ then mBr (decide (z.toNat = y)) pc off re else none) = _
            rw [if_pos ⟨hx, hb.2⟩]
            exact k4
          | ne =>
            obtain ⟨k, k1, k2, k3, k4⟩ := go (decide (¬ z.toNat = y))
            refine ⟨k, k1, k2, re, k3, Or.inr (Or.inl ?_)⟩
            show (if _ then mBr (decide (¬ z.toNat = y)) pc off re else none) = _
            rw [if_pos ⟨hx, hb.2⟩]
            exact k4
        · cases h
      · cases h
    · cases h
  · rename_i w v r
    split at h
    · rename_i x y hx hy
      cases h
      obtain ⟨d, rd, hd, hr, rfl⟩ := rEs_cons hs
      obtain ⟨e, re, he, hr2, rfl⟩ := rEs_cons hr
      obtain ⟨y', rfl, y1, y2⟩ := rRl_ok hO hy hd
      obtain ⟨x', rfl, x1, x2⟩ := rRl_ok hO hx he
      have vx := rVal_l hO hx he
      have vy := rVal_l hO hy hd
      have key : ∀ n : Int32, lg_cmp x' y' = n → mA .lcmp (.long y' :: .long x' :: re) = some (.int n :: re) := fun n hn => by rw [← hn]; rfl
      by_cases h1 : x'.toInt < y'.toInt
      · obtain ⟨g, g1, g2⟩ := rRef_ok (c := .lt) hO vx vy x1 x2 y1 y2 (rAnyL x') (rAnyL y') h1
        refine ⟨(g, pc + 1, .int (-1) :: r), List.mem_append_left _ (List.mem_map.mpr ⟨g, g1, rfl⟩), g2, _, rEs_mk rfl hr2, Or.inr (Or.inr ⟨rfl, key _ ?_, rfl⟩)⟩
        unfold lg_cmp
        rw [if_neg (fun k => by have := Int64.lt_iff_toInt_lt.mp k; omega), if_neg (fun k => by subst k; omega)]
      · by_cases h2 : x'.toInt = y'.toInt
        · obtain ⟨g, g1, g2⟩ := rRef_ok (c := .eq) hO vx vy x1 x2 y1 y2 (rAnyL x') (rAnyL y') h2
          refine ⟨(g, pc + 1, .int 0 :: r), List.mem_append_right _ (List.mem_append_left _ (List.mem_map.mpr ⟨g, g1, rfl⟩)), g2, _, rEs_mk rfl hr2, Or.inr (Or.inr ⟨rfl, key _ ?_, rfl⟩)⟩
          have e : x' = y' := Int64.toInt_inj.mp h2
          subst e
          unfold lg_cmp
          rw [if_neg (fun k => by have := Int64.lt_iff_toInt_lt.mp k; omega), if_pos rfl]
        · obtain ⟨g, g1, g2⟩ := rRef_ok (c := .gt) hO vx vy x1 x2 y1 y2 (rAnyL x') (rAnyL y') (show y'.toInt < x'.toInt by omega)
          refine ⟨(g, pc + 1, .int 1 :: r), List.mem_append_right _ (List.mem_append_right _ (List.mem_map.mpr ⟨g, g1, rfl⟩)), g2, _, rEs_mk rfl hr2, Or.inr (Or.inr ⟨rfl, key _ ?_, rfl⟩)⟩
          unfold lg_cmp
          exact if_pos (Int64.lt_iff_toInt_lt.mpr (by omega))
    · cases h
  · rename_i d lo hi offs v r
    split at h
    · rename_i x hx
      split at h
      · rename_i hw
        cases h
        obtain ⟨e, re, he, hr, rfl⟩ := rEs_cons hs
        obtain ⟨x', rfl, x1, x2⟩ := rRg_ok hO hx he
        have vx := rVal_i hO hx he
        have b := rI_b x'
        have go : ∀ g, rOk ρ g → ∀ L : List rF, g ∈ L → ∃ k ∈ L.map (fun g => (g, pc, v :: r)), rOk ρ k.1 ∧ ∃ stc', rEs ρ k.2.2 = some stc' ∧ ((k.2.1 = pc ∧ stc' = .int x' :: re) ∨ mJ (.tableswitch d lo hi offs) pc (.int x' :: re) = some (k.2.1, stc') ∨ (Instr.tableswitch d lo hi offs = .lcmp ∧ mA (.tableswitch d lo hi offs) (.int x' :: re) = some stc' ∧ k.2.1 = pc + 1)) := fun g hg L hL => ⟨_, List.mem_map.mpr ⟨g, hL, rfl⟩, hg, _, hs, Or.inl ⟨rfl, rfl⟩⟩
        by_cases h1 : x'.toInt ≤ lo - 1
        · obtain ⟨g, g1, g2⟩ := rTwo_ok (w := .int 0) (y := 0) hO vx trivial (a := rL0) (b := lo - 1) (c := rL0) (d := rL1) b.1 h1 (by unfold rL0; omega) (by unfold rL1; omega)
          exact go g g2 _ (List.mem_append_left _ g1)
        · by_cases h2 : hi + 1 ≤ x'.toInt
          · obtain ⟨g, g1, g2⟩ := rTwo_ok (w := .int 0) (y := 0) hO vx trivial (a := hi + 1) (b := rL1) (c := rL0) (d := rL1) h2 b.2 (by unfold rL0; omega) (by unfold rL1; omega)
            exact go g g2 _ (List.mem_append_right _ (List.mem_append_left _ g1))
          · have e1 : lo + ((x'.toInt - lo).toNat : Int) = x'.toInt := by omega
            obtain ⟨g, g1, g2⟩ := rTwo_ok (w := .int 0) (y := 0) hO vx trivial (a := lo + ((x'.toInt - lo).toNat : Int)) (b := lo + ((x'.toInt - lo).toNat : Int)) (c := rL0) (d := rL1) (by omega) (by omega) (by unfold rL0; omega) (by unfold rL1; omega)
            refine go g g2 _ (List.mem_append_right _ (List.mem_append_right _ (List.mem_flatMap.mpr ⟨(x'.toInt - lo).toNat, List.mem_range.mpr (by omega), ?_⟩)))
            rw [if_pos (by omega)]
            exact g1
      · cases h
    · cases h
  · rename_i d ps v r
    split at h
    · rename_i x q tl hx hq
      cases h
      obtain ⟨e, re, he, hr, rfl⟩ := rEs_cons hs
      obtain ⟨x', rfl, x1, x2⟩ := rRg_ok hO hx he
      have vx := rVal_i hO hx he
      have b := rI_b x'
      have go : ∀ g, rOk ρ g → ∀ L : List rF, g ∈ L → ∃ k ∈ L.map (fun g => (g, pc, v :: r)), rOk ρ k.1 ∧ ∃ stc', rEs ρ k.2.2 = some stc' ∧ ((k.2.1 = pc ∧ stc' = .int x' :: re) ∨ mJ (.lookupswitch d ps) pc (.int x' :: re) = some (k.2.1, stc') ∨ (Instr.lookupswitch d ps = .lcmp ∧ mA (.lookupswitch d ps) (.int x' :: re) = some stc' ∧ k.2.1 = pc + 1)) := fun g hg L hL => ⟨_, List.mem_map.mpr ⟨g, hL, rfl⟩, hg, _, hs, Or.inl ⟨rfl, rfl⟩⟩
      by_cases h1 : x'.toInt ≤ q.1 - 1
      · obtain ⟨g, g1, g2⟩ := rTwo_ok (w := .int 0) (y := 0) hO vx trivial (a := rL0) (b := q.1 - 1) (c := rL0) (d := rL1) b.1 h1 (by unfold rL0; omega) (by unfold rL1; omega)
        exact go g g2 _ (List.mem_append_left _ g1)
      · by_cases h2 : x'.toInt = q.1
        · obtain ⟨g, g1, g2⟩ := rTwo_ok (w := .int 0) (y := 0) hO vx trivial (a := q.1) (b := q.1) (c := rL0) (d := rL1) (by omega) (by omega) (by unfold rL0; omega) (by unfold rL1; omega)
          exact go g g2 _ (List.mem_append_right _ (List.mem_append_left _ g1))
        · obtain ⟨g, g1, g2⟩ := rTwo_ok (w := .int 0) (y := 0) hO vx trivial (a := q.1 + 1) (b := rL1) (c := rL0) (d := rL1) (by omega) b.2 (by unfold rL0; omega) (by unfold rL1; omega)
          exact go g g2 _ (List.mem_append_right _ (List.mem_append_right _ g1))
    · cases h
  · cases h
end RZ
