/-! THE MACHINE WITH RANGES IS SOUND: numbers on the stack -/
section RU
variable {ρ : List Int} {fs : rF}
theorem rPlus_ok (hO : rOk ρ fs) {v v' : Value} {c : Int} {x : Int32} (h : rPlus fs v c = some v') (hn : fs.length < 60000) (hx : rE ρ v = some (.int x)) : ∃ w : Int32, rE ρ v' = some (.int w) ∧ w.toInt = x.toInt + c ∧ rI0 ≤ x.toInt + c ∧ x.toInt + c ≤ rI1 := by
  unfold rPlus at h
  split at h
  · rename_i b
    split at h
    · rename_i hb
      split at h
      · rename_i q hq
        split at h
        · rename_i hr
          cases h
          have hq' := hq
          unfold rRg at hq'
          dsimp only at hq'
          split at hq'
          · rename_i p hp
            split at hq'
            · rename_i hp2
              cases hq'
              obtain ⟨z, z1, z2, z3⟩ := hO.get hp
              have hlt : rId b < 60000 := by
                have := (List.getElem?_eq_some_iff.mp hp).1
                omega
              obtain ⟨b', e1, e2, e3⟩ := rMk_id (id := rId b) (off := rOf b + c) hlt (by omega) (by omega)
              rw [rE_f, z1] at hx
              cases hx
              dsimp only at hr
              have i1 : (Int32.ofInt (z + rOf b)).toInt = z + rOf b := rInt (by omega) (by omega)
              refine ⟨Int32.ofInt (z + (rOf b + c)), ?_, ?_, ?_, ?_⟩
              · rw [e1, rE_f, e2, e3, z1]
                rfl
              · rw [i1, rInt (by omega) (by omega)]
                omega
              · rw [i1]; omega
              · rw [i1]; omega
            · cases hq'
          · cases hq'
        · cases h
      · cases h
    · cases h
  · cases h
theorem rCh_ok (x : Int32) : 0 ≤ (x.toUInt32 % 65536).toInt32.toInt ∧ (x.toUInt32 % 65536).toInt32.toInt ≤ 65535 := by
  have e : (x.toUInt32 % 65536).toInt32.toBitVec.toNat < 65536 := by
    show (x.toUInt32 % 65536).toNat < _
    rw [UInt32.toNat_mod]
    exact Nat.mod_lt _ (by decide)
  rw [rNat (by omega)]
  omega
theorem rCh_same {x : Int32} (h : 0 ≤ x.toInt ∧ x.toInt ≤ 65535) : (x.toUInt32 % 65536).toInt32 = x := by
  have h0 := rNat' h.1
  have h3 : x.toBitVec.toNat < 65536 := by
    have := rNat h0
    omega
  have h4 : x.toUInt32 % 65536 = x.toUInt32 := by
    apply UInt32.toNat_inj.mp
    rw [UInt32.toNat_mod]
    exact Nat.mod_eq_of_lt h3
  rw [h4]
  rfl
theorem rBy_ok (x : Int32) : -128 ≤ x.toInt8.toInt32.toInt ∧ x.toInt8.toInt32.toInt ≤ 127 := by
  rw [Int8.toInt_toInt32]
  exact ⟨Int8.le_toInt _, Int8.toInt_le _⟩
theorem rBy_same {x : Int32} (h : -128 ≤ x.toInt ∧ x.toInt ≤ 127) : x.toInt8.toInt32 = x := by
  apply Int32.toInt_inj.mp
  rw [Int8.toInt_toInt32, Int32.toInt_toInt8]
  exact Int.bmod_eq_of_le_mul_two (by show -((256 : Nat) : Int) ≤ x.toInt * 2; omega) (by show x.toInt * 2 < ((256 : Nat) : Int); omega)
theorem rAnyL (w : Int64) : rL0 ≤ w.toInt ∧ w.toInt ≤ rL1 := ⟨Int64.le_toInt w, Int64.toInt_le w⟩
theorem rBil_ok {i : Instr} {p q z : Int × Int} {x y : Int64} (hb : rBil i p q = some z) (x1 : p.1 ≤ x.toInt) (x2 : x.toInt ≤ p.2) (y1 : q.1 ≤ y.toInt) (y2 : y.toInt ≤ q.2) (r : List Value) : ∃ w, mA i (.long y :: .long x :: r) = some (.long w :: r) ∧ z.1 ≤ w.toInt ∧ w.toInt ≤ z.2 := by
  cases i <;> simp only [rBil, reduceCtorEq] at hb
  case ldiv =>
    split at hb
    · rename_i hq
      cases hb
      have hy : ¬ y = 0 := fun h => by subst h; have : (0 : Int64).toInt = 0 := rfl; omega
      refine ⟨x / y, ?_, rAnyL _⟩
      show (if y = 0 then none else some (Value.long (x / y) :: r)) = _
      rw [if_neg hy]
    · cases hb
  case lrem =>
    split at hb
    · rename_i hq
      cases hb
      have hy : ¬ y = 0 := fun h => by subst h; have : (0 : Int64).toInt = 0 := rfl; omega
      refine ⟨x - x / y * y, ?_, rAnyL _⟩
      show (if y = 0 then none else some (Value.long (x - x / y * y) :: r)) = _
      rw [if_neg hy]
    · cases hb
  case land =>
    split at hb
    · rename_i hq
      cases hb
      refine ⟨x &&& y, rfl, ?_⟩
      rw [rLand_255 (by omega) (by omega)]
      dsimp only
      omega
    · split at hb
      · rename_i hq
        cases hb
        refine ⟨x &&& y, rfl, ?_⟩
        have := rLand_ok (x := x) (y := y) (by omega)
        dsimp only
        omega
      · cases hb
        exact ⟨_, rfl, rAnyL _⟩
  case lor =>
    split at hb
    · rename_i h0
      obtain ⟨k1, k2, k3, k4⟩ := rLor_ok (x := x) (y := y) (by omega) (by omega)
      split at hb
      · rename_i hq
        cases hb
        refine ⟨x ||| y, rfl, ?_⟩
        have := k4 (by have : y.toInt = q.1 := by omega
                       omega) (by omega)
        dsimp only
        omega
      · cases hb
        refine ⟨x ||| y, rfl, ?_⟩
        dsimp only
        unfold rMax
        split <;> omega
    · cases hb
      exact ⟨_, rfl, rAnyL _⟩
  all_goals
    cases hb
    exact ⟨_, rfl, rAnyL _⟩
/-- a new int on the stack -/
theorem rPut (hO : rOk ρ fs) (hn : fs.length < 60000) {l u : Int} {x : Int32} {r rc : List Value} (hr : rEs ρ r = some rc) (h : rI0 ≤ l → u ≤ rI1 → l ≤ x.toInt ∧ x.toInt ≤ u) : ∃ e, rOk (ρ ++ e) (rNi fs l u).1 ∧ rEs (ρ ++ e) ((rNi fs l u).2 :: r) = some (.int x :: rc) := by
  obtain ⟨e, e1, e2⟩ := rNi_ok2 hO hn h
  exact ⟨e, e1, rEs_mk e2 (rEs_ext e hr)⟩
theorem rPutl (hO : rOk ρ fs) (hn : fs.length < 60000) {l u : Int} {x : Int64} {r rc : List Value} (hr : rEs ρ r = some rc) (h1 : l ≤ x.toInt) (h2 : x.toInt ≤ u) : ∃ e, rOk (ρ ++ e) (rNl fs l u).1 ∧ rEs (ρ ++ e) ((rNl fs l u).2 :: r) = some (.long x :: rc) := by
  obtain ⟨e, e1, e2⟩ := rNl_ok hO hn h1 h2
  exact ⟨e, e1, rEs_mk e2 (rEs_ext e hr)⟩
theorem rSame (hO : rOk ρ fs) {st stc : List Value} (h : rEs ρ st = some stc) : ∃ e, rOk (ρ ++ e) fs ∧ rEs (ρ ++ e) st = some stc := ⟨[], by rw [List.append_nil]; exact hO, by rw [List.append_nil]; exact h⟩
set_option maxHeartbeats 1000000 in
theorem rU_ok (hO : rOk ρ fs) (hn : fs.length < 60000) {i : Instr} {st stc st' : List Value} {fs' : rF} (hs : rEs ρ st = some stc) (h : rU fs i st = some (fs', st')) : ∃ stc', mA i stc = some stc' ∧ ∃ e, rOk (ρ ++ e) fs' ∧ rEs (ρ ++ e) st' = some stc' := by
  unfold rU at h
  split at h
  · rename_i v r
    obtain ⟨c, rc, hc, hr, rfl⟩ := rEs_cons hs
    cases hq : rRg fs v with
    | none => rw [hq] at h; cases h
    | some q =>
      rw [hq] at h
      cases h
      obtain ⟨x, rfl, x1, x2⟩ := rRg_ok hO hq hc
      refine ⟨_, rfl, rPutl hO hn hr ?_ ?_⟩
      · rw [Int32.toInt_toInt64]; exact x1
      · rw [Int32.toInt_toInt64]; exact x2
  · rename_i v r
    obtain ⟨c, rc, hc, hr, rfl⟩ := rEs_cons hs
    cases hq : rRl fs v with
    | none => rw [hq] at h; cases h
    | some q =>
      rw [hq] at h
      cases h
      obtain ⟨x, rfl, x1, x2⟩ := rRl_ok hO hq hc
      refine ⟨_, rfl, rPut hO hn hr (fun h1 h2 => ?_)⟩
      rw [Int64.toInt_toInt32, rBm (by omega) (by omega)]
      exact ⟨x1, x2⟩
  · rename_i v r
    obtain ⟨c, rc, hc, hr, rfl⟩ := rEs_cons hs
    split at h
    · rename_i q hq
      obtain ⟨x, rfl, x1, x2⟩ := rRg_ok hO hq hc
      split at h
      · rename_i hb
        cases h
        refine ⟨_, rfl, ?_⟩
        dsimp only
        rw [rCh_same ⟨by omega, by omega⟩]
        exact rSame hO hs
      · cases h
        exact ⟨_, rfl, rPut hO hn hr (fun _ _ => rCh_ok x)⟩
    · cases h
  · rename_i v r
    obtain ⟨c, rc, hc, hr, rfl⟩ := rEs_cons hs
    split at h
    · rename_i q hq
      obtain ⟨x, rfl, x1, x2⟩ := rRg_ok hO hq hc
      split at h
      · rename_i hb
        cases h
        refine ⟨_, rfl, ?_⟩
        dsimp only
        rw [rBy_same ⟨by omega, by omega⟩]
        exact rSame hO hs
      · cases h
        exact ⟨_, rfl, rPut hO hn hr (fun _ _ => rBy_ok x)⟩
    · cases h
  · rename_i v r
    obtain ⟨c, rc, hc, hr, rfl⟩ := rEs_cons hs
    cases hq : rRg fs v with
    | none => rw [hq] at h; cases h
    | some q =>
      rw [hq] at h
      cases h
      obtain ⟨x, rfl, x1, x2⟩ := rRg_ok hO hq hc
      refine ⟨_, rfl, rPut hO hn hr (fun h1 h2 => ?_)⟩
      rw [Int32.toInt_neg, rBm (by omega) (by omega)]
      omega
  · rename_i v r
    obtain ⟨c, rc, hc, hr, rfl⟩ := rEs_cons hs
    cases hq : rRl fs v with
    | none => rw [hq] at h; cases h
    | some q =>
      rw [hq] at h
      cases h
      obtain ⟨x, rfl, x1, x2⟩ := rRl_ok hO hq hc
      exact ⟨_, rfl, rPutl hO hn hr (rAnyL _).1 (rAnyL _).2⟩
  · rename_i y x r
    obtain ⟨c, rc, hc, hr, rfl⟩ := rEs_cons hs
    obtain ⟨d, rd, hd, hr2, rfl⟩ := rEs_cons hr
    split at h
    · rename_i k q hk hq
      cases h
      obtain ⟨y', rfl, y1, y2⟩ := rRg_ok hO hk hc
      obtain ⟨x', rfl, x1, x2⟩ := rRl_ok hO hq hd
      exact ⟨_, rfl, rPutl hO hn hr2 (rShl_ok x1 x2 y1 y2).1 (rShl_ok x1 x2 y1 y2).2⟩
    · cases h
  · rename_i y x r
    obtain ⟨c, rc, hc, hr, rfl⟩ := rEs_cons hs
    obtain ⟨d, rd, hd, hr2, rfl⟩ := rEs_cons hr
    split at h
    · rename_i k q hk hq
      cases h
      obtain ⟨y', rfl, y1, y2⟩ := rRg_ok hO hk hc
      obtain ⟨x', rfl, x1, x2⟩ := rRl_ok hO hq hd
      exact ⟨_, rfl, rPutl hO hn hr2 (rShr_ok x1 x2 y1 y2).1 (rShr_ok x1 x2 y1 y2).2⟩
    · cases h
  · rename_i y x r
    obtain ⟨c, rc, hc, hr, rfl⟩ := rEs_cons hs
    obtain ⟨d, rd, hd, hr2, rfl⟩ := rEs_cons hr
    cases hc
    split at h
    · rename_i v hv
      cases h
      have hv' := hv
      unfold rPlus at hv'
      split at hv'
      · rename_i b
        rw [rE_f] at hd
        cases hz : ρ[rId b]? with
        | none => rw [hz] at hd; cases hd
        | some z =>
          rw [hz] at hd
          cases hd
          obtain ⟨w, w1, w2, w3, w4⟩ := rPlus_ok hO hv hn (by rw [rE_f, hz]; rfl)
          refine ⟨_, rfl, rSame hO (rEs_mk ?_ hr2)⟩
          rw [w1]
          refine congrArg (fun t => some (Value.int t)) (Int32.toInt_inj.mp ?_)
          rw [w2, rAdd_ok w3 w4]
      · cases hv'
    · split at h
      · rename_i q hq
        cases h
        obtain ⟨x', rfl, x1, x2⟩ := rRg_ok hO hq hd
        refine ⟨_, rfl, rPut hO hn hr2 (fun h1 h2 => ?_)⟩
        rw [rAdd_ok (by omega) (by omega)]
        omega
      · cases h
  · rename_i y x r _
    obtain ⟨c, rc, hc, hr, rfl⟩ := rEs_cons hs
    obtain ⟨d, rd, hd, hr2, rfl⟩ := rEs_cons hr
    cases hd
    split at h
    · rename_i v hv
      cases h
      have hv' := hv
      unfold rPlus at hv'
      split at hv'
      · rename_i b _
        rw [rE_f] at hc
        cases hz : ρ[rId b]? with
        | none => rw [hz] at hc; cases hc
        | some z =>
          rw [hz] at hc
          cases hc
          obtain ⟨w, w1, w2, w3, w4⟩ := rPlus_ok hO hv hn (by rw [rE_f, hz]; rfl)
          refine ⟨_, rfl, rSame hO (rEs_mk ?_ hr2)⟩
          rw [w1]
          refine congrArg (fun t => some (Value.int t)) (Int32.toInt_inj.mp ?_)
          rw [w2, rAdd_ok (by omega) (by omega)]
          omega
      · cases hv'
    · split at h
      · rename_i q hq
        cases h
        obtain ⟨x', rfl, x1, x2⟩ := rRg_ok hO hq hc
        refine ⟨_, rfl, rPut hO hn hr2 (fun h1 h2 => ?_)⟩
        rw [rAdd_ok (by omega) (by omega)]
        omega
      · cases h
  · rename_i y x r
    obtain ⟨c, rc, hc, hr, rfl⟩ := rEs_cons hs
    obtain ⟨d, rd, hd, hr2, rfl⟩ := rEs_cons hr
    cases hc
    split at h
    · rename_i v hv
      cases h
      have hv' := hv
      unfold rPlus at hv'
      split at hv'
      · rename_i b
        rw [rE_f] at hd
        cases hz : ρ[rId b]? with
        | none => rw [hz] at hd; cases hd
        | some z =>
          rw [hz] at hd
          cases hd
          obtain ⟨w, w1, w2, w3, w4⟩ := rPlus_ok hO hv hn (by rw [rE_f, hz]; rfl)
          refine ⟨_, rfl, rSame hO (rEs_mk ?_ hr2)⟩
          rw [w1]
          refine congrArg (fun t => some (Value.int t)) (Int32.toInt_inj.mp ?_)
          rw [w2, rSub_ok (by omega) (by omega)]
          omega
      · cases hv'
    · split at h
      · rename_i q hq
        cases h
        obtain ⟨x', rfl, x1, x2⟩ := rRg_ok hO hq hd
        refine ⟨_, rfl, rPut hO hn hr2 (fun h1 h2 => ?_)⟩
        rw [rSub_ok (by omega) (by omega)]
        omega
      · cases h
  · rename_i i y x r _ _ _ _ _ _ _ _ _ _ _
    obtain ⟨c, rc, hc, hr, rfl⟩ := rEs_cons hs
    obtain ⟨d, rd, hd, hr2, rfl⟩ := rEs_cons hr
    split at h
    · rename_i p q hp hq
      split at h
      · rename_i z hz
        cases h
        obtain ⟨y', rfl, y1, y2⟩ := rRg_ok hO hq hc
        obtain ⟨x', rfl, x1, x2⟩ := rRg_ok hO hp hd
        obtain ⟨w, w1, w2⟩ := rBin_ok hz x1 x2 y1 y2 rd
        exact ⟨_, w1, rPut hO hn hr2 w2⟩
      · cases h
    · split at h
      · rename_i p q hp hq
        split at h
        · rename_i z hz
          cases h
          obtain ⟨y', rfl, y1, y2⟩ := rRl_ok hO hq hc
          obtain ⟨x', rfl, x1, x2⟩ := rRl_ok hO hp hd
          obtain ⟨w, w1, w2, w3⟩ := rBil_ok hz x1 x2 y1 y2 rd
          exact ⟨_, w1, rPutl hO hn hr2 w2 w3⟩
        · cases h
      · cases h
  · cases h
end RU
