/-! THE MACHINE WITH RANGES IS SOUND: one step -/
theorem mB_no {i : Instr} {lv : mL} {v : Value} (h : mB i lv = some v) (st : List Value) : mA i st = none := by
  cases i <;> simp only [mB, reduceCtorEq] at h <;> rfl
theorem mD_no {i : Instr} {nL : Nat} {lv : mL} {st : List Value} {x : mL × List Value} (h : mD i nL lv st = some x) (st2 : List Value) (lv2 : mL) : mA i st2 = none ∧ mB i lv2 = none := by
  cases i <;> simp only [mD, reduceCtorEq] at h <;> exact ⟨rfl, rfl⟩
theorem mJ_no {i : Instr} {pc : Nat} {st : List Value} {x : Nat × List Value} (h : mJ i pc st = some x) (nL : Nat) (st2 : List Value) (lv2 : mL) : mA i st2 = none ∧ mB i lv2 = none ∧ mD i nL lv2 st2 = none := by
  cases i <;> simp only [mJ, reduceCtorEq] at h <;> exact ⟨rfl, rfl, rfl⟩
theorem mG_no {i : Instr} {o1 o2 : Nat} {v : Value} {st x : List Value} {hp : mH} (h : mG i o1 o2 v st hp = some x) (nL pc : Nat) (st2 : List Value) (lv2 : mL) : mA i st2 = none ∧ mB i lv2 = none ∧ mD i nL lv2 st2 = none ∧ mJ i pc st2 = none := by
  cases i <;> simp only [mG, reduceCtorEq] at h <;> exact ⟨rfl, rfl, rfl, rfl⟩
theorem mP_no {k0 : Nat} {i : Instr} {o1 o2 o3 : Nat} {st : List Value} {hp : mH} {x : List Value × mH} (h : mP k0 i o1 o2 o3 st hp = some x) (nL pc q1 q2 : Nat) (v : Value) (st2 : List Value) (lv2 : mL) (h2 : mH) : mA i st2 = none ∧ mB i lv2 = none ∧ mD i nL lv2 st2 = none ∧ mJ i pc st2 = none ∧ mG i q1 q2 v st2 h2 = none := by
  cases i <;> simp only [mP, reduceCtorEq] at h <;> exact ⟨rfl, rfl, rfl, rfl, rfl⟩
theorem mN_no {dflt : Nat → List Value} {i : Instr} {o1 : Nat} {st : List Value} {hp : mH} {x : List Value × mH} (h : mN dflt i o1 st hp = some x) (k0 nL pc q1 q2 q3 : Nat) (v : Value) (st2 : List Value) (lv2 : mL) (h2 : mH) : mA i st2 = none ∧ mB i lv2 = none ∧ mD i nL lv2 st2 = none ∧ mJ i pc st2 = none ∧ mG i q1 q2 v st2 h2 = none ∧ mP k0 i q1 q2 q3 st2 h2 = none := by
  cases i <;> simp only [mN, reduceCtorEq] at h <;> exact ⟨rfl, rfl, rfl, rfl, rfl, rfl⟩
theorem mI_no {dflt : Nat → List Value} {i : Instr} (h : mIv i = true) (k0 nL pc q1 q2 q3 : Nat) (v : Value) (st2 : List Value) (lv2 : mL) (h2 : mH) : mA i st2 = none ∧ mB i lv2 = none ∧ mD i nL lv2 st2 = none ∧ mJ i pc st2 = none ∧ mG i q1 q2 v st2 h2 = none ∧ mP k0 i q1 q2 q3 st2 h2 = none ∧ mN dflt i q1 st2 h2 = none := by
  cases i <;> simp only [mIv, reduceCtorEq] at h <;> exact ⟨rfl, rfl, rfl, rfl, rfl, rfl, rfl⟩
section RN
variable {ρ : List Int} {fs : rF} {c0 : mH}
/-- where a state can lead: nothing is done, or one step -/
def rTo (c0 : mH) (k0 : Nat) (dflt : Nat → List Value) (e : mI) (ρ : List Int) (pc : Nat) (lc : mL) (stc : List Value) (hc : mH) (s : rT) : Prop := ∃ ex, rOk (ρ ++ ex) s.1 ∧ ∃ lc' stc' hc', rEv (ρ ++ ex) s.2.2.1 = some lc' ∧ rEs (ρ ++ ex) s.2.2.2.1 = some stc' ∧ rHr c0 (ρ ++ ex) s.2.2.2.2 hc' ∧ ((s.2.1 = pc ∧ lc' = lc ∧ stc' = stc ∧ hc' = hc) ∨ mNx k0 dflt e pc lc stc hc = some (s.2.1, lc', stc', hc'))
theorem rNx_ok (hO : rOk ρ fs) (hn : fs.length < 60000) {k0 : Nat} {dflt : Nat → List Value} {e : mI} {pc : Nat} {lv lc : mL} {st stc : List Value} {h : rH} {hc : mH} {l : List rT} (hl : rEv ρ lv = some lc) (hs : rEs ρ st = some stc) (hh : rHr c0 ρ h hc) (hx : rNx k0 e fs pc lv st h = some l) : ∃ s ∈ l, rTo c0 k0 dflt e ρ pc lc stc hc s := by
  have zero : ∀ {f : rF} {q : Nat} {lv' lc' : mL} {st' stc' : List Value} {h' : rH} {hc' : mH}, rOk ρ f → rEv ρ lv' = some lc' → rEs ρ st' = some stc' → rHr c0 ρ h' hc' → ((q = pc ∧ lc' = lc ∧ stc' = stc ∧ hc' = hc) ∨ mNx k0 dflt e pc lc stc hc = some (q, lc', stc', hc')) → rTo c0 k0 dflt e ρ pc lc stc hc (f, q, lv', st', h') := fun a b c d k => ⟨[], by rw [List.append_nil]; exact a, _, _, _, by rw [List.append_nil]; exact b, by rw [List.append_nil]; exact c, by rw [List.append_nil]; exact d, k⟩
  unfold rNx at hx
  split at hx
  · rename_i st' hA
    cases hx
    obtain ⟨stc', k1, k2⟩ := mA_r hs hA
    refine ⟨_, List.mem_cons_self, zero hO hl k2 hh (Or.inr ?_)⟩
    unfold mNx
    rw [k1]
  split at hx
  · rename_i st' hA
    cases hx
    obtain ⟨stc', k1, k2⟩ := rLc_ok hO hs hA
    refine ⟨_, List.mem_cons_self, zero hO hl k2 hh (Or.inr ?_)⟩
    unfold mNx
    rw [k1]
  split at hx
  · rename_i q hA
    cases hx
    split at hA
    · cases hA
    · obtain ⟨stc', k1, ex, k2, k3⟩ := rU_ok hO hn hs hA
      refine ⟨_, List.mem_cons_self, ex, k2, lc, stc', hc, rEv_ext ex hl, k3, rHr_ext ex hh, Or.inr ?_⟩
      unfold mNx
      rw [k1]
  split at hx
  · rename_i v hB
    cases hx
    obtain ⟨c, k1, k2⟩ := rB_ok hO hl hB
    refine ⟨_, List.mem_cons_self, zero hO hl (rEs_mk k2 hs) hh (Or.inr ?_)⟩
    unfold mNx
    rw [mB_no k1, k1]
  split at hx
  · rename_i lv' st' hB
    cases hx
    obtain ⟨lc', stc', k1, k2, k3⟩ := rD_ok hO hn hl hs hB
    obtain ⟨n1, n2⟩ := mD_no k1 stc lc
    refine ⟨_, List.mem_cons_self, zero hO k2 k3 hh (Or.inr ?_)⟩
    unfold mNx
    rw [n1, n2, k1]
  split at hx
  · rename_i pc' st' hB
    cases hx
    obtain ⟨stc', k1, k2⟩ := rJ_ok hO hs hB
    obtain ⟨n1, n2, n3⟩ := mJ_no k1 e.2.1 stc lc
    refine ⟨_, List.mem_cons_self, zero hO hl k2 hh (Or.inr ?_)⟩
    unfold mNx
    rw [n1, n2, n3, k1]
  split at hx
  · rename_i q hB
    cases hx
    obtain ⟨stc', k1, ex, k2, k3⟩ := rG_ok hO hn hh hs hB
    obtain ⟨n1, n2, n3, n4⟩ := mG_no k1 e.2.1 pc stc lc
    refine ⟨_, List.mem_cons_self, ex, k2, lc, stc', hc, rEv_ext ex hl, k3, rHr_ext ex hh, Or.inr ?_⟩
    unfold mNx
    rw [n1, n2, n3, n4, k1]
  split at hx
  · rename_i st' h' hB
    cases hx
    obtain ⟨stc', hc', k1, k2, k3⟩ := rP_ok hO hh hs hB
    obtain ⟨n1, n2, n3, n4, n5⟩ := mP_no k1 e.2.1 pc e.2.1 e.2.2.1 e.2.2.2.2 stc lc hc
    refine ⟨_, List.mem_cons_self, zero hO hl k2 k3 (Or.inr ?_)⟩
    unfold mNx
    rw [n1, n2, n3, n4, n5, k1]
  split at hx
  · rename_i q hB
    cases hx
    obtain ⟨stc', hc', k1, ex, k2, k3, k4⟩ := rMa_ok (o1 := e.2.1) (o2 := e.2.2.1) (o3 := e.2.2.2.1) (v := e.2.2.2.2) hO hn hh hs hB
    refine ⟨_, List.mem_cons_self, ex, k2, lc, stc', hc', rEv_ext ex hl, k3, k4, Or.inr ?_⟩
    rcases k1 with ⟨k1, rfl⟩ | k1
    · obtain ⟨n1, n2, n3, n4⟩ := mG_no k1 e.2.1 pc stc lc
      unfold mNx
      rw [n1, n2, n3, n4, k1]
    · obtain ⟨n1, n2, n3, n4, n5⟩ := mP_no k1 e.2.1 pc e.2.1 e.2.2.1 e.2.2.2.2 stc lc hc
      unfold mNx
      rw [n1, n2, n3, n4, n5, k1]
  split at hx
  · rename_i hiv
    obtain ⟨n1, n2, n3, n4, n5, n6, n7⟩ := mI_no (dflt := dflt) hiv k0 e.2.1 pc e.2.1 e.2.2.1 e.2.2.2.1 e.2.2.2.2 stc lc hc
    split at hx
    · rename_i q hB
      cases hx
      obtain ⟨stc', k1, ex, k2, k3⟩ := rX_ok hO hn hc hs hB
      refine ⟨_, List.mem_cons_self, ex, k2, lc, stc', hc, rEv_ext ex hl, k3, rHr_ext ex hh, Or.inr ?_⟩
      unfold mNx
      rw [n1, n2, n3, n4, n5, n6, n7, if_pos hiv, k1]
    · split at hx
      · rename_i st' h' hB
        cases hx
        obtain ⟨stc', hc', k1, k2, k3⟩ := rY_ok hO hh hs hB
        refine ⟨_, List.mem_cons_self, zero hO hl k2 k3 (Or.inr ?_)⟩
        have hX : mX e.2.2.2.1 stc hc = none := by
          unfold mY at k1
          split at k1
          · rename_i ho; rw [ho]; rfl
          · rename_i ho; rw [ho]; rfl
          · cases k1
        unfold mNx
        rw [n1, n2, n3, n4, n5, n6, n7, if_pos hiv, hX]
        dsimp only
        rw [k1]
      · cases hx
  · split at hx
    · rename_i l' hB
      cases hx
      obtain ⟨k, k1, k2, stc', k3, k4⟩ := rZ_ok hO hs hB
      refine ⟨_, List.mem_map.mpr ⟨k, k1, rfl⟩, zero k2 hl k3 hh ?_⟩
      rcases k4 with ⟨z1, z2⟩ | z | ⟨z1, z2, z3⟩
      · exact Or.inl ⟨z1, rfl, z2, rfl⟩
      · refine Or.inr ?_
        obtain ⟨n1, n2, n3⟩ := mJ_no z e.2.1 stc lc
        unfold mNx
        rw [n1, n2, n3, z]
      · refine Or.inr ?_
        unfold mNx
        rw [z2, z3, z1]
        rfl
    · cases hx
end RN
