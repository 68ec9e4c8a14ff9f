/-! THE MACHINE WITH RANGES IS SOUND: arrays of which more is told -/
section RM
variable {ρ : List Int} {fs : rF} {c0 : mH}
theorem rEq_ok (hO : rOk ρ fs) {x y c : Value} (h : rEq fs x y = true) (hx : rE ρ x = some c) : rE ρ y = some c := by
  unfold rEq at h
  split at h
  · rename_i a b
    rw [beq_iff_eq] at h
    subst h
    exact hx
  · rename_i a b
    rw [beq_iff_eq] at h
    subst h
    exact hx
  · rename_i a b
    split at h
    · rename_i q hq
      rw [Bool.and_eq_true, decide_eq_true_eq, decide_eq_true_eq] at h
      obtain ⟨z, rfl, z1, z2⟩ := rRg_ok hO hq hx
      refine congrArg (fun t => some (Value.int t)) (Int32.toInt_inj.mp ?_)
      omega
    · cases h
  · rename_i b a
    split at h
    · rename_i q hq
      rw [Bool.and_eq_true, decide_eq_true_eq, decide_eq_true_eq] at h
      cases hx
      have hq' := hq
      unfold rRg at hq'
      dsimp only at hq'
      split at hq'
      · rename_i p hp
        obtain ⟨z, z1, z2, z3⟩ := hO.2.1 _ _ hp
        have hc : rE ρ (.float a) = some (.int (Int32.ofInt (z + rOf a))) := by rw [rE_f, z1]; rfl
        obtain ⟨w, e, w1, w2⟩ := rRg_ok hO hq hc
        rw [hc]
        cases e
        refine congrArg (fun t => some (Value.int t)) (Int32.toInt_inj.mp ?_)
        omega
      · cases hq'
    · cases h
  · cases h
theorem rEs_6 {a b c d e f : Value} {g : List Value} (h : rEs ρ [a, b, c, d, e, f] = some g) : ∃ a' b' c' d' e' f', rE ρ a = some a' ∧ rE ρ b = some b' ∧ rE ρ c = some c' ∧ rE ρ d = some d' ∧ rE ρ e = some e' ∧ rE ρ f = some f' ∧ g = [a', b', c', d', e', f'] := by
  obtain ⟨a', l1, h1, t1, rfl⟩ := rEs_cons h
  obtain ⟨b', l2, h2, t2, rfl⟩ := rEs_cons t1
  obtain ⟨c', l3, h3, t3, rfl⟩ := rEs_cons t2
  obtain ⟨d', l4, h4, t4, rfl⟩ := rEs_cons t3
  obtain ⟨e', l5, h5, t5, rfl⟩ := rEs_cons t4
  obtain ⟨f', l6, h6, t6, rfl⟩ := rEs_cons t5
  cases t6
  exact ⟨a', b', c', d', e', f', h1, h2, h3, h4, h5, h6, rfl⟩
theorem rSet_same {α : Type} {l : List α} {a : Nat} {c : α} (h : l[a]? = some c) : l.set a c = l := by
  apply List.ext_getElem?
  intro i
  rw [List.getElem?_set]
  split
  · rename_i hi
    subst hi
    rw [if_pos (List.getElem?_eq_some_iff.mp h).1, h]
  · rfl
/-- three places and what stands there -/
theorem rMe_6 {f : Nat → Int32} {a b c d e k : Value} (h : rMe f [a, b, c, d, e, k]) : ∃ i1 v1 i2 v2 i3 v3 : Int32, a = .int i1 ∧ b = .int v1 ∧ c = .int i2 ∧ d = .int v2 ∧ e = .int i3 ∧ k = .int v3 ∧ (0 ≤ i1.toInt ∧ i1.toInt < 240 ∧ f i1.toInt.toNat = v1) ∧ (0 ≤ i2.toInt ∧ i2.toInt < 240 ∧ f i2.toInt.toNat = v2) ∧ (0 ≤ i3.toInt ∧ i3.toInt < 240 ∧ f i3.toInt.toNat = v3) := by
  unfold rMe at h
  split at h
  · rename_i hh; cases hh
  · rename_i i1 v1 r hh
    injection hh with e1 hh
    injection hh with e2 hh
    subst e1 e2 hh
    obtain ⟨h1, h⟩ := h
    unfold rMe at h
    split at h
    · rename_i hh; cases hh
    · rename_i i2 v2 r hh
      injection hh with e1 hh
      injection hh with e2 hh
      subst e1 e2 hh
      obtain ⟨h2, h⟩ := h
      unfold rMe at h
      split at h
      · rename_i hh; cases hh
      · rename_i i3 v3 r hh
        injection hh with e1 hh
        injection hh with e2 hh
        subst e1 e2 hh
        obtain ⟨h3, h⟩ := h
        exact ⟨_, _, _, _, _, _, rfl, rfl, rfl, rfl, rfl, rfl, h1, h2, h3⟩
      · cases h
    · cases h
  · cases h
theorem rMe_m {f : Nat → Int32} {i1 v1 i2 v2 i3 v3 : Int32} (h1 : 0 ≤ i1.toInt ∧ i1.toInt < 240 ∧ f i1.toInt.toNat = v1) (h2 : 0 ≤ i2.toInt ∧ i2.toInt < 240 ∧ f i2.toInt.toNat = v2) (h3 : 0 ≤ i3.toInt ∧ i3.toInt < 240 ∧ f i3.toInt.toNat = v3) : rMe f [.int i1, .int v1, .int i2, .int v2, .int i3, .int v3] := ⟨h1, h2, h3, trivial⟩
theorem mIn_i {i : Int32} {n : Nat} (h : mIn i n = true) : 0 ≤ i.toInt ∧ i.toInt < n ∧ i.toNatClampNeg = i.toInt.toNat := by
  have h1 := rIn_lt h
  unfold mIn at h
  rw [Bool.and_eq_true, Bool.not_eq_true', decide_eq_false_iff_not, Int32.lt_iff_toInt_lt] at h
  have z : (0 : Int32).toInt = 0 := rfl
  have e : i.toNatClampNeg = i.toInt.toNat := rfl
  rw [z] at h
  exact ⟨by omega, by omega, e⟩
theorem rGi_k {i : Int32} {a : Nat} {rd : List Value} {hc : mH} {k n : Nat} {f : Nat → Int32} {o1 o2 : Nat} {v : Value} (hk : k = 0 ∨ k = 4) (c1 : hc[a]? = some (some (.inl (k, n, .inl f)))) (h : mIn i n = true) : mG .iaload o1 o2 v (.int i :: .ref a :: rd) hc = some (.int (f i.toNatClampNeg) :: rd) := by
  unfold mG
  dsimp only
  rcases hk with rfl | rfl
  · rw [c1]; exact if_pos h
  · rw [c1]; exact if_pos h
/-- a read, or a write -/
def rMx' (k0 : Nat) (i : Instr) (o1 o2 o3 : Nat) (v : Value) (stc : List Value) (hc : mH) (stc' : List Value) (hc' : mH) : Prop := (mG i o1 o2 v stc hc = some stc' ∧ hc' = hc) ∨ mP k0 i o1 o2 o3 stc hc = some (stc', hc')
theorem rOb_0 {gs : List Value} {c : mC} (h : rOb 1000 gs c) : ∃ f : Nat → Int32, c = some (.inl (0, 240, .inl f)) ∧ rMe f gs := h
theorem rOb_1 {gs : List Value} {c : mC} (h : rOb 1001 gs c) : ∃ (f : Nat → Int32) (b v : Int32), gs = [.int b, .int v] ∧ c = some (.inl (0, 60, .inl f)) ∧ 0 ≤ b.toInt ∧ b.toInt ≤ 60 ∧ (∀ j : Nat, (j : Int) < b.toInt → 0 ≤ (f j).toInt ∧ (f j).toInt ≤ 199) ∧ (b.toInt < 60 → f b.toInt.toNat = v) := h
theorem rOb_3 {gs : List Value} {c : mC} (h : rOb 1003 gs c) : ∃ f : Nat → Int32, c = some (.inl (7, gs.length, .inl f)) ∧ ∀ (j : Nat) (v : Value), gs[j]? = some v → v = .int (f j) := h
theorem rOb_2 {gs : List Value} {c : mC} (h : rOb 1002 gs c) : ∃ (L : Nat) (f : Nat → Int32) (b x0 x1 x2 x3 x4 : Int32), c = some (.inl (4, L, .inl f)) ∧ L ≤ 10000 ∧ 0 ≤ b.toInt ∧ b.toInt + 5 ≤ L ∧ f b.toInt.toNat = x0 ∧ f (b.toInt.toNat + 1) = x1 ∧ f (b.toInt.toNat + 2) = x2 ∧ f (b.toInt.toNat + 3) = x3 ∧ f (b.toInt.toNat + 4) = x4 ∧ gs = [.int (Int32.ofNat L), .int b, .int x0, .int x1, .int x2, .int x3, .int x4, .long ((x1.toInt64 <<< 32) ||| (x2.toInt64 &&& 4294967295)), .int (Int32.ofNat (rGb ((x1.toInt64 <<< 32) ||| (x2.toInt64 &&& 4294967295))))] := h
set_option maxHeartbeats 4000000 in
theorem rMa_ok (hO : rOk ρ fs) (hn : fs.length < 60000) {k0 : Nat} {h h' : rH} {hc : mH} (hh : rHr c0 ρ h hc) {i : Instr} {o1 o2 o3 : Nat} {v : Value} {st stc st' : List Value} {fs' : rF} (hs : rEs ρ st = some stc) (hg : rMa fs k0 i st h = some (fs', st', h')) : ∃ stc' hc', rMx' k0 i o1 o2 o3 v stc hc stc' hc' ∧ ∃ e, rOk (ρ ++ e) fs' ∧ rEs (ρ ++ e) st' = some stc' ∧ rHr c0 (ρ ++ e) h' hc' := by
  have same : ∀ {st'' stc'' : List Value} {h'' : rH} {hc'' : mH}, rEs ρ st'' = some stc'' → rHr c0 ρ h'' hc'' → ∃ e, rOk (ρ ++ e) fs ∧ rEs (ρ ++ e) st'' = some stc'' ∧ rHr c0 (ρ ++ e) h'' hc'' := fun a b => ⟨[], by rw [List.append_nil]; exact hO, by rw [List.append_nil]; exact a, by rw [List.append_nil]; exact b⟩
  unfold rMa at hg
  split at hg
  · rename_i x a r
    obtain ⟨d, rd, hd, hr, rfl⟩ := rEs_cons hs
    obtain ⟨d2, re, hd2, hr2, rfl⟩ := rEs_cons hr
    cases hd2
    split at hg
    · rename_i i1 v1 i2 v2 i3 v3 hcell
      obtain ⟨cc, c1, gs, g1, g2⟩ := hh.2.1 _ _ hcell
      obtain ⟨f, f1, f2⟩ := rOb_0 g2
      obtain ⟨a', b', c', d', e', k', ha, hb, hcx, hdx, hex, hkx, rfl⟩ := rEs_6 g1
      obtain ⟨j1, w1, j2, w2, j3, w3, rfl, rfl, rfl, rfl, rfl, rfl, m1, m2, m3⟩ := rMe_6 f2
      rw [f1] at c1
      split at hg
      · rename_i hx
        obtain ⟨ix, rfl, hix⟩ := rIx_ok hO hd hx
        obtain ⟨q1, q2, q3⟩ := mIn_i hix
        have rd0 := rGi_k (rd := re) (o1 := o1) (o2 := o2) (v := v) (Or.inl rfl) c1 hix
        split at hg
        · rename_i he
          cases hg
          have := rEq_ok hO he hd
          rw [ha] at this
          cases this
          refine ⟨_, _, Or.inl ⟨rd0, rfl⟩, same (rEs_mk ?_ hr2) hh⟩
          rw [hb, q3, m1.2.2]
        · split at hg
          · rename_i he
            cases hg
            have := rEq_ok hO he hd
            rw [hcx] at this
            cases this
            refine ⟨_, _, Or.inl ⟨rd0, rfl⟩, same (rEs_mk ?_ hr2) hh⟩
            rw [hdx, q3, m2.2.2]
          · split at hg
            · rename_i he
              cases hg
              have := rEq_ok hO he hd
              rw [hex] at this
              cases this
              refine ⟨_, _, Or.inl ⟨rd0, rfl⟩, same (rEs_mk ?_ hr2) hh⟩
              rw [hkx, q3, m3.2.2]
            · cases hg
              obtain ⟨e, e1, e2⟩ := rNi_ok hO hn (Int32.le_toInt (f ix.toNatClampNeg)) (Int32.toInt_le (f ix.toNatClampNeg))
              refine ⟨_, _, Or.inl ⟨rd0, rfl⟩, e, e1, rEs_mk e2 (rEs_ext e hr2), ?_⟩
              have hob : rOb 1000 [.int j1, .int w1, .int j3, .int w3, .int ix, .int (f ix.toNatClampNeg)] (some (.inl (0, 240, .inl f))) := ⟨f, rfl, rMe_m m1 m3 ⟨q1, q2, rfl⟩⟩
              have hset := (rHr_ext e hh).set (a' := .inr (1000, [i1, v1, i3, v3, x, (rNi fs rI0 rI1).2])) (c := some (.inl (0, 240, .inl f))) a hcell ⟨_, rEs_mk (rE_ext e ha) (rEs_mk (rE_ext e hb) (rEs_mk (rE_ext e hex) (rEs_mk (rE_ext e hkx) (rEs_mk (rE_ext e hd) (rEs_mk e2 rfl))))), hob⟩
              rw [rSet_same c1] at hset
              exact hset
      · cases hg
    · rename_i b y hcell
      obtain ⟨cc, c1, gs, g1, g2⟩ := hh.2.1 _ _ hcell
      obtain ⟨f, bb, vv, rfl, f1, f2, f3, f4, f5⟩ := rOb_1 g2
      obtain ⟨b', l1, hb, t1, e1⟩ := rEs_cons g1
      injection e1 with e1 e2
      subst e1
      rw [f1] at c1
      split at hg
      · rename_i p q hp hq
        split at hg
        · rename_i hlt
          cases hg
          obtain ⟨ix, rfl, x1, x2⟩ := rRg_ok hO hp hd
          obtain ⟨b2, e3, b3, b4⟩ := rRg_ok hO hq hb
          cases e3
          have hix : mIn ix 60 = true := by
            unfold mIn
            have z : (0 : Int32).toInt = 0 := rfl
            have e : ix.toNatClampNeg = ix.toInt.toNat := rfl
            rw [Bool.and_eq_true, decide_eq_true_eq, Bool.not_eq_true', decide_eq_false_iff_not, Int32.lt_iff_toInt_lt, z, e]
            omega
          have hv := f4 ix.toInt.toNat (by omega)
          have ec : ix.toNatClampNeg = ix.toInt.toNat := rfl
          obtain ⟨e, e1, e2⟩ := rNi_ok hO hn (x := f ix.toNatClampNeg) (l := 0) (u := 199) (by rw [ec]; exact hv.1) (by rw [ec]; exact hv.2)
          exact ⟨_, _, Or.inl ⟨rGi_k (Or.inl rfl) c1 hix, rfl⟩, e, e1, rEs_mk e2 (rEs_ext e hr2), rHr_ext e hh⟩
        · cases hg
      · cases hg
    · rename_i lx i0 y0 y1 y2 y3 y4 ex gx hcell
      obtain ⟨cc, c1, gs, g1, g2⟩ := hh.2.1 _ _ hcell
      obtain ⟨L, f, b, x0, x1, x2, x3, x4, f1, f2, f3, f4, k0', k1, k2, k3, k4, rfl⟩ := rOb_2 g2
      rw [f1] at c1
      obtain ⟨z1, l1, h1, t1, e1⟩ := rEs_cons g1
      injection e1 with e1 e1'
      subst e1 e1'
      obtain ⟨z2, l2, h2, t2, e1⟩ := rEs_cons t1
      injection e1 with e1 e1'
      subst e1 e1'
      obtain ⟨z3, l3, h3, t3, e1⟩ := rEs_cons t2
      injection e1 with e1 e1'
      subst e1 e1'
      obtain ⟨z4, l4, h4, t4, e1⟩ := rEs_cons t3
      injection e1 with e1 e1'
      subst e1 e1'
      obtain ⟨z5, l5, h5, t5, e1⟩ := rEs_cons t4
      injection e1 with e1 e1'
      subst e1 e1'
      obtain ⟨z6, l6, h6, t6, e1⟩ := rEs_cons t5
      injection e1 with e1 e1'
      subst e1 e1'
      obtain ⟨z7, l7, h7, t7, e1⟩ := rEs_cons t6
      injection e1 with e1 e1'
      subst e1 e1'
      split at hg
      · rename_i bx cx p q hp hq
        split at hg
        · rename_i hk
          obtain ⟨ix, rfl, ix1, ix2⟩ := rRg_ok hO hp hd
          obtain ⟨z, zz, e3⟩ := rVal_i hO hp hd
          obtain ⟨w, ww, e4⟩ := rVal_i hO hq h2
          rw [hk.1, ww] at zz
          cases zz
          have hi : ix.toInt = b.toInt + (rOf bx - rOf cx) := by omega
          have hix : mIn ix L = true := by
            unfold mIn
            have z : (0 : Int32).toInt = 0 := rfl
            have e : ix.toNatClampNeg = ix.toInt.toNat := rfl
            rw [Bool.and_eq_true, decide_eq_true_eq, Bool.not_eq_true', decide_eq_false_iff_not, Int32.lt_iff_toInt_lt, z, e]
            omega
          have rd0 := rGi_k (rd := re) (o1 := o1) (o2 := o2) (v := v) (Or.inr rfl) c1 hix
          have ec : ix.toNatClampNeg = b.toInt.toNat + (rOf bx - rOf cx).toNat := by
            have e : ix.toNatClampNeg = ix.toInt.toNat := rfl
            rw [e]
            omega
          have five : (rOf bx - rOf cx).toNat = 0 ∨ (rOf bx - rOf cx).toNat = 1 ∨ (rOf bx - rOf cx).toNat = 2 ∨ (rOf bx - rOf cx).toNat = 3 ∨ (rOf bx - rOf cx).toNat = 4 := by omega
          rw [ec] at rd0
          rcases five with h5' | h5' | h5' | h5' | h5'
          all_goals
            rw [h5'] at hg rd0
            cases hg
            refine ⟨_, _, Or.inl ⟨rd0, rfl⟩, same (rEs_mk ?_ hr2) hh⟩
          · rw [h3, Nat.add_zero, k0']
          · rw [h4, k1]
          · rw [h5, k2]
          · rw [h6, k3]
          · rw [h7, k4]
        · cases hg
      · cases hg
    · cases hg
  · rename_i x a r
    obtain ⟨d, rd, hd, hr, rfl⟩ := rEs_cons hs
    obtain ⟨d2, re, hd2, hr2, rfl⟩ := rEs_cons hr
    cases hd
    cases hd2
    split at hg
    · rename_i gs hcell
      split at hg
      · rename_i hix
        obtain ⟨cc, c1, gg, g1, g2⟩ := hh.2.1 _ _ hcell
        obtain ⟨f, f1, f2⟩ := rOb_3 g2
        rw [f1, rEs_len g1] at c1
        cases hx : gs[x.toNatClampNeg]? with
        | none => rw [hx] at hg; cases hg
        | some y =>
          rw [hx] at hg
          cases hg
          obtain ⟨c, d1, d2⟩ := rEs_get g1 hx
          have := f2 _ _ d1
          subst this
          refine ⟨.int (f x.toNatClampNeg) :: re, hc, Or.inl ⟨?_, rfl⟩, same (rEs_mk d2 hr2) hh⟩
          unfold mG
          dsimp only
          rw [c1]
          exact if_pos hix
      · cases hg
    · cases hg
  · rename_i a r
    obtain ⟨d, rd, hd, hr, rfl⟩ := rEs_cons hs
    cases hd
    split at hg
    · rename_i gs hcell
      cases hg
      obtain ⟨cc, c1, gg, g1, g2⟩ := hh.2.1 _ _ hcell
      obtain ⟨f, f1, f2⟩ := rOb_3 g2
      rw [f1, rEs_len g1] at c1
      refine ⟨.int (Int32.ofNat gs.length) :: rd, hc, Or.inl ⟨?_, rfl⟩, same (rEs_mk rfl hr) hh⟩
      unfold mG
      dsimp only
      rw [c1]
      rfl
    · rename_i lx i0 y0 y1 y2 y3 y4 ex gx hcell
      cases hg
      obtain ⟨cc, c1, gs, g1, g2⟩ := hh.2.1 _ _ hcell
      obtain ⟨L, f, b, x0, x1, x2, x3, x4, f1, f2, f3, f4, k0', k1, k2, k3, k4, rfl⟩ := rOb_2 g2
      rw [f1] at c1
      obtain ⟨z1, l1, h1, t1, e1⟩ := rEs_cons g1
      injection e1 with e1 e1'
      subst e1
      refine ⟨.int (Int32.ofNat L) :: rd, hc, Or.inl ⟨?_, rfl⟩, same (rEs_mk h1 hr) hh⟩
      unfold mG
      dsimp only
      rw [c1]
      rfl
    · cases hg
  · rename_i y x a r
    obtain ⟨d, rd, hd, hr, rfl⟩ := rEs_cons hs
    obtain ⟨d2, re, hd2, hr2, rfl⟩ := rEs_cons hr
    obtain ⟨d3, rf, hd3, hr3, rfl⟩ := rEs_cons hr2
    cases hd3
    have wr : ∀ {ix w : Int32} {n : Nat} {f : Nat → Int32}, hc[a]? = some (some (.inl (0, n, .inl f))) → mIn ix n = true → k0 ≤ a → mP k0 .iastore o1 o2 o3 (.int w :: .int ix :: .ref a :: rf) hc = some (rf, hc.set a (some (.inl (0, n, .inl (upd f ix.toNatClampNeg w))))) := fun c1 h1 h2 => by
      unfold mP
      dsimp only
      rw [c1]
      exact if_pos ⟨h1, h2⟩
    split at hg
    · rename_i a1 a2 a3 a4 a5 a6 q hcell hv
      split at hg
      · rename_i hx
        cases hg
        obtain ⟨cc, c1, gs, g1, g2⟩ := hh.2.1 _ _ hcell
        obtain ⟨f, f1, f2⟩ := rOb_0 g2
        rw [f1] at c1
        obtain ⟨w, rfl, -⟩ := rRg_ok hO hv hd
        obtain ⟨ix, rfl, hix⟩ := rIx_ok hO hd2 hx.1
        obtain ⟨q1, q2, q3⟩ := mIn_i hix
        refine ⟨_, _, Or.inr (wr c1 hix hx.2), same hr3 (hh.set a hcell ⟨[.int ix, .int w, .int ix, .int w, .int ix, .int w], rEs_mk hd2 (rEs_mk hd (rEs_mk hd2 (rEs_mk hd (rEs_mk hd2 (rEs_mk hd rfl))))), ?_⟩)⟩
        have m : 0 ≤ ix.toInt ∧ ix.toInt < 240 ∧ upd f ix.toNatClampNeg w ix.toInt.toNat = w := ⟨q1, q2, by unfold upd; rw [q3, if_pos rfl]⟩
        exact ⟨_, rfl, rMe_m m m m⟩
      · cases hg
    · rename_i b y' q hcell hv
      split at hg
      · rename_i hx
        cases hg
        obtain ⟨cc, c1, gs, g1, g2⟩ := hh.2.1 _ _ hcell
        obtain ⟨f, bb, vv, rfl, f1, f2, f3, f4, f5⟩ := rOb_1 g2
        obtain ⟨b', l1, hb, t1, e1⟩ := rEs_cons g1
        injection e1 with e1 e2
        subst e1
        rw [f1] at c1
        obtain ⟨w, rfl, -⟩ := rRg_ok hO hv hd
        obtain ⟨ix, rfl, hix⟩ := rIx_ok hO hd2 hx.1
        obtain ⟨q1, q2, q3⟩ := mIn_i hix
        have heq := rEq_ok hO hx.2.1 hd2
        rw [hb] at heq
        cases heq
        refine ⟨_, _, Or.inr (wr c1 hix hx.2.2), same hr3 (hh.set a hcell ⟨[.int bb, .int w], rEs_mk hb (rEs_mk hd rfl), ?_⟩)⟩
        refine ⟨_, bb, w, rfl, rfl, f2, f3, fun j hj => ?_, fun _ => ?_⟩
        · unfold upd
          rw [if_neg (by rw [q3]; omega)]
          exact f4 j hj
        · unfold upd
          rw [q3, if_pos rfl]
      · cases hg
    · cases hg
  · cases hg
end RM
