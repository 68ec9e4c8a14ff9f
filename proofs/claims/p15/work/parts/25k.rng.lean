/-! THE MACHINE WITH RANGES IS SOUND: copies, one step -/
section RK
variable {ρ : List Int} {fs : rF} {c0 : mH}
theorem rNeg_i {x : Int32} (h : 0 ≤ x.toInt) : ¬ x < 0 ∧ (x.toNatClampNeg : Int) = x.toInt := by
  have e : x.toNatClampNeg = x.toInt.toNat := rfl
  have z : (0 : Int32).toInt = 0 := rfl
  refine ⟨fun k => ?_, by rw [e]; omega⟩
  rw [Int32.lt_iff_toInt_lt, z] at k
  omega
theorem rMn_l {a b x : Int} (h : a ≤ x ∨ b ≤ x) : rMin a b ≤ x := by
  unfold rMin
  split <;> omega
theorem rMx_l {a b x : Int} (h : x ≤ a ∨ x ≤ b) : x ≤ rMax a b := by
  unfold rMax
  split <;> omega
set_option maxHeartbeats 1000000 in
theorem rY_ok (hO : rOk ρ fs) {h h' : rH} {hc : mH} (hh : rHr c0 ρ h hc) {k0 o3 : Nat} {st st' stc : List Value} (hs : rEs ρ st = some stc) (hg : rY fs k0 o3 st h = some (st', h')) : ∃ stc' hc', mY k0 o3 stc hc = some (stc', hc') ∧ rEs ρ st' = some stc' ∧ rHr c0 ρ h' hc' := by
  unfold rY at hg
  split at hg
  · rename_i n dp a sp b
    split at hg
    · rename_i k1 n1 l1 u1 k2 n0 l2 u2 zn zd zs ha hb hn hd hp
      split at hg
      · rename_i hq
        cases hg
        obtain ⟨hk, q1, q2, q3, q4, q5, q6, q7, q8⟩ := hq
        obtain ⟨c1, r1, e1, g1, rfl⟩ := rEs_cons hs
        obtain ⟨c2, r2, e2, g2, rfl⟩ := rEs_cons g1
        obtain ⟨c3, r3, e3, g3, rfl⟩ := rEs_cons g2
        obtain ⟨c4, r4, e4, g4, rfl⟩ := rEs_cons g3
        obtain ⟨c5, r5, e5, g5, rfl⟩ := rEs_cons g4
        cases g5
        cases e3
        cases e5
        obtain ⟨xn, rfl, n1', n2'⟩ := rRg_ok hO hn e1
        obtain ⟨xd, rfl, d1, d2⟩ := rRg_ok hO hd e2
        obtain ⟨xp, rfl, p1, p2⟩ := rRg_ok hO hp e4
        obtain ⟨bn, cn⟩ := rNeg_i (x := xn) (by omega)
        obtain ⟨bd, cd⟩ := rNeg_i (x := xd) (by omega)
        obtain ⟨bp, cp⟩ := rNeg_i (x := xp) (by omega)
        obtain ⟨ca, a1, a2⟩ := hh.2.1 _ _ ha
        obtain ⟨cb, b1, b2⟩ := hh.2.1 _ _ hb
        have hr : mYr xp xd xn n0 n1 = true := decide_eq_true ⟨⟨bp, bd, bn⟩, by omega, by omega⟩
        rcases hk with ⟨rfl, rfl, rfl⟩ | ⟨rfl, rfl, rfl⟩
        · obtain ⟨g, ga, gb⟩ := a2.int (by decide) (by decide)
          obtain ⟨f, fa, fb⟩ := b2.int (by decide) (by decide)
          rw [ga] at a1
          rw [fa] at b1
          refine ⟨[], hc.set a (some (.inl (0, n1, .inl (va_cpy f g xp.toNatClampNeg xd.toNatClampNeg xn.toNatClampNeg)))), ?_, rfl, hh.set a ha (rCr.mint (by decide) (by decide) (fun j hj => ?_))⟩
          · unfold mY
            dsimp only
            rw [a1, b1]
            exact if_pos ⟨hr, q6, q7, q8⟩
          · unfold va_cpy
            split
            · rename_i hjj
              have := fb (xp.toNatClampNeg + (j - xd.toNatClampNeg)) (by omega)
              exact ⟨rMn_l (Or.inr this.1), rMx_l (Or.inr this.2)⟩
            · have := gb j hj
              exact ⟨rMn_l (Or.inl this.1), rMx_l (Or.inl this.2)⟩
        · obtain ⟨g, ga, gb⟩ := a2.lng
          obtain ⟨f, fa, fb⟩ := b2.lng
          rw [ga] at a1
          rw [fa] at b1
          refine ⟨[], hc.set a (some (.inl (1, n1, .inr (.inl (va_cpy f g xp.toNatClampNeg xd.toNatClampNeg xn.toNatClampNeg))))), ?_, rfl, hh.set a ha ⟨_, rfl, fun j hj => ?_⟩⟩
          · unfold mY
            dsimp only
            rw [a1, b1]
            exact if_pos ⟨hr, q6, q7, q8⟩
          · unfold va_cpy
            split
            · rename_i hjj
              have := fb (xp.toNatClampNeg + (j - xd.toNatClampNeg)) (by omega)
              exact ⟨rMn_l (Or.inr this.1), rMx_l (Or.inr this.2)⟩
            · have := gb j hj
              exact ⟨rMn_l (Or.inl this.1), rMx_l (Or.inl this.2)⟩
      · cases hg
    · cases hg
  · cases hg
end RK
