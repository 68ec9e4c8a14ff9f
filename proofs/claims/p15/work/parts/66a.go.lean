/-! BEHIND THE LABEL: both sides -/
variable {σ τ : zS} {fi : Nat}
/-- the label on both sides: none, a digit, a symbol -/
def lbR (σ τ : zS) (a h s : Int32) : Prop := (xLKd σ = 0 ∧ h = 0 ∧ s = -1) ∨ (xLKd σ = 3 ∧ h = 1 ∧ s = -1 ∧ xLd σ = yT τ a.toNatClampNeg - 48 ∧ zDig (yT τ a.toNatClampNeg)) ∨ (xLKd σ = 2 ∧ h = 0 ∧ xLsy σ = s ∧ 0 ≤ s.toInt ∧ s.toInt < (xCn σ).toInt)
theorem lbR_c {σ σ' τ τ' : zS} {a h s : Int32} (l : lbR σ τ a h s) (k : kS σ σ') (ky : kY τ τ') (hc : (xCn σ).toInt ≤ (xCn σ').toInt) : lbR σ' τ' a h s := by
  have e12 : xLKd σ' = xLKd σ := k.2.2.2.2.1
  have e13 : xLsy σ' = xLsy σ := k.2.2.2.2.2.1
  have e14 : xLd σ' = xLd σ := k.2.2.2.2.2.2.1
  have eT : yT τ' = yT τ := ky.2.2
  unfold lbR
  rw [e12, e13, e14, eT]
  rcases l with l | l | l
  · exact .inl l
  · exact .inr (.inl l)
  · exact .inr (.inr ⟨l.1, l.2.1, l.2.2.1, l.2.2.2.1, by omega⟩)
/-- of the label, a digit or none -/
def lbH (σ τ : zS) (a h : Int32) : Prop := (xLKd σ = 3 ∧ h = 1 ∧ xLd σ = yT τ a.toNatClampNeg - 48 ∧ zDig (yT τ a.toNatClampNeg)) ∨ (¬ xLKd σ = 3 ∧ h = 0)
theorem lbR_h {a h s : Int32} (l : lbR σ τ a h s) : lbH σ τ a h := by
  rcases l with ⟨l1, l2, l3⟩ | ⟨l1, l2, l3, l4, l5⟩ | ⟨l1, l2, l3⟩
  · exact .inr ⟨by rw [l1]; decide, l2⟩
  · exact .inl ⟨l1, l2, l4, l5⟩
  · exact .inr ⟨by rw [l1]; decide, l2⟩
theorem lbH_c {σ σ' τ τ' : zS} {a h : Int32} (l : lbH σ τ a h) (k : kS σ σ') (ky : kY τ τ') : lbH σ' τ' a h := by
  have e12 : xLKd σ' = xLKd σ := k.2.2.2.2.1
  have e14 : xLd σ' = xLd σ := k.2.2.2.2.2.2.1
  have eT : yT τ' = yT τ := ky.2.2
  unfold lbH
  rw [e12, e14, eT]
  exact l
/-- both are done alike -/
abbrev okR (σ τ : zS) (fi : Nat) (o : zO) (σ' τ' : zS) : Prop := (o = .inr 0 ∧ ¬ yB τ' = 0) ∨ (o = .inl none ∧ yB τ' = 0 ∧ aR σ' τ' fi ∧ kS σ σ' ∧ kY τ τ')
theorem here_ok (h : aR σ τ fi) (hb : yB τ = 0) {a hh v f : Int32} (l : lbH σ τ a hh) (hv : wOk v) (hf : f.toInt.toNat = fi) {o : zO} {σ' τ' : zS} (hc : zL5 σ v o σ') (hy : yEnH τ a hh v f τ') : okR σ τ fi o σ' τ' := by
  by_cases h3 : xLKd σ = 3
  · rcases l with ⟨l1, l2, l4, l5⟩ | ⟨l1, l2⟩
    · have hd := dig_lt l5
      have yy := hy.2 (by rw [l2]; decide)
      rcases hc with ⟨c1, c2⟩ | ⟨c1, o1, σ1, c2, c3⟩
      · exact absurd h3 c1
      · rw [l4] at c2
        have hk := aR_here h (d := yT τ a.toNatClampNeg - 48) (v := v) (f := f) hd.2 hv hf
        rcases hk with ⟨k1, k2⟩ | ⟨W, G, I, O, k1, k2, k3⟩
        · rcases yy with ⟨y1, y2⟩ | ⟨x, y1, y2⟩
          · rcases c2 with ⟨d1, d2⟩ | ⟨W, G, d1, d2⟩
            · rcases c3 with ⟨c4, c5, c6⟩ | ⟨c4, c5⟩
              · exact .inl ⟨c5, y2⟩
              · rw [d2.1] at c4
                cases c4
            · rw [k1] at d1
              cases d1
          · rw [k2] at y1
            cases y1
        · rcases yy with ⟨y1, y2⟩ | ⟨x, y1, y2, y3⟩
          · rw [k2] at y1
            cases y1
          · rw [k2] at y1
            cases y1
            rcases c2 with ⟨d1, d2⟩ | ⟨W', G', d1, d2, d3⟩
            · rw [k1] at d1
              cases d1
            · rw [k1] at d1
              cases d1
              rcases c3 with ⟨c4, c5, c6⟩ | ⟨c4, c5, c6, c7⟩
              · rw [d2] at c4
                cases c4
              · right
                subst d3
                have e : xLd (zWG σ W G) = yT τ a.toNatClampNeg - 48 := l4
                rw [e] at c7
                rw [← c7, ← y3]
                exact ⟨c6, rfl, k3, ⟨rfl, rfl, rfl, rfl, rfl, rfl, rfl, rfl, rfl, rfl⟩, ⟨rfl, rfl, rfl⟩⟩
    · exact absurd h3 l1
  · have hz : hh = 0 := by
      rcases l with ⟨l1, l2⟩ | ⟨l1, l2⟩
      · exact absurd l1 h3
      · exact l2
    rcases hc with ⟨c1, c2⟩ | ⟨c1, c2⟩
    · right
      rw [← c2.2, ← hy.1 hz]
      exact ⟨c2.1, hb, h, kS_rfl σ, ⟨rfl, rfl, rfl⟩⟩
    · exact absurd c1 h3
/-- the end on both sides -/
def enR (σ' : zS) (τ' : zS) (fi : Nat) : Prop := (xFin σ' = none ∧ ¬ yB τ' = 0) ∨ ∃ V pl W G, xFin σ' = some (V, pl, W, G) ∧ yB τ' = 0 ∧ τ'.1 25 26 = 1 ∧ aR (zAs σ' V pl W G) τ' fi ∧ σ'.1 11 9 = τ'.1 25 25 ∧ (∀ j, j < (xCn σ').toNatClampNeg → ¬ τ'.2.2.1 36 j = 0)
/-- what a line comes to -/
abbrev lnR (σ τ : zS) (fi : Nat) (o : zO) (σ' τ' : zS) : Prop := okR σ τ fi o σ' τ' ∨ (o = .inl none ∧ σ'.1 11 10 = 1 ∧ enR σ' τ' fi)
theorem end_ok {σ1 τ1 : zS} (h : aR σ1 τ1 fi) (hall : fi = (xWc σ1).toNatClampNeg) (hb : yB τ1 = 0) (he : ¬ σ1.1 11 10 = 0) (hs : σ1.1 11 9 = τ1.1 25 25) {τ' : zS} (hy : yFiR τ1 (.inl none) τ') : enR σ1 τ' fi := by
  have hf := hy.2.2.2 hb
  rcases fin_ok h hall hb he with ⟨a1, a2⟩ | ⟨V, pl, W, G, τ2, a1, a2, a3, a4, a5, a6⟩
  · left
    refine ⟨a1, ?_⟩
    rcases hf with ⟨f1, f2⟩ | ⟨τ3, f1, f2⟩
    · exact f2
    · rcases a2 with a2 | ⟨τ4, a2, a3⟩
      · rw [f1] at a2
        cases a2
      · rw [f1] at a2
        cases a2
        rcases f2 with ⟨f3, f4⟩ | ⟨f3, f4⟩
        · exact f4
        · exact absurd a3 f3
  · right
    rcases hf with ⟨f1, f2⟩ | ⟨τ3, f1, f2⟩
    · rw [f1] at a2
      cases a2
    · rw [f1] at a2
      cases a2
      rcases f2 with ⟨f3, f4⟩ | ⟨f3, f4⟩
      · exact absurd f3 a3
      · refine ⟨V, pl, W, G, a1, ?_, ?_, ?_, ?_, ?_⟩
        · rw [← f4]
          exact a5.2.2.1 hb
        · rw [← f4]
          rfl
        · rw [← f4]
          exact a4
        · rw [hs, ← a5.2.1, ← f4]
          rfl
        · rw [← f4]
          exact a6
