/-! FROM THE LABEL'S VALUE ON: both sides -/
variable {σ τ : zS} {fi : Nat}
theorem op_dir : ∀ k : Fin 50, zCd (k.val + 2) < 64 → ¬ k.val = 46 := by decide +kernel
theorem go_ok (h : aR σ τ fi) (ho : oR σ τ) (hb : yB τ = 0) (hall : fi = (xWc σ).toNatClampNeg) {a hh s n v f : Int32} (l : lbR σ τ a hh s) (hq : opRel (xOp σ) (σ.1 11 16) n) (hv : wOk v) (hf : f.toInt.toNat = fi) (hne : n = 103 → xLKd σ = 0) {o : zO} {σ' τ' : zS} (hc : zL4 σ v o σ') (hy : yGo τ a hh s n v f τ') : lnR σ τ fi o σ' τ' := by
  have hq' := hq
  obtain ⟨q0, q1, q2, q3, q4, q5, q6, q7, q8, q9, q10⟩ := hq
  obtain ⟨x, τ1, y1, _, y2, y3⟩ := hy
  have hbnd : yBnd τ := by
    obtain ⟨hT, hA, he, h0, h1, h240, hch⟩ := ho
    exact ⟨by omega, h240⟩
  rcases hc with ⟨c1, o1, σ1, c2, c3⟩ | ⟨c1, o1, σ1, c2, c3⟩
  · have hn100 : ¬ n = 100 := fun k => by
      have e48 := q2.2 k
      have := op_dir ⟨xOp σ - 2, by omega⟩ (by show zCd (xOp σ - 2 + 2) < 64; rw [show xOp σ - 2 + 2 = xOp σ by omega]; exact c1)
      have t : ¬ xOp σ - 2 = 46 := this
      omega
    rcases y1 with ⟨i1, i2, i3⟩ | ⟨i1, i2⟩
    · have hi := instr_ok h ho hb hq' c1 c2 i3
      left
      rcases hi with ⟨k1, k2⟩ | ⟨k1, k2, k3, k4, k5⟩
      · left
        refine ⟨?_, y2 k2⟩
        rcases c3 with ⟨d1, d2, d3⟩ | ⟨d1, d2⟩
        · exact d2
        · rw [k1] at d1
          cases d1
      · rcases c3 with ⟨d1, d2, d3⟩ | ⟨d1, d2⟩
        · rw [k1] at d1
          cases d1
        · have hye := y3 k2
          rw [i2] at hye
          rcases hye with ⟨g1, g2⟩ | ⟨g1, g2⟩
          · exact absurd g1.2 hn100
          · exact okR_tr k4 k5 (here_ok k3 k2 (lbH_c (lbR_h l) k4 k5) hv hf d2 g2)
    · exact absurd (q6.1 c1) i1
  · rcases y1 with ⟨i1, i2, i3⟩ | ⟨i1, x', i2, _, _, i3⟩
    · exact absurd (q6.2 i1) c1
    · cases i2
      exact dir_ok h ho hb hall l hq' c1 hv hf hne c2 c3 (i3 hb hbnd) y2 y3
theorem mid_ok (h : aR σ τ fi) (ho : oR σ τ) (hb : yB τ = 0) (hall : fi = (xWc σ).toNatClampNeg) {a hh s n f : Int32} (l : lbR σ τ a hh s) (hq : opRel (xOp σ) (σ.1 11 16) n) (hf : f.toInt.toNat = fi) (hne : n = 103 → xLKd σ = 0) {o : zO} {σ' τ' : zS} (hc : zL3 σ o σ') (hy : yMid τ a hh s n (yOf (yPl τ)) f τ') : lnR σ τ fi o σ' τ' := by
  have e48 := hq.2.2.1
  have epl := h.pl
  have hv : wOk (yOf (yPl τ)) := (yOf_nn (by rw [← epl]; exact h.plv)).1
  have hls : xLKd σ = 2 ↔ ¬ s < 0 := by
    rcases l with ⟨l1, l2, l3⟩ | ⟨l1, l2, l3, l4⟩ | ⟨l1, l2, l3, l4, l5⟩
    · rw [l1, l3]
      decide
    · rw [l1, l3]
      decide
    · rw [l1, Int32.lt_iff_toInt_lt, i0]
      exact ⟨fun _ => by omega, fun _ => rfl⟩
  have hcond : (xLKd σ = 2 ∧ ¬ xOp σ = 48) ↔ (¬ s < 0 ∧ ¬ n = 100) := by
    rw [hls, e48]
  have hc' : ((xLKd σ = 2 ∧ ¬ xOp σ = 48) ∧ zSq (zGvR σ (xLsy σ) (yOf (yPl τ))) (fun ρ => zL4 ρ (yOf (yPl τ))) o σ') ∨ (¬ (xLKd σ = 2 ∧ ¬ xOp σ = 48) ∧ zL4 σ (yOf (yPl τ)) o σ') := by
    have e : zOfL (xPl σ).toInt64 = yOf (yPl τ) := by rw [zOf_yOf, epl]
    rw [← e]
    exact hc
  rcases hc' with ⟨c1, o1, σ1, c2, c3⟩ | ⟨c1, c2⟩
  · rcases hy with ⟨y1, y2⟩ | ⟨y1, y2⟩
    · have hsy : xLsy σ = s ∧ 0 ≤ s.toInt ∧ s.toInt < (xCn σ).toInt := by
        rcases l with ⟨l1, l2, l3⟩ | ⟨l1, l2, l3, l4⟩ | ⟨l1, l2, l3, l4, l5⟩
        · rw [c1.1] at l1
          exact absurd l1 (by decide)
        · rw [c1.1] at l1
          exact absurd l1 (by decide)
        · exact ⟨l3, l4, l5⟩
      rw [hsy.1] at c2
      have hd := aR_def h (s := s) (w := yOf (yPl τ)) hsy.2 hv hall
      rcases hd with ⟨k1, k2⟩ | ⟨W, G, I, O, k1, k2, k3⟩
      · left; left
        rcases y2 with ⟨y3, y4⟩ | ⟨τ2, y3, y4⟩
        · refine ⟨?_, y4⟩
          rcases c2.2 with ⟨d1, d2⟩ | ⟨W, G, d1, d2⟩
          · rcases c3 with ⟨e1, e2, e3⟩ | ⟨e1, e2⟩
            · exact e2
            · rw [d2.1] at e1
              cases e1
          · rw [k1] at d1
            cases d1
        · rw [k2] at y3
          cases y3
      · rcases y2 with ⟨y3, y4⟩ | ⟨τ2, y3, y4⟩
        · rw [k2] at y3
          cases y3
        · rw [k2] at y3
          cases y3
          rcases c2.2 with ⟨d1, d2⟩ | ⟨W', G', d1, d2, d3⟩
          · rw [k1] at d1
            cases d1
          · rw [k1] at d1
            cases d1
            subst d3
            rcases c3 with ⟨e1, e2, e3⟩ | ⟨e1, e2⟩
            · rw [d2] at e1
              cases e1
            · have kk : kS σ (zWG (zGv σ s (yOf (yPl τ))) W G) := ⟨rfl, rfl, rfl, rfl, rfl, rfl, rfl, rfl, rfl, rfl⟩
              have kz : kY τ (zOI (yDef τ s (yOf (yPl τ))) O I 0) := ⟨rfl, rfl, rfl⟩
              have hg := go_ok k3 (show oR (zWG (zGv σ s (yOf (yPl τ))) W G) (zOI (yDef τ s (yOf (yPl τ))) O I 0) from ho) rfl hall (lbR_c l kk kz (Int.le_refl _)) hq hv hf hne e2 y4
              rcases hg with g | g
              · exact .inl (okR_tr kk kz g)
              · exact .inr g
    · exact absurd (hcond.1 c1) y1
  · rcases hy with ⟨y1, y2⟩ | ⟨y1, y2⟩
    · exact absurd (hcond.2 y1) c1
    · exact go_ok h ho hb hall l hq hv hf hne c2 y2
