/-! THE OPERATION AND ITS OPERAND: both sides -/
variable {σ τ : zS} {fi : Nat}
theorem okR_tr {σ σ1 σ' τ τ1 τ' : zS} {o : zO} (k : kS σ σ1) (ky : kY τ τ1) (h : okR σ1 τ1 fi o σ' τ') : okR σ τ fi o σ' τ' := by
  rcases h with h | ⟨h1, h2, h3, h4, h5⟩
  · exact .inl h
  · exact .inr ⟨h1, h2, h3, kS_tr k h4, kY_tr ky h5⟩
/-- a word of a directive -/
theorem dirW_ok (h : aR σ τ fi) (ho : oR σ τ) : xW σ = yWs τ 0 (yP τ) ∧ ∀ w q, yWs τ 0 (yP τ) = some (w, q) → wOk w ∧ (q < xPe σ ↔ ¬ q = yE τ) := by
  obtain ⟨hT, hA, he, h0, h1, h240, hch⟩ := ho
  have hE := aR_eRel h hT he h240
  have hw := words_ok' hE h240 h0 h1
  refine ⟨?_, fun w q hq => ⟨hw.2 _ hq, ?_⟩⟩
  · show sWF (xE σ) (xT σ) (xPe σ) 240 0 (xAt σ) = _
    rw [hT, hA, he]
    exact hw.1
  · have hge : q.toInt ≤ (yE τ).toInt := (yWF_ge _ _ _ _ hq).2
    rw [he, Int32.lt_iff_toInt_lt]
    constructor
    · intro k e
      rw [e] at k
      omega
    · intro k
      have : ¬ q.toInt = (yE τ).toInt := fun e => k (Int32.toInt_inj.mp e)
      omega
theorem dir_ok (h : aR σ τ fi) (ho : oR σ τ) (hb : yB τ = 0) (hall : fi = (xWc σ).toNatClampNeg) {a hh s n v f c : Int32} (l : lbR σ τ a hh s) (hq : opRel (xOp σ) c n) (hins : ¬ zCd (xOp σ) < 64) (hv : wOk v) (hf : f.toInt.toNat = fi) (hne : n = 103 → xLKd σ = 0) {o o1 : zO} {σ' τ' σ1 τ1 : zS} {x : Int32} (hc1 : zDiR σ o1 σ1) (hc2 : (o1 = .inr 0 ∧ o = .inr 0 ∧ σ1 = σ') ∨ ∃ w, o1 = .inl (some (.int w)) ∧ ((xOp σ1 = 48 ∧ zL5 σ1 w o σ') ∨ (¬ xOp σ1 = 48 ∧ zL5 σ1 v o σ'))) (hy1 : yDiC τ n v x τ1) (hy2 : ¬ yB τ1 = 0 → ¬ yB τ' = 0) (hy3 : yB τ1 = 0 → yEnd τ1 a hh s n x f τ') : lnR σ τ fi o σ' τ' := by
  have hw := dirW_ok h ho
  obtain ⟨q0, q1, q2, q3, q4, q5, q6, q7, q8, q9, q10⟩ := hq
  rcases hc1 with ⟨c1, c2⟩ | ⟨w, q, c1, c2⟩
  · left; left
    rw [hw.1] at c1
    rcases hy1 with ⟨y1, y2⟩ | ⟨w, q, y1, y2⟩
    · rcases hc2 with ⟨c3, c4, c5⟩ | ⟨w, c3, c4⟩
      · exact ⟨c4, hy2 y2⟩
      · rw [c2.1] at c3
        cases c3
    · rw [y1] at c1
      cases c1
  · rw [hw.1] at c1
    rcases hy1 with ⟨y1, y2⟩ | ⟨w', q', y1, y2⟩
    · rw [y1] at c1
      cases c1
    · rw [y1] at c1
      cases c1
      obtain ⟨hwo, hlt⟩ := hw.2 w q y1
      rcases c2 with ⟨c3, c4⟩ | ⟨c3, nm, ln, cp, nu, c4⟩
      · left; left
        rcases hc2 with ⟨c5, c6, c7⟩ | ⟨w', c5, c6⟩
        · rcases y2 with ⟨y3, y4⟩ | ⟨y3, y4⟩
          · exact ⟨c6, hy2 y4⟩
          · exact absurd y3 (hlt.1 c3)
        · rw [c4.1] at c5
          cases c5
      · rcases y2 with ⟨y3, y4⟩ | ⟨y3, y4⟩
        · exact absurd (hlt.2 y3) c3
        · obtain ⟨y100, y101, y102, y103⟩ := y4
          have hR : aR (zTs σ q nm ln cp nu) (zPb2 τ q 0) fi := h
          have lR : lbR (zTs σ q nm ln cp nu) (zPb2 τ q 0) a hh s := l
          have kR : kS σ (zTs σ q nm ln cp nu) := ⟨rfl, rfl, rfl, rfl, rfl, rfl, rfl, rfl, rfl, rfl⟩
          have kYR : kY τ (zPb2 τ q 0) := ⟨rfl, rfl, rfl⟩
          have hb0 : yB (zPb2 τ q 0) = 0 := rfl
          have hox : xOp (zTs σ q nm ln cp nu) = xOp σ := rfl
          have hallR : fi = (xWc (zTs σ q nm ln cp nu)).toNatClampNeg := hall
          have hne' : n = 103 → xLKd (zTs σ q nm ln cp nu) = 0 := hne
          generalize zTs σ q nm ln cp nu = ρ at *
          generalize zPb2 τ q 0 = π at *
          rcases c4 with ⟨d1, d2⟩ | ⟨d1, d2, d3⟩ | ⟨d1, d2, d3, d4⟩ | ⟨d1, d2, d3, d4⟩
          · rw [hox] at d1
            have n100 := q2.1 d1
            obtain ⟨yx, yt⟩ := y100 n100
            have hye := hy3 (by rw [← yt]; exact hb0)
            rw [yx, ← yt] at hye
            left
            rcases d2 with ⟨e1, e2, e3⟩ | ⟨e1, e2, e3⟩
            · subst e3
              rcases hc2 with ⟨c5, c6, c7⟩ | ⟨w', c5, c6⟩
              · rw [e2] at c5
                cases c5
              · rw [e2] at c5
                cases c5
                have hs : s = -1 := by
                  rcases lR with ⟨l1, l2, l3⟩ | ⟨l1, l2, l3, l4⟩ | ⟨l1, l2⟩
                  · exact l3
                  · exact l3
                  · exact absurd l1 e1
                rcases hye with ⟨g1, g2⟩ | ⟨g1, g2⟩
                · rw [hs] at g1
                  exact absurd (by decide) g1.1
                · rcases c6 with ⟨c7, c8⟩ | ⟨c7, c8⟩
                  · exact okR_tr kR kYR (here_ok hR hb0 (lbR_h lR) hwo hf c8 g2)
                  · rw [hox] at c7
                    exact absurd d1 c7
            · have hsy : xLsy ρ = s ∧ 0 ≤ s.toInt ∧ s.toInt < (xCn ρ).toInt ∧ hh = 0 := by
                rcases lR with ⟨l1, l2, l3⟩ | ⟨l1, l2, l3, l4⟩ | ⟨l1, l2, l3, l4, l5⟩
                · rw [e1] at l1
                  exact absurd l1 (by decide)
                · rw [e1] at l1
                  exact absurd l1 (by decide)
                · exact ⟨l3, l4, l5, l2⟩
              rw [hsy.1] at e3
              have hnn : ¬ s < 0 := by
                rw [Int32.lt_iff_toInt_lt, i0]
                omega
              have hd := aR_def hR (s := s) (w := w) ⟨hsy.2.1, hsy.2.2.1⟩ hwo hallR
              rcases hye with ⟨g1, g2⟩ | ⟨g1, g2⟩
              · rcases hd with ⟨k1, k2⟩ | ⟨W, G, I, O, k1, k2, k3⟩
                · rcases e3 with ⟨e4, e5⟩ | ⟨W, G, e4, e5⟩
                  · left
                    rcases g2 with ⟨g3, g4⟩ | ⟨τ2, g3, g4⟩
                    · rcases hc2 with ⟨c5, c6, c7⟩ | ⟨w', c5, c6⟩
                      · exact ⟨c6, g4⟩
                      · rw [e5.1] at c5
                        cases c5
                    · rw [k2] at g3
                      cases g3
                  · rw [k1] at e4
                    cases e4
                · rcases e3 with ⟨e4, e5⟩ | ⟨W', G', e4, e5, e6⟩
                  · rw [k1] at e4
                    cases e4
                  · rw [k1] at e4
                    cases e4
                    rcases g2 with ⟨g3, g4⟩ | ⟨τ2, g3, g4⟩
                    · rw [k2] at g3
                      cases g3
                    · rw [k2] at g3
                      cases g3
                      subst e6
                      rcases hc2 with ⟨c5, c6, c7⟩ | ⟨w', c5, c6⟩
                      · rw [e5] at c5
                        cases c5
                      · rw [e5] at c5
                        cases c5
                        rcases c6 with ⟨c7, c8⟩ | ⟨c7, c8⟩
                        · have k3' : kS ρ (zWG (zGv ρ s w) W G) := ⟨rfl, rfl, rfl, rfl, rfl, rfl, rfl, rfl, rfl, rfl⟩
                          have kz : kY π (zOI (yDef π s w) O I 0) := ⟨rfl, rfl, rfl⟩
                          exact okR_tr (kS_tr kR k3') (kY_tr kYR kz) (here_ok k3 rfl (lbH_c (lbR_h lR) k3' kz) hwo hf c8 g4)
                        · have c7' : ¬ xOp ρ = 48 := c7
                          rw [hox] at c7'
                          exact absurd d1 c7'
              · exact absurd ⟨hnn, n100⟩ g1
          · rw [hox] at d1 d2
            have n101 := q3.1 d2
            have n100 : ¬ n = 100 := fun k => d1 (q2.2 k)
            obtain ⟨yx, yt⟩ := y101 n101
            obtain ⟨d4, d5⟩ := d3
            subst d5
            have hye := hy3 (by rw [← yt]; exact hb0)
            rw [yx, ← yt] at hye
            left
            have hz := zVal_ok hwo
            have hR2 : aR (zI ρ 11 8 (zVal w)) (zI π 25 24 (zVal w)) fi := aRf.mk (pl := rfl) (plv := hz) (cn := hR.cn) (nm := hR.nm) (vl := hR.vl) (dg := hR.dg) (lc := hR.lc) (lr := hR.lr) (lt := hR.lt) (wd := hR.wd) (wt := hR.wt) (wr := hR.wr) (fs := hR.fs) (en := hR.en) (wp := hR.wp) (ln := hR.ln) (kd := hR.kd)
            have k3' : kS ρ (zI ρ 11 8 (zVal w)) := ⟨rfl, rfl, rfl, rfl, rfl, rfl, rfl, rfl, rfl, rfl⟩
            have kz : kY π (zI π 25 24 (zVal w)) := ⟨rfl, rfl, rfl⟩
            rcases hye with ⟨g1, g2⟩ | ⟨g1, g2⟩
            · exact absurd g1.2 n100
            · rcases hc2 with ⟨c5, c6, c7⟩ | ⟨w', c5, c6⟩
              · rw [d4] at c5
                cases c5
              · rw [d4] at c5
                cases c5
                rcases c6 with ⟨c7, c8⟩ | ⟨c7, c8⟩
                · have c7' : xOp ρ = 48 := c7
                  rw [hox] at c7'
                  exact absurd c7' d1
                · exact okR_tr (kS_tr kR k3') (kY_tr kYR kz) (here_ok hR2 hb0 (lbH_c (lbR_h lR) k3' kz) hv hf c8 g2)
          · rw [hox] at d1 d2 d3
            have n102 := q4.1 d3
            have n100 : ¬ n = 100 := fun k => d1 (q2.2 k)
            obtain ⟨yx, yt⟩ := y102 n102
            left
            rcases yt with ⟨yt1, yt2⟩ | ⟨yt1, yt2⟩
            · left
              rcases d4 with ⟨d5, d6⟩ | ⟨d5, d6⟩
              · rcases hc2 with ⟨c5, c6, c7⟩ | ⟨w', c5, c6⟩
                · exact ⟨c6, hy2 yt2⟩
                · rw [d6.1] at c5
                  cases c5
              · rw [hR.pl] at d5
                exact absurd (plc_zy.1 d5) yt1
            · rcases d4 with ⟨d5, d6⟩ | ⟨d5, d6, d7⟩
              · rw [hR.pl] at d5
                exact absurd (plc_zy.2 yt1) d5
              · subst d7
                have hye := hy3 (by rw [← yt2]; exact hb0)
                rw [yx, ← yt2] at hye
                have hR2 := aR_put hR yt1 hwo
                have k3' : kS ρ (zPut ρ w) := ⟨rfl, rfl, rfl, rfl, rfl, rfl, rfl, rfl, rfl, rfl⟩
                have kz : kY π (zI (yStd π (yPl π) w) 25 24 (yPl π + 1)) := ⟨rfl, rfl, rfl⟩
                rcases hye with ⟨g1, g2⟩ | ⟨g1, g2⟩
                · exact absurd g1.2 n100
                · rcases hc2 with ⟨c5, c6, c7⟩ | ⟨w', c5, c6⟩
                  · rw [d6] at c5
                    cases c5
                  · rw [d6] at c5
                    cases c5
                    rcases c6 with ⟨c7, c8⟩ | ⟨c7, c8⟩
                    · have c7' : xOp ρ = 48 := c7
                      rw [hox] at c7'
                      exact absurd c7' d1
                    · exact okR_tr (kS_tr kR k3') (kY_tr kYR kz) (here_ok hR2 hb0 (lbH_c (lbR_h lR) k3' kz) hv hf c8 g2)
          · rw [hox] at d1 d2 d3
            have h51 : xOp σ = 51 := by
              have hcd : ∀ k : Fin 50, ¬ zCd (k.val + 2) < 64 → k.val = 46 ∨ k.val = 47 ∨ k.val = 48 ∨ k.val = 49 := by decide +kernel
              have h50 : xOp σ - 2 < 50 := by omega
              have e2 : xOp σ - 2 + 2 = xOp σ := by omega
              have := hcd ⟨xOp σ - 2, h50⟩ (by show ¬ zCd (xOp σ - 2 + 2) < 64; rw [e2]; exact hins)
              have t : xOp σ - 2 = 46 ∨ xOp σ - 2 = 47 ∨ xOp σ - 2 = 48 ∨ xOp σ - 2 = 49 := this
              omega
            have n103 := q5.1 h51
            have n100 : ¬ n = 100 := fun k => d1 (q2.2 k)
            obtain ⟨yx, yt⟩ := y103 n103
            have hlk := hne' n103
            rcases d4 with ⟨d5, d6⟩ | ⟨d5, d6, d7⟩
            · left; left
              rcases yt with ⟨yt1, yt2⟩ | ⟨yt1, yt2⟩
              · rcases hc2 with ⟨c5, c6, c7⟩ | ⟨w', c5, c6⟩
                · exact ⟨c6, hy2 yt2⟩
                · rw [d6.1] at c5
                  cases c5
              · exact absurd (plc_zy.2 yt1) d5
            · right
              rcases yt with ⟨yt1, yt2⟩ | ⟨yt1, yt2⟩
              · exact absurd (plc_zy.1 d5) yt1
              · subst d7
                have hR2 : aR (zI (zI ρ 11 9 (zVal w)) 11 10 1) (zI π 25 25 (zVal w)) fi := hR
                have hen := end_ok hR2 hallR hb0 (by show ¬ (1 : Int32) = 0; decide) rfl yt2
                rcases hc2 with ⟨c5, c6, c7⟩ | ⟨w', c5, c6⟩
                · rw [d6] at c5
                  cases c5
                · rw [d6] at c5
                  cases c5
                  rcases c6 with ⟨c7, c8⟩ | ⟨c7, c8⟩
                  · have c7' : xOp ρ = 48 := c7
                    rw [hox] at c7'
                    exact absurd c7' d1
                  · rcases c8 with ⟨c9, c10, c11⟩ | ⟨c9, c10⟩
                    · rw [← c11]
                      refine ⟨c10, rfl, ?_⟩
                      have hs : s = -1 ∧ hh = 0 := by
                        rcases lR with ⟨l1, l2, l3⟩ | ⟨l1, l2⟩ | ⟨l1, l2⟩
                        · exact ⟨l3, l2⟩
                        · rw [hlk] at l1
                          exact absurd l1 (by decide)
                        · rw [hlk] at l1
                          exact absurd l1 (by decide)
                      by_cases hbt : yB τ1 = 0
                      · have hye := hy3 hbt
                        rcases hye with ⟨g1, g2⟩ | ⟨g1, g2⟩
                        · exact absurd g1.2 n100
                        · rw [← g2.1 hs.2]
                          exact hen
                      · have hbt' := hy2 hbt
                        rcases hen with ⟨e1, e2⟩ | ⟨V, pl, W, G, e1, e2, e3⟩
                        · exact .inl ⟨e1, hbt'⟩
                        · exact absurd e2 hbt
                    · have c9' : xLKd ρ = 3 := c9
                      rw [hlk] at c9'
                      exact absurd c9' (by decide)
