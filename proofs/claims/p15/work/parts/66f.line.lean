/-! A LINE, all of it: both sides -/
variable {σ τ : zS} {fi : Nat}
theorem lt_iff_ne {x t : Int32} (h : x.toInt ≤ t.toInt) : x < t ↔ ¬ x = t := by
  rw [Int32.lt_iff_toInt_lt]
  constructor
  · intro k e
    rw [e] at k
    omega
  · intro k
    have : ¬ x.toInt = t.toInt := fun e => k (Int32.toInt_inj.mp e)
    omega
theorem opn_eq {π π1 : zS} (hT : yT π1 = yT π) (oo oe : Int32) : yOpn' π oo oe = yOpn' π1 oo oe := by
  simp only [yOpn', yNm, hT]
theorem line_ok' {ρ τ : zS} {a t : Int32} (h : aR ρ τ fi) (hall : fi = (xWc ρ).toNatClampNeg) (hT : xT ρ = yT τ) (hA : xAt ρ = a) (hL : xLe ρ = t) (h0 : 0 ≤ a.toInt) (h1 : a.toInt ≤ t.toInt) (h240 : t.toInt ≤ 240) (hch : chR (yT τ) t) (hb : yB τ = 0) {o : zO} {σ' τ' : zS} (hc : (zNth ρ ∧ zN ρ o σ') ∨ (¬ zNth ρ ∧ zL2 ρ o σ')) (hy : yRlC τ a t τ') : lnS ρ τ fi o σ' τ' := by
  have bS := zSc_b (p := fun k => decide (yT τ k.toNatClampNeg = 32)) (e := t) (a := a) h1
  have hnth : zNth ρ ↔ yNth τ a t := by
    show ((xAt ρ < xLe ρ ∧ xT ρ (xAt ρ).toNatClampNeg = 42) ∨ ¬ zSc (fun k => decide (xT ρ k.toNatClampNeg = 32)) (xLe ρ) (xAt ρ) < xLe ρ) ↔ ((a < t ∧ yT τ a.toNatClampNeg = 42) ∨ zSc (fun k => decide (yT τ k.toNatClampNeg = 32)) t a = t)
    rw [hT, hA, hL, lt_iff_ne (x := zSc (fun k => decide (yT τ k.toNatClampNeg = 32)) t a) bS.2]
    exact or_congr Iff.rfl Decidable.not_not
  rcases hc with ⟨c1, c2, c3⟩ | ⟨c1, c2⟩
  · rcases hy with ⟨y1, y2⟩ | ⟨y1, y2⟩
    · right; left
      rw [← c3, ← y2]
      exact ⟨c2, hb, h, ⟨rfl, rfl, rfl, rfl, rfl⟩, ⟨rfl, rfl, rfl⟩⟩
    · exact absurd (hnth.1 c1) y1
  · rcases hy with ⟨y1, y2⟩ | ⟨y1, y2⟩
    · exact absurd (hnth.2 y1) c1
    · have b1 := zSc_b (p := fun k => !decide (yT τ k.toNatClampNeg = 32)) (e := t) (a := a) h1
      have e1 : zSc (fun k => !decide (yT τ k.toNatClampNeg = 32)) t a = yLe τ a t := rfl
      rw [e1] at b1
      have b2 := zSc_b (p := fun k => decide (yT τ k.toNatClampNeg = 32)) (e := t) (a := yLe τ a t) b1.2
      have e2 : zSc (fun k => decide (yT τ k.toNatClampNeg = 32)) t (yLe τ a t) = yO τ a t := rfl
      rw [e2] at b2
      have b3 := zSc_b (p := fun k => !decide (yT τ k.toNatClampNeg = 32)) (e := t) (a := yO τ a t) b2.2
      have e3 : zSc (fun k => !decide (yT τ k.toNatClampNeg = 32)) t (yO τ a t) = yOe τ a t := rfl
      rw [e3] at b3
      have b4 := zSc_b (p := fun k => decide (yT τ k.toNatClampNeg = 32)) (e := t) (a := yOe τ a t) b3.2
      have e4 : zSc (fun k => decide (yT τ k.toNatClampNeg = 32)) t (yOe τ a t) = yP1 τ a t := rfl
      rw [e4] at b4
      have b5 := zSc_b (p := fun k => !decide (yT τ k.toNatClampNeg = 32)) (e := t) (a := yP1 τ a t) b4.2
      have e5 : zSc (fun k => !decide (yT τ k.toNatClampNeg = 32)) t (yP1 τ a t) = yE1 τ a t := rfl
      rw [e5] at b5
      obtain ⟨o1, σ1, c3, c4⟩ := c2
      have hlab := lab_ok (π := yLn τ a t) h hT (by rw [hA]; exact h0) (by rw [hA, hL]; exact h1) (by rw [hL]; exact h240) c3
      rw [hA, hL] at hlab
      have eb : zStop (yT (yLn τ a t)) t a = yLe τ a t := rfl
      rw [eb] at hlab
      rcases hlab with ⟨l1, l2⟩ | ⟨l1, l2, l3, l4, l5⟩
      · left
        refine ⟨?_, ?_⟩
        · rcases c4 with ⟨d1, d2, d3⟩ | ⟨d1, d2⟩
          · exact d2
          · rw [l1] at d1
            cases d1
        · rcases y2 with ⟨y3, y4⟩ | ⟨y3, y4⟩
          · exact y4
          · rcases y4 with ⟨y5, y6⟩ | ⟨y5, y6⟩
            · exact y6
            · rcases y6 with ⟨y7, y8⟩ | ⟨y7, nd, hh, y8, y9, y10⟩
              · exact y8
              · rcases l2 with l2 | ⟨l2, l3, l4⟩
                · exact absurd y5 l2
                · have hyi := (y7.2.1 ⟨l2, l3⟩).1
                  rcases l4 with l4 | l4
                  · exact absurd hyi l4
                  · have hnd : ¬ nd = 0 ∧ hh = 0 := by
                      refine ⟨?_, ?_⟩
                      · rcases y8 with ⟨z1, z2⟩ | ⟨z1, z2⟩
                        · rw [z1]
                          decide
                        · exact absurd l2 z2
                      · rcases y9 with ⟨z1, z2, z3⟩ | ⟨z1, z2⟩
                        · exact absurd z3 l3
                        · exact z1
                    rcases y10 with ⟨w1, w2⟩ | ⟨w1, w2⟩
                    · rcases w2 with ⟨w3, w4⟩ | ⟨s, π1, w3, w4⟩
                      · exact w4
                      · rw [l4] at w3
                        cases w3
                    · exact absurd hnd w1
      · rcases c4 with ⟨d1, d2, d3⟩ | ⟨d1, d2⟩
        · rw [l1] at d1
          cases d1
        · have hLe1 : xLe σ1 = t := l4.2.2.1.trans hL
          have hT1 : xT σ1 = yT τ := l4.2.2.2.2.2.2.trans hT
          have hO1 : xO1 σ1 = yO τ a t := by
            show zSkip (xT σ1) (xLe σ1) (xAt σ1) = _
            rw [hT1, hLe1, l3]
          have hOe : xOe σ1 = yOe τ a t := by
            show zStop (xT σ1) (xLe σ1) (xO1 σ1) = _
            rw [hT1, hLe1, hO1]
          have hallS : fi = (xWc σ1).toNatClampNeg := by
            rw [l4.2.2.2.2.2.1]
            exact hall
          have kk : kLn ρ σ1 := ⟨l4.1, l4.2.1, l4.2.2.2.1, l4.2.2.2.2.1, l4.2.2.2.2.2.2⟩
          by_cases hot : yO τ a t = t
          · left
            refine ⟨?_, ?_⟩
            · obtain ⟨o2, σ2, f1, f2⟩ := d2
              have hoet : yOe τ a t = t := by
                apply Int32.toInt_inj.mp
                rw [hot] at b3
                omega
              have hnone : opF (xOm σ1) 50 0 = none := by
                have hq : zRun (xT σ1) (xOe σ1) (xO1 σ1) = t := by
                  rw [hOe, hO1, hot, hoet]
                  have := zSc_b (p := fun k => zPb (xT σ1 k.toNatClampNeg)) (e := t) (a := t) (Int.le_refl _)
                  have e : zSc (fun k => zPb (xT σ1 k.toNatClampNeg)) t t = zRun (xT σ1) t t := rfl
                  rw [e] at this
                  apply Int32.toInt_inj.mp
                  omega
                show opF (zPk (xT σ1) (xO1 σ1) (min (zDn (xO1 σ1) (zRun (xT σ1) (xOe σ1) (xO1 σ1))) 6)) 50 0 = none
                rw [hq, hO1, hot, show zDn t t = 0 by show (t.toInt - t.toInt).toNat = 0; omega]
                exact op_none _ _
              rcases f1 with ⟨g1, g2⟩ | ⟨q, c, g1, g2⟩
              · rcases f2 with ⟨k1, k2, k3⟩ | ⟨k1, k2⟩
                · exact k2
                · rw [g2.1] at k1
                  cases k1
              · rw [hnone] at g1
                cases g1
            · rcases y2 with ⟨y3, y4⟩ | ⟨y3, y4⟩
              · exact y4
              · exact absurd hot y3
          · rcases y2 with ⟨y3, y4⟩ | ⟨y3, y4⟩
            · exact absurd y3 hot
            · rcases y4 with ⟨y5, y6⟩ | ⟨y5, y6⟩
              · exact absurd l2 y5
              · have hlt : (yO τ a t).toInt < (yOe τ a t).toInt := by
                  have hotl := Int32.lt_iff_toInt_lt.mp ((lt_iff_ne b2.2).2 hot)
                  have hs := (zSc_le (fun k => decide (yT τ k.toNatClampNeg = 32)) t (yLe τ a t)).2.2 hotl
                  have hs' : decide (yT τ (yO τ a t).toNatClampNeg = 32) = false := hs
                  have hg := zSc_go (p := fun k => !decide (yT τ k.toNatClampNeg = 32)) (e := t) (a := yO τ a t) ((lt_iff_ne b2.2).2 hot) (by show (!decide (yT τ (yO τ a t).toNatClampNeg = 32)) = true; rw [hs']; rfl)
                  have hg' : yOe τ a t = zSc (fun k => !decide (yT τ k.toNatClampNeg = 32)) t (yO τ a t + 1) := hg
                  have hi := zInc ((lt_iff_ne b2.2).2 hot)
                  have := (zSc_b (p := fun k => !decide (yT τ k.toNatClampNeg = 32)) (e := t) (a := yO τ a t + 1) (by omega)).1
                  rw [← hg'] at this
                  omega
                generalize hnn : yOpn' (yLn τ a t) (yO τ a t) (yOe τ a t) = n at y6
                have hrw := run_whole (T := yT τ) (a := a) (b := yLe τ a t) (e := yE1 τ a t) l2 (by omega)
                have hK : ∀ n : Int32, (a < yLe τ a t ∧ ¬ zLoc (yT τ) a (yLe τ a t) 72 → yIs (yT τ) a (yLe τ a t)) → (yStK (yLn τ a t) a (yLe τ a t) n ↔ (¬ n < 0 ∧ ¬ (n = 100 ∧ ¬ a < yLe τ a t) ∧ ¬ (n = 103 ∧ a < yLe τ a t))) := fun n hyis => ⟨fun k => ⟨k.1, k.2.2.1, k.2.2.2⟩, fun k => ⟨k.1, fun w => ⟨hyis w, hrw⟩, k.2.1, k.2.2⟩⟩
                have fin : ∀ {hh s : Int32} {π1 : zS}, aR σ1 π1 fi → kPb (yLn τ a t) π1 → lbR σ1 π1 a hh s → (xLKd σ1 = 0 ↔ ¬ a < yLe τ a t) → (a < yLe τ a t ∧ ¬ zLoc (yT τ) a (yLe τ a t) 72 → yIs (yT τ) a (yLe τ a t)) → (yStK (yLn τ a t) a (yLe τ a t) n → yMid π1 a hh s n (yOf (yPl (yLn τ a t))) (yWt (yLn τ a t)) τ') → lnS ρ τ fi o σ' τ' := by
                  intro hh s π1 r1 r2 r3 r4 r5 r6
                  obtain ⟨⟨p0, p00, p1⟩, p2, p3, p4, p5, p6⟩ := r2
                  have hTp : yT π1 = yT τ := p1
                  have hres := opn_ok (b := yLe τ a t) (n := n) r1 (by rw [hT1, hTp]) hLe1 (by rw [p4]; exact hb) hallS (by omega) hlt b3.2 h240 (by rw [hTp]; exact hch) hO1 hOe (hnn.symm.trans (opn_eq p1 _ _)) (by rw [p2, hTp]; rfl) (by rw [p3, hTp]; rfl) r3 r4 d2 (fun k => by
                      rcases y6 with ⟨y7, y8⟩ | ⟨y7, y8⟩
                      · exact y8
                      · exact absurd ((hK _ r5).1 y7) k) (fun k => by
                      have := r6 ((hK _ r5).2 k)
                      rw [p6, p5]
                      exact this)
                  rcases hres with m | ⟨m1, m2, m3, m4, m5⟩ | m
                  · exact .inl m
                  · right; left
                    exact ⟨m1, m2, m3, ⟨m4.1.trans kk.1, m4.2.1.trans kk.2.1, m4.2.2.1.trans kk.2.2.1, m4.2.2.2.1.trans kk.2.2.2.1, m4.2.2.2.2.trans kk.2.2.2.2⟩, ⟨m5.1.trans p0, m5.2.1.trans p00, m5.2.2.trans p1⟩⟩
                  · exact .inr (.inr m)
                have kp0 : kPb (yLn τ a t) (yLn τ a t) := ⟨⟨rfl, rfl, rfl⟩, rfl, rfl, rfl, rfl, rfl⟩
                have ref : ∀ {n : Int32}, yStK (yLn τ a t) a (yLe τ a t) n → yStC (yLn τ a t) a (yLe τ a t) n τ' → (¬ yB τ' = 0 ∧ ¬ yStK (yLn τ a t) a (yLe τ a t) n) ∨ ∃ nd hh, ((nd = 1 ∧ a < yLe τ a t) ∨ (nd = 0 ∧ ¬ a < yLe τ a t)) ∧ ((hh = 1 ∧ a < yLe τ a t ∧ zLoc (yT (yLn τ a t)) a (yLe τ a t) 72) ∨ (hh = 0 ∧ ¬ (a < yLe τ a t ∧ zLoc (yT (yLn τ a t)) a (yLe τ a t) 72))) ∧ ySt1 (yLn τ a t) a (yLe τ a t) nd hh n τ' := fun {n} k w => by
                  rcases w with ⟨w1, w2⟩ | ⟨w1, nd, hh, w2, w3, w4⟩
                  · exact absurd k w1
                  · exact .inr ⟨nd, hh, w2, w3, w4⟩
                rcases l5 with ⟨g1, g2, g3⟩ | ⟨g1, g2, g3, g4, g5⟩ | ⟨g1, g2, g3, g4, s, π1, g5, g6, g7, g8, g9, g10⟩
                · refine fin (hh := 0) (s := -1) g3 kp0 (.inl ⟨g2, rfl, rfl⟩) ⟨fun _ => g1, fun _ => g2⟩ (fun k => absurd k.1 g1) (fun k => ?_)
                  rcases ref k y6 with ⟨_, z⟩ | ⟨nd, hh, z1, z2, z3⟩
                  · exact absurd k z
                  · have hnd : nd = 0 := by
                      rcases z1 with ⟨z4, z5⟩ | ⟨z4, z5⟩
                      · exact absurd z5 g1
                      · exact z4
                    have hhh : hh = 0 := by
                      rcases z2 with ⟨z4, z5, z6⟩ | ⟨z4, z5⟩
                      · exact absurd z5 g1
                      · exact z4
                    rcases z3 with ⟨z4, z5⟩ | ⟨z4, z5⟩
                    · exact absurd hnd z4.1
                    · rw [hhh] at z5
                      exact z5
                · refine fin (hh := 1) (s := -1) g5 kp0 (.inr (.inl ⟨g3, rfl, rfl, g4, g2.2.1⟩)) ⟨fun k => by rw [g3] at k; exact absurd k (by decide), fun k => absurd g1 k⟩ (fun k => absurd g2 k.2) (fun k => ?_)
                  rcases ref k y6 with ⟨_, z⟩ | ⟨nd, hh, z1, z2, z3⟩
                  · exact absurd k z
                  · have hhh : hh = 1 := by
                      rcases z2 with ⟨z4, z5, z6⟩ | ⟨z4, z5⟩
                      · exact z4
                      · exact absurd ⟨g1, g2⟩ z5
                    rcases z3 with ⟨z4, z5⟩ | ⟨z4, z5⟩
                    · rw [hhh] at z4
                      exact absurd z4.2 (by decide)
                    · rw [hhh] at z5
                      exact z5
                · refine fin (hh := 0) (s := s) g9 g10 (.inr (.inr ⟨g4, rfl, g6, g7, g8⟩)) ⟨fun k => by rw [g4] at k; exact absurd k (by decide), fun k => absurd g1 k⟩ (fun _ => g3) (fun k => ?_)
                  rcases ref k y6 with ⟨_, z⟩ | ⟨nd, hh, z1, z2, z3⟩
                  · exact absurd k z
                  · have hnd : nd = 1 := by
                      rcases z1 with ⟨z4, z5⟩ | ⟨z4, z5⟩
                      · exact z4
                      · exact absurd g1 z5
                    have hhh : hh = 0 := by
                      rcases z2 with ⟨z4, z5, z6⟩ | ⟨z4, z5⟩
                      · exact absurd z6 g2
                      · exact z4
                    rcases z3 with ⟨z4, z5⟩ | ⟨z4, z5⟩
                    · rcases z5 with ⟨z6, z7⟩ | ⟨s', π2, z6, z7⟩
                      · rw [g5] at z6
                        cases z6
                      · rw [g5] at z6
                        cases z6
                        rw [hhh] at z7
                        exact z7
                    · exact absurd ⟨by rw [hnd]; decide, hhh⟩ z4
theorem line_ok (h : aR σ τ fi) (hT : xT σ = yT τ) (hlen : σ.1 9 1 = τ.1 25 18) (hl : (τ.1 25 18).toInt ≤ 240) (hch : chR (yT τ) (τ.1 25 18)) {a : Int32} (ha : σ.1 9 3 = a) (h0 : 0 ≤ a.toInt) (h1 : a.toInt ≤ (τ.1 25 18).toInt) (hcur : 0 ≤ (σ.1 11 11).toInt ∧ (σ.1 11 11).toInt ≤ 1000) (hb : yB τ = 0) {o : zO} {σ' τ' : zS} (hc : zLnR σ o σ') (hy : yRlR τ a (yEol τ a) (.inl none) τ') : zEol σ = yEol τ a ∧ lnS (zOpn σ) τ (xWc σ).toNatClampNeg o σ' τ' := by
  have hE : zEol σ = yEol τ a := by
    show zSc (fun k => !decide (xT σ k.toNatClampNeg = 10)) (σ.1 9 1) (σ.1 9 3) = zSc (fun k => !decide (yT τ k.toNatClampNeg = 10)) (τ.1 25 18) a
    rw [hT, hlen, ha]
  refine ⟨hE, ?_⟩
  have b1 := zSc_b (p := fun k => !decide (yT τ k.toNatClampNeg = 10)) (e := τ.1 25 18) (a := a) h1
  have e1 : zSc (fun k => !decide (yT τ k.toNatClampNeg = 10)) (τ.1 25 18) a = yEol τ a := rfl
  rw [e1] at b1
  have b2 := zSc_b (p := fun k => !decide (yT τ k.toNatClampNeg = 32)) (e := yEol τ a) (a := a) b1.1
  have b3 := zSc_b (p := fun k => decide (yT τ k.toNatClampNeg = 32)) (e := yEol τ a) (a := yLe τ a (yEol τ a)) b2.2
  have hO : (yO τ a (yEol τ a)).toInt ≤ (yEol τ a).toInt := b3.2
  have hrl := hy.2.2.2 hb (by omega) (by omega)
  exact line_ok' (aR_line h hcur) rfl hT ha hE h0 b1.1 (by omega) (fun k k0 k1 => hch k k0 (by omega)) hb hc hrl
