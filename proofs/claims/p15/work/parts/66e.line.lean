/-! A LINE: both sides -/
variable {σ τ : zS} {fi : Nat}
theorem zSc_b {p : Int32 → Bool} {e a : Int32} (h : a.toInt ≤ e.toInt) : a.toInt ≤ (zSc p e a).toInt ∧ (zSc p e a).toInt ≤ e.toInt := by
  have h1 := zSc_le p e a
  refine ⟨h1.1, ?_⟩
  rcases h1.2.1 with k | k
  · exact k
  · rw [k]
    exact h
theorem run_whole {T : Nat → Int32} {a b e : Int32} (h : zRun T b a = b) (hbe : b.toInt ≤ e.toInt) : ¬ zRun T e a < b := by
  intro k
  rw [Int32.lt_iff_toInt_lt] at k
  have h1 := zSc_le (fun k => zPb (T k.toNatClampNeg)) e a
  have hq : zSc (fun k => zPb (T k.toNatClampNeg)) e a = zRun T e a := rfl
  rw [hq] at h1
  have h2 := h1.2.2 (by omega)
  have h3 := zSc_all (p := fun k => zPb (T k.toNatClampNeg)) (e := b) (a := a) (k := zRun T e a) h1.1 (by
    show (zRun T e a).toInt < (zRun T b a).toInt
    rw [h]
    exact k)
  have h2' : zPb (T (zRun T e a).toNatClampNeg) = false := h2
  have h3' : zPb (T (zRun T e a).toNatClampNeg) = true := h3
  rw [h2'] at h3'
  cases h3'
/-- what is kept from line to line -/
abbrev kLn (σ σ' : zS) : Prop := σ'.1 9 1 = σ.1 9 1 ∧ σ'.1 9 3 = σ.1 9 3 ∧ σ'.1 11 10 = σ.1 11 10 ∧ σ'.1 11 11 = σ.1 11 11 ∧ xT σ' = xT σ
abbrev lnS (σ τ : zS) (fi : Nat) (o : zO) (σ' τ' : zS) : Prop := (o = .inr 0 ∧ ¬ yB τ' = 0) ∨ (o = .inl none ∧ yB τ' = 0 ∧ aR σ' τ' fi ∧ kLn σ σ' ∧ kY τ τ') ∨ (o = .inl none ∧ σ'.1 11 10 = 1 ∧ enR σ' τ' fi)
/-- behind label and operation -/
theorem opn_ok {σ1 π : zS} {a b t hh s n : Int32} (h : aR σ1 π fi) (hT : xT σ1 = yT π) (hle : xLe σ1 = t) (hb : yB π = 0) (hall : fi = (xWc σ1).toNatClampNeg) {oo oe : Int32} (h0 : 0 ≤ oo.toInt) (h1 : oo.toInt < oe.toInt) (h2 : oe.toInt ≤ t.toInt) (h240 : t.toInt ≤ 240) (hch : chR (yT π) t) (hoo : xO1 σ1 = oo) (hoe : xOe σ1 = oe) (hn : n = yOpn' π oo oe) (hP : yP π = zSkip (yT π) t oe) (hE : yE π = zStop (yT π) t (zSkip (yT π) t oe)) (l : lbR σ1 π a hh s) (hlab : xLKd σ1 = 0 ↔ ¬ a < b) {o : zO} {σ' τ' : zS} (hc : zSq (zOpR σ1) (fun σ2 => zSq (zChR σ2) zL3) o σ') (hyb : ¬ (¬ n < 0 ∧ ¬ (n = 100 ∧ ¬ a < b) ∧ ¬ (n = 103 ∧ a < b)) → ¬ yB τ' = 0) (hyg : (¬ n < 0 ∧ ¬ (n = 100 ∧ ¬ a < b) ∧ ¬ (n = 103 ∧ a < b)) → yMid π a hh s n (yOf (yPl π)) (yWt π) τ') : lnS σ1 π fi o σ' τ' := by
  have hop := op_ok (T := yT π) h0 h1 (by omega) (fun k k0 k1 => hch k k0 (by omega))
  have hyn : n = yOp (if oe - oo < 6 then zPk (yT π) oo (min (zDn oo oe) 8) else 0) (oe - oo) (yT π (oe - 1).toNatClampNeg) := hn
  rw [← hyn] at hop
  obtain ⟨o1, σ2, c1, c2⟩ := hc
  have hoq : xOq σ1 = zRun (yT π) oe oo := by
    show zRun (xT σ1) (xOe σ1) (xO1 σ1) = _
    rw [hT, hoo, hoe]
  have hom : xOm σ1 = zPk (yT π) oo (min (zDn oo (zRun (yT π) oe oo)) 6) := by
    show zPk (xT σ1) (xO1 σ1) (min (zDn (xO1 σ1) (xOq σ1)) 6) = _
    rw [hT, hoo, hoq]
  have c1' : zOpP σ1 oo oe (zRun (yT π) oe oo) (zPk (yT π) oo (min (zDn oo (zRun (yT π) oe oo)) 6)) o1 σ2 := by
    rw [← hom, ← hoq, ← hoo, ← hoe]
    exact c1
  rcases hop with ⟨p1, p2⟩ | ⟨q, c, p1, p2, p3⟩
  · left
    refine ⟨?_, hyb (fun k => k.1 p2)⟩
    rcases c1' with ⟨d1, d2⟩ | ⟨q, c, d1, d2, d3⟩
    · rcases c2 with ⟨e1, e2, e3⟩ | ⟨e1, e2⟩
      · exact e2
      · rw [d2.1] at e1
        cases e1
    · rcases p1 with p1 | p1
      · rw [p1] at d1
        cases d1
      · exact absurd p1 d2
  · rcases c1' with ⟨d1, d2⟩ | ⟨q', c', d1, d2, ln, cp, nu, d3, d4⟩
    · rcases d1 with d1 | d1
      · rw [d1] at p1
        cases p1
      · exact absurd d1 p2
    · rw [p1] at d1
      cases d1
      have hq1 : zRun (yT π) oe oo = oe := by
        have := zSc_b (p := fun k => zPb (yT π k.toNatClampNeg)) (e := oe) (a := oo) (by omega)
        have e : zSc (fun k => zPb (yT π k.toNatClampNeg)) oe oo = zRun (yT π) oe oo := rfl
        rw [e] at this
        rw [Int32.lt_iff_toInt_lt] at p2
        apply Int32.toInt_inj.mp
        omega
      rcases c2 with ⟨e1, e2, e3⟩ | ⟨e1, o2, σ3, e2, e3⟩
      · rw [d3] at e1
        cases e1
      · have hR : aR σ2 π fi := by
          rw [← d4]
          exact h
        have hO : xOp σ2 = q := by
          rw [← d4]
          rfl
        have h16 : σ2.1 11 16 = c := by
          rw [← d4]
          rfl
        have hK : xLKd σ2 = xLKd σ1 := by
          rw [← d4]
          rfl
        have kk : kLn σ1 σ2 := by
          rw [← d4]
          exact ⟨rfl, rfl, rfl, rfl, rfl⟩
        have hall2 : fi = (xWc σ2).toNatClampNeg := by
          rw [← d4]
          exact hall
        have l2 : lbR σ2 π a hh s := by
          rw [← d4]
          exact l
        have b1 := zSc_b (p := fun k => decide (yT π k.toNatClampNeg = 32)) (e := t) (a := oe) h2
        have b2 := zSc_b (p := fun k => !decide (yT π k.toNatClampNeg = 32)) (e := t) (a := zSkip (yT π) t oe) b1.2
        have hoR : oR σ2 π := by
          refine ⟨?_, ?_, ?_, ?_, ?_, ?_, ?_⟩
          · rw [← d4]
            exact hT
          · rw [← d4]
            show zSkip (xT σ1) (xLe σ1) (zRun (yT π) oe oo) = yP π
            rw [hT, hle, hq1, hP]
          · rw [← d4]
            show zStop (xT σ1) (xLe σ1) (zSkip (xT σ1) (xLe σ1) (zRun (yT π) oe oo)) = yE π
            rw [hT, hle, hq1, hE]
          · rw [hP]
            show 0 ≤ (zSkip (yT π) t oe).toInt
            have : oe.toInt ≤ (zSkip (yT π) t oe).toInt := b1.1
            omega
          · rw [hP, hE]
            exact b2.1
          · rw [hE]
            have : (zStop (yT π) t (zSkip (yT π) t oe)).toInt ≤ t.toInt := b2.2
            omega
          · intro k k0 k1
            rw [hE] at k1
            have : (zStop (yT π) t (zSkip (yT π) t oe)).toInt ≤ t.toInt := b2.2
            exact hch k k0 (by omega)
        have hchk : ((xOp σ2 = 48 ∧ xLKd σ2 = 0) ∨ (xOp σ2 = 51 ∧ ¬ xLKd σ2 = 0)) ↔ ¬ (¬ n < 0 ∧ ¬ (n = 100 ∧ ¬ a < b) ∧ ¬ (n = 103 ∧ a < b)) := by
          obtain ⟨q0, q1', q2, q3, q4, q5, _⟩ := p3
          rw [hO, hK, q2, q5, hlab]
          constructor
          · intro k g
            rcases k with k | k
            · exact g.2.1 k
            · exact g.2.2 ⟨k.1, Decidable.byContradiction k.2⟩
          · intro k
            apply Decidable.byContradiction
            intro g
            exact k ⟨q0, fun w => g (.inl w), fun w => g (.inr ⟨w.1, fun z => z w.2⟩)⟩
        rcases e2 with ⟨f1, f2⟩ | ⟨f1, f2, f3⟩
        · left
          refine ⟨?_, hyb (hchk.1 f1)⟩
          rcases e3 with ⟨g1, g2, g3⟩ | ⟨g1, g2⟩
          · exact g2
          · rw [f2.1] at g1
            cases g1
        · have hgood : ¬ n < 0 ∧ ¬ (n = 100 ∧ ¬ a < b) ∧ ¬ (n = 103 ∧ a < b) := Decidable.byContradiction fun k => f1 (hchk.2 k)
          subst f3
          rcases e3 with ⟨g1, g2, g3⟩ | ⟨g1, g2⟩
          · rw [f2] at g1
            cases g1
          · have hwt := h.wt
            have hm := mid_ok hR hoR hb hall2 l2 (by rw [hO, h16]; exact p3) (f := yWt π) (by rw [hall, hwt]; rfl) (fun k => by
              rw [hK]
              exact hlab.2 (fun w => hgood.2.2 ⟨k, w⟩)) g2 (hyg hgood)
            rcases hm with (m | ⟨m1, m2, m3, m4, m5⟩) | m
            · exact .inl m
            · right; left
              exact ⟨m1, m2, m3, ⟨m4.1.trans kk.1, m4.2.1.trans kk.2.1, m4.2.2.1.trans kk.2.2.1, m4.2.2.2.1.trans kk.2.2.2.1, m4.2.2.2.2.2.2.2.2.2.trans kk.2.2.2.2⟩, m5⟩
            · exact .inr (.inr m)
