/-! A LABEL: both sides -/
variable {σ π : zS} {fi : Nat}
abbrev kLb (σ σ1 : zS) : Prop := σ1.1 9 1 = σ.1 9 1 ∧ σ1.1 9 3 = σ.1 9 3 ∧ xLe σ1 = xLe σ ∧ σ1.1 11 10 = σ.1 11 10 ∧ σ1.1 11 11 = σ.1 11 11 ∧ xWc σ1 = xWc σ ∧ xT σ1 = xT σ
abbrev kPb (π π1 : zS) : Prop := kY π π1 ∧ yP π1 = yP π ∧ yE π1 = yE π ∧ yB π1 = yB π ∧ yWt π1 = yWt π ∧ yPl π1 = yPl π
def labB (π : zS) (a b : Int32) : Prop := ¬ zRun (yT π) b a = b ∨ (a < b ∧ ¬ zLoc (yT π) a b 72 ∧ (¬ yIs (yT π) a b ∨ ySL π (yNm π a b) = none))
def labG (σ σ1 π : zS) (a b : Int32) (fi : Nat) : Prop := zRun (yT π) b a = b ∧ xAt σ1 = b ∧ kLb σ σ1 ∧ ((¬ a < b ∧ xLKd σ1 = 0 ∧ aR σ1 π fi) ∨ (a < b ∧ zLoc (yT π) a b 72 ∧ xLKd σ1 = 3 ∧ xLd σ1 = yT π a.toNatClampNeg - 48 ∧ aR σ1 π fi) ∨ (a < b ∧ ¬ zLoc (yT π) a b 72 ∧ yIs (yT π) a b ∧ xLKd σ1 = 2 ∧ ∃ s π1, ySL π (yNm π a b) = some (s, π1) ∧ xLsy σ1 = s ∧ 0 ≤ s.toInt ∧ s.toInt < (xCn σ1).toInt ∧ aR σ1 π1 fi ∧ kPb π π1))
theorem lab_ok (h : aR σ π fi) (hT : xT σ = yT π) (h0 : 0 ≤ (xAt σ).toInt) (h1 : (xAt σ).toInt ≤ (xLe σ).toInt) (h240 : (xLe σ).toInt ≤ 240) {o : zO} {σ1 : zS} (hc : zLblR σ o σ1) : (o = .inr 0 ∧ labB π (xAt σ) (zStop (yT π) (xLe σ) (xAt σ))) ∨ (o = .inl none ∧ labG σ σ1 π (xAt σ) (zStop (yT π) (xLe σ) (xAt σ)) fi) := by
  have hst : xSt σ = zStop (yT π) (xLe σ) (xAt σ) := by
    show zStop (xT σ) (xLe σ) (xAt σ) = _
    rw [hT]
  have hsl := zSc_le (fun k => !decide (yT π k.toNatClampNeg = 32)) (xLe σ) (xAt σ)
  have hq' : zSc (fun k => !decide (yT π k.toNatClampNeg = 32)) (xLe σ) (xAt σ) = zStop (yT π) (xLe σ) (xAt σ) := rfl
  rw [hq', ← hst] at hsl
  rw [← hst]
  have hb240 : (xSt σ).toInt ≤ 240 := by
    rcases hsl.2.1 with k | k
    · omega
    · rw [k]
      omega
  have hlq : xLq σ = zRun (yT π) (xSt σ) (xAt σ) := by
    show zRun (xT σ) (xSt σ) (xAt σ) = _
    rw [hT]
  obtain ⟨n, hd, hn, hq, hi, hpl⟩ := run_ok (T := yT π) (e := xSt σ) (p := xAt σ) h0 (by omega) hb240
  have hrl := zSc_le (fun k => zPb (yT π k.toNatClampNeg)) (xSt σ) (xAt σ)
  have hq2 : zSc (fun k => zPb (yT π k.toNatClampNeg)) (xSt σ) (xAt σ) = zRun (yT π) (xSt σ) (xAt σ) := rfl
  rw [hq2] at hrl
  have hqb : (zRun (yT π) (xSt σ) (xAt σ)).toInt ≤ (xSt σ).toInt := by
    rcases hrl.2.1 with k | k
    · exact k
    · rw [k]
      exact hsl.1
  have hlt : xLq σ < xSt σ ↔ ¬ zRun (yT π) (xSt σ) (xAt σ) = xSt σ := by
    rw [hlq, Int32.lt_iff_toInt_lt]
    constructor
    · intro k e
      rw [e] at k
      omega
    · intro k
      have : ¬ (zRun (yT π) (xSt σ) (xAt σ)).toInt = (xSt σ).toInt := fun e => k (Int32.toInt_inj.mp e)
      omega
  rcases hc with ⟨c1, c2, c3⟩ | ⟨c1, c2⟩
  · right
    have hab : xSt σ = xAt σ := by
      apply Int32.toInt_inj.mp
      rw [Int32.lt_iff_toInt_lt] at c1
      omega
    refine ⟨c2, ?_⟩
    subst c3
    have hrun : zRun (yT π) (xSt σ) (xAt σ) = xSt σ := by
      apply Int32.toInt_inj.mp
      rw [hab] at hqb hrl ⊢
      omega
    exact ⟨hrun, hab.symm, ⟨rfl, rfl, rfl, rfl, rfl, rfl, rfl⟩, .inl ⟨c1, rfl, h⟩⟩
  · by_cases hrun : zRun (yT π) (xSt σ) (xAt σ) = xSt σ
    · have hnq : ¬ xLq σ < xSt σ := fun k => hlt.1 k hrun
      have hqe : xLq σ = xSt σ := hlq.trans hrun
      have hab := Int32.lt_iff_toInt_lt.mp c1
      rw [hrun] at hd hq hi
      have hN : xLn σ = n := by
        show zDn (xAt σ) (xLq σ) = n
        rw [hqe]
        exact hd
      have eK : xLk σ = zKn (yT π) (xAt σ) n := by
        show zKn (xT σ) (xAt σ) (xLn σ) = _
        rw [hN, hT]
      have eM : xLm σ = zPk (yT π) (xAt σ) (min n 6) := by
        show zPk (xT σ) (xAt σ) (min (xLn σ) 6) = _
        rw [hN, hT]
      have bad : ¬ zLoc (yT π) (xAt σ) (xSt σ) 72 → ¬ yIs (yT π) (xAt σ) (xSt σ) → ¬ xLk σ = 2 → ¬ xLk σ = 3 → (o = .inr 0 ∧ labB π (xAt σ) (xSt σ)) := fun b1 b2 b3 b4 => by
        refine ⟨?_, .inr ⟨c1, b1, .inl b2⟩⟩
        rcases c2 with ⟨d1, d2⟩ | ⟨d1, d2, d3⟩ | ⟨d1, d2, d3⟩
        · exact d2.1
        · exact absurd d2 b4
        · exact absurd d2 b3
      rcases kindOf (by omega) hn hq hd hpl with ⟨a, b, c⟩ | ⟨a, b, c⟩ | ⟨a, b, c⟩ | ⟨a, b, c⟩ | ⟨a, b, c⟩ | ⟨a, b, b2, c⟩ | ⟨a, b, b2, b3, c⟩
      · refine .inl (bad (fun g => ?_) (fun g => ?_) (by rw [eK, c]; decide) (by rw [eK, c]; decide))
        · have h2 : n = 2 := (ofN_inj (b := 2) (by omega) (by omega)).1 (hq.symm.trans g.1)
          have := yCap_dig n a 1 (by omega)
          rw [zChr_1, g.2.2] at this
          exact absurd this (by decide)
        · have := g.1
          rw [hd, a] at this
          cases this
      · refine .inl (bad (fun g => ?_) (fun g => ?_) (by rw [eK, c]; decide) (by rw [eK, c]; decide))
        · have h2 : n = 2 := (ofN_inj (b := 2) (by omega) (by omega)).1 (hq.symm.trans g.1)
          omega
        · have := g.1
          rw [hd, a] at this
          cases this
      · exact .inl (bad (fun g => absurd (b.2.2.symm.trans g.2.2) (by decide)) (fun g => g.2.2.2.1 b) (by rw [eK, c]; decide) (by rw [eK, c]; decide))
      · exact .inl (bad (fun g => absurd (b.2.2.symm.trans g.2.2) (by decide)) (fun g => g.2.2.2.2 b) (by rw [eK, c]; decide) (by rw [eK, c]; decide))
      · have h2 : n = 2 := (ofN_inj (b := 2) (by omega) (by omega)).1 (hq.symm.trans b.1)
        have e0 : zD0 (xLm σ) = yT π (xAt σ).toNatClampNeg - 48 := by
          rw [eM, h2, show min 2 6 = 2 from rfl, zD0_pk (by omega) (by omega) (fun i hi => zPb_128 (hpl i (by omega))), zChr_0]
        rcases c2 with ⟨d1, d2⟩ | ⟨d1, d2, nm, ln, cp, nu, d3, d4⟩ | ⟨d1, d2, d3⟩
        · exact absurd ⟨hnq, .inr (by rw [eK, c])⟩ d1
        · right
          refine ⟨d3, hrun, ?_, ?_, .inr (.inl ⟨c1, b, ?_, ?_, ?_⟩)⟩
          · rw [← d4]
            exact hqe
          · rw [← d4]
            exact ⟨rfl, rfl, rfl, rfl, rfl, rfl, rfl⟩
          · rw [← d4]
            rfl
          · rw [← d4, ← e0]
            rfl
          · rw [← d4]
            exact h
        · rw [eK, c] at d2
          exact absurd d2 (by decide)
      · have e8 : xLm σ = yNm π (xAt σ) (xSt σ) := by
          rw [eM]
          show _ = zPk (yT π) (xAt σ) (min (zDn (xAt σ) (xSt σ)) 8)
          rw [hd, (min6 b2).1, (min6 b2).2]
        have hs := sym_find (aR_sym h) (yNm π (xAt σ) (xSt σ))
        have h30 := h.nm.1
        have hcc := tn_i h30.1
        have hcn := h.cn
        rcases c2 with ⟨d1, d2⟩ | ⟨d1, d2, d3⟩ | ⟨d1, d2, d3⟩
        · exact absurd ⟨hnq, .inl (by rw [eK, c])⟩ d1
        · rw [eK, c] at d2
          exact absurd d2 (by decide)
        · rw [e8] at d3
          unfold labB labG
          generalize yNm π (xAt σ) (xSt σ) = M at *
          rcases hs with ⟨i, s1, s2, s3, s4, s5, s6⟩ | ⟨s1, s2, s3⟩
          · have hv := h.vl i s1
            have hnn : ¬ yFd π M < 0 := by
              rw [s6]
              exact ofN_ge (by omega)
            have hsl : ySL π M = if yHas π (yFd π M) then none else some (yFd π M, π) := by
              unfold ySL
              rw [if_pos hnn]
            have hhas : yHas π (yFd π M) ↔ ¬ π.2.2.1 36 i = 0 := by
              show ¬ π.2.2.1 36 (yFd π M).toNatClampNeg = 0 ↔ _
              rw [s6, tn_of (by omega)]
            rcases d3 with ⟨e1, e2⟩ | ⟨nm, ln, cp, nu, e1⟩
            · exact absurd s5 e1.1
            · rcases e1 with ⟨e2, e3, e4⟩ | ⟨e2, e3⟩
              · have e4' : (¬ σ.2.2.1 14 (xIx σ M).toNatClampNeg = -1 ∧ zFl σ o σ1) ∨ (σ.2.2.1 14 (xIx σ M).toNatClampNeg = -1 ∧ zN (zI (zI (zTs (zLb0 σ) (xLq σ) nm ln cp nu) 11 12 2) 11 13 (xIx σ M)) o σ1) := e4
                rw [s4, tn_of (by omega)] at e4'
                rcases e4' with ⟨e5, e6⟩ | ⟨e5, e6, e7⟩
                · left
                  refine ⟨e6.1, .inr ⟨c1, b.2.2.1, .inr ?_⟩⟩
                  rcases hv with ⟨v1, v2⟩ | ⟨v1, v2, v3⟩
                  · exact absurd v1 e5
                  · rw [hsl, if_pos (hhas.2 v3)]
                · right
                  have v0 : π.2.2.1 36 i = 0 := by
                    rcases hv with ⟨v1, v2⟩ | ⟨v1, v2, v3⟩
                    · exact v2
                    · exact absurd e5 (wOk_ne v1)
                  have hin := zOfI (n := i) (by omega)
                  refine ⟨e6, hrun, ?_, ?_, .inr (.inr ⟨c1, b.2.2.1, b, ?_, Int32.ofNat i, π, ?_, ?_, by omega, ?_, ?_, ⟨rfl, rfl, rfl⟩, rfl, rfl, rfl, rfl, rfl⟩)⟩
                  · rw [← e7]
                    exact hqe
                  · rw [← e7]
                    exact ⟨rfl, rfl, rfl, rfl, rfl, rfl, rfl⟩
                  · rw [← e7]
                    rfl
                  · rw [hsl, if_neg (fun k => hhas.1 k v0), s6]
                  · rw [← e7]
                    rfl
                  · rw [← e7]
                    show (Int32.ofNat i).toInt < (xCn σ).toInt
                    omega
                  · rw [← e7]
                    exact h
              · exact absurd s5 e2
          · have hneg : yFd π M < 0 := by
              rw [s3]
              decide
            have hsl : ySL π M = if yCn π = 30 then none else some (yCn π, yNew π M) := by
              unfold ySL
              rw [if_neg (fun k => k hneg)]
            rcases d3 with ⟨e1, e2⟩ | ⟨nm, ln, cp, nu, e1⟩
            · left
              refine ⟨e2.1, .inr ⟨c1, b.2.2.1, .inr ?_⟩⟩
              rw [hsl, if_pos]
              have := e1.2
              rw [Int32.lt_iff_toInt_lt, show (30 : Int32).toInt = 30 from rfl] at this
              rw [← hcn]
              apply Int32.toInt_inj.mp
              show (xCn σ).toInt = 30
              omega
            · rcases e1 with ⟨e2, e3⟩ | ⟨e2, e3, e4, e5, e6⟩
              · exact absurd e2 s2
              · have e3' : xCn σ < 30 := e3
                have hN := aR_new h s1 e3'
                have hi1 := zInc e3'
                have hnew : upd (σ.2.2.1 14) (xCn σ).toNatClampNeg (-1) (xCn σ).toNatClampNeg = -1 := by
                  rw [upd_eq, if_pos rfl]
                have e6' : (¬ upd (σ.2.2.1 14) (xCn σ).toNatClampNeg (-1) (xCn σ).toNatClampNeg = -1 ∧ zFl σ o σ1) ∨ (upd (σ.2.2.1 14) (xCn σ).toNatClampNeg (-1) (xCn σ).toNatClampNeg = -1 ∧ zN (zI (zNew (zI (zTs (zLb0 σ) (xLq σ) nm ln cp nu) 11 12 2) M) 11 13 (xCn σ)) o σ1) := e6
                rcases e6' with ⟨e7, e8⟩ | ⟨e7, e8, e9⟩
                · exact absurd hnew e7
                · right
                  refine ⟨e8, hrun, ?_, ?_, .inr (.inr ⟨c1, b.2.2.1, b, ?_, xCn σ, yNew π M, ?_, ?_, h30.1, ?_, ?_, ⟨rfl, rfl, rfl⟩, rfl, rfl, rfl, rfl, rfl⟩)⟩
                  · rw [← e9]
                    exact hqe
                  · rw [← e9]
                    exact ⟨rfl, rfl, rfl, rfl, rfl, rfl, rfl⟩
                  · rw [← e9]
                    rfl
                  · rw [hsl, if_neg, hcn]
                    intro k
                    rw [hcn, k] at e3'
                    exact absurd e3' (by decide)
                  · rw [← e9]
                    rfl
                  · rw [← e9]
                    show (xCn σ).toInt < (xCn σ + 1).toInt
                    omega
                  · rw [← e9]
                    exact hN
      · exact .inl (bad b2.2.2 b (by rw [eK, c]; decide) (by rw [eK, c]; decide))
    · left
      refine ⟨?_, .inl hrun⟩
      rcases c2 with ⟨d1, d2⟩ | ⟨d1, d2, d3⟩ | ⟨d1, d2, d3⟩
      · exact d2.1
      · exact absurd (hlt.2 hrun) d1
      · exact absurd (hlt.2 hrun) d1
