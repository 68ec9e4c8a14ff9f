/-! AN INSTRUCTION: both sides -/
variable {σ τ : zS} {fi : Nat}
theorem i_m1 : (-1 : Int32).toInt = -1 := rfl
theorem yH_neg (ho : oR σ τ) : yH τ (yP τ) < 0 ↔ ¬ yP τ < yE τ := by
  obtain ⟨hT, hA, he, h0, h1, h240, hch⟩ := ho
  show (if yP τ < yE τ then yT τ (yP τ).toNatClampNeg else -1) < 0 ↔ _
  by_cases g : yP τ < yE τ
  · rw [if_pos g]
    have := hch (yP τ) h0 (Int32.lt_iff_toInt_lt.mp g)
    constructor
    · intro k
      rw [Int32.lt_iff_toInt_lt, i0, uN_int, if_pos (by omega)] at k
      omega
    · intro k
      exact absurd g k
  · rw [if_neg g]
    exact ⟨fun _ => g, fun _ => by decide⟩
theorem apart_ok (h : aR σ τ fi) (ho : oR σ τ) (hb : yB τ = 0) {o : zO} {σ1 τ1 : zS} {x : Int32} (hc : zApR σ o σ1) (hy : yApC τ x τ1) : apRes σ τ fi o σ1 x τ1 := by
  have ho' := ho
  have hneg := yH_neg ho
  have hxy : ∀ c : Int32, ¬ c = -1 → (xH σ c ↔ yH τ (yP τ) = c) := fun c hc => by
    show (xAt σ < xPe σ ∧ xT σ (xAt σ).toNatClampNeg = c) ↔ _
    rw [xH_yH ho hc, ho.2.1]
  have h44 := hxy 44 (by decide)
  have h40 := hxy 40 (by decide)
  have h61 := hxy 61 (by decide)
  obtain ⟨hT, hA, he, h0, h1, h240, hch⟩ := ho
  have hE := aR_eRel h hT he h240
  have hemp : (xAt σ < xPe σ → xH σ 44 ∨ xH σ 40) ↔ yEmp τ := by
    rw [h44, h40, hA, he]
    constructor
    · intro k
      by_cases g : yP τ < yE τ
      · exact .inr (k g)
      · exact .inl (hneg.2 g)
    · intro k g
      rcases k with k | k
      · exact absurd g (hneg.1 k)
      · exact k
  have h6e : yH τ (yP τ) = 61 → ¬ yEmp τ := fun k g => by
    rcases g with g | g | g
    · rw [k] at g
      exact absurd g (by decide)
    · rw [k] at g
      exact absurd g (by decide)
    · rw [k] at g
      exact absurd g (by decide)
  rcases hc with ⟨c1, c2⟩ | ⟨⟨c1, c2, c3⟩, c4⟩
  · have k := hemp.1 c1
    rcases hy with ⟨y1, y2⟩ | ⟨y1, y2, y3, y4⟩ | ⟨y1, y2, y3⟩
    · exact absurd k (h6e y1)
    · right; right
      rw [y3, yOf0, ← y4, ← c2.2]
      exact ⟨c2.1, mag0, hb, ho', hE, h.pl, apFin_no h rfl, ⟨rfl, rfl, rfl, rfl, rfl, rfl, rfl, rfl, rfl, rfl⟩, ⟨rfl, rfl, rfl⟩⟩
    · exact absurd k y2
  · have k : ¬ yEmp τ := fun g => (hemp.2 g c1).elim c2 c3
    rcases hy with ⟨y1, y2⟩ | ⟨y1, y2, y3, y4⟩ | ⟨y1, y2, y3⟩
    · rcases c4 with ⟨c5, c6⟩ | ⟨c5, c6⟩
      · exact apL_ok h ho' hb y1 c6 y2
      · exact absurd (h61.2 y1) c5
    · exact absurd y2 k
    · rcases c4 with ⟨c5, c6⟩ | ⟨c5, c6⟩
      · exact absurd (h61.1 c5) y1
      · exact apN_ok h ho' hb c6 y3
theorem instr_ok (h : aR σ τ fi) (ho : oR σ τ) (hb : yB τ = 0) {n : Int32} (hq : opRel (xOp σ) (σ.1 11 16) n) (hins : zCd (xOp σ) < 64) {o : zO} {σ' τ' : zS} (hc : zInR σ o σ') (hy : yInR τ n (.inl none) τ') : (o = .inr 0 ∧ ¬ yB τ' = 0) ∨ (o = .inl none ∧ yB τ' = 0 ∧ aR σ' τ' fi ∧ kS σ σ' ∧ kY τ τ') := by
  obtain ⟨o1, σ1, c1, c2⟩ := hc
  obtain ⟨x, τ1, ⟨x', yx, _, _, ya⟩, _, _, yb, yc⟩ := hy
  cases yx
  have hbnd : (yP τ).toInt ≤ 1000 ∧ (yE τ).toInt ≤ 240 := by
    obtain ⟨hT, hA, he, h0, h1, h240, hch⟩ := ho
    exact ⟨by omega, h240⟩
  have hap := apart_ok h ho hb c1 (ya hb hbnd)
  rcases hap with ⟨a1, a2⟩ | ⟨a, a1, a2, a3, a4⟩ | ⟨a1, a2, a3, a4, a5, a6, a7, a8, a9⟩
  · rcases c2 with ⟨c3, c4, c5⟩ | ⟨a, c3, c4⟩
    · exact .inl ⟨c4, yb a2⟩
    · rw [a1] at c3
      cases c3
  · left
    refine ⟨?_, yb a2⟩
    rcases c2 with ⟨c3, c4, c5⟩ | ⟨a', c3, c4⟩
    · rw [a1] at c3
      cases c3
    · rcases c4 with ⟨d1, d2⟩ | ⟨i, f, d1, d2⟩
      · exact d2.1
      · rcases d2 with ⟨d3, d4⟩ | ⟨d3, d4⟩
        · exact d4.1
        · rcases d4 with ⟨d5, d6⟩ | ⟨d5, d6⟩
          · exact absurd d5 a3
          · rcases d6 with ⟨d7, d8⟩ | ⟨d7, d8⟩
            · exact d8.1
            · exact absurd d7.1 a4
  · rcases c2 with ⟨c3, c4, c5⟩ | ⟨a', c3, c4⟩
    · rw [a1] at c3
      cases c3
    · rw [a1] at c3
      cases c3
      have ho1 := a4
      obtain ⟨hT, hA, he, h0, h1, h240, hch⟩ := a4
      have hyi := yInP_if (yc a3 ⟨by omega, h240⟩)
      have hxo : xOp σ1 = xOp σ := a8.2.2.2.2.2.2.2.2.1
      have hx16 : σ1.1 11 16 = σ.1 11 16 := a8.2.2.2.2.2.2.2.1
      obtain ⟨q0, q1, q2, q3, q4, q5, q6, q7, q8, q9, q10⟩ := hq
      have hif := if_ok a5 h240 (c := zCd (xOp σ)) (n := n) (f := zFf (xOp σ)) q7 q9 h0 h1
      have hxi : xIF σ1 = yIF τ1 n (yF0 n) (yP τ1) := by
        show sIF (xE σ1) (xT σ1) (xPe σ1) (zCd (xOp σ1)) (zFf (xOp σ1)) (xAt σ1) = _
        rw [hT, he, hA, hxo, hif.1, q8]
      rw [q8] at hif
      rcases c4 with ⟨d1, d2⟩ | ⟨i, f, d1, d2⟩
      · rw [hxi] at d1
        rcases hyi with ⟨e1, e2⟩ | ⟨i', f', qq, e1, e2⟩
        · exact .inl ⟨d2.1, e2⟩
        · rw [e1] at d1
          cases d1
      · rw [hxi] at d1
        rcases hyi with ⟨e1, e2⟩ | ⟨i', f', qq, e1, e2⟩
        · rw [e1] at d1
          cases d1
        · rw [e1] at d1
          cases d1
          have hbd : uN i ≤ 6 ∧ uN f ≤ 63 := hif.2 _ e1
          have hcc := q10 hins
          have hw := zWd_yWd (i := i) (f := f) (c := σ.1 11 16) (v := x) (n := n) hbd.1 hbd.2 hcc.1 hcc.2 a2
          rw [a6] at d2
          rw [hx16, hw.1] at d2
          rcases d2 with ⟨d3, d4⟩ | ⟨d3, d4⟩
          · rcases e2 with ⟨e3, e4⟩ | ⟨e3, e4⟩
            · exact .inl ⟨d4.1, e4⟩
            · exact absurd (plc_zy.2 e3) d3
          · rcases e2 with ⟨e3, e4⟩ | ⟨e3, e4⟩
            · exact absurd (plc_zy.1 d3) e3
            · have hF := a7 _ hw.2 e3
              rcases d4 with ⟨d5, q', nm, ln, cp, nu, d6, d7⟩ | ⟨d5, d6⟩
              · right
                have hR := hF.1 d5
                rw [← d7, ← e4]
                exact ⟨d6, rfl, hR, kS_tr a8 ⟨rfl, rfl, rfl, rfl, rfl, rfl, rfl, rfl, rfl, rfl⟩, kY_tr a9 ⟨rfl, rfl, rfl⟩⟩
              · have hG := hF.2 d5
                rcases d6 with ⟨d7, d8⟩ | ⟨d7, q', nm, ln, cp, nu, d8, d9⟩
                · exact absurd hG.1 d7
                · right
                  have hR := hG.2.2
                  rw [a6] at hR
                  rw [← d9, ← e4]
                  exact ⟨d8, rfl, hR, kS_tr a8 ⟨rfl, rfl, rfl, rfl, rfl, rfl, rfl, rfl, rfl, rfl⟩, kY_tr a9 ⟨rfl, rfl, rfl⟩⟩
