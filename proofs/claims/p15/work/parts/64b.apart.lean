/-! THE A-PART: a literal, a name; both sides -/
variable {σ τ : zS} {fi : Nat}
theorem int200 {x : Int32} (h0 : 0 ≤ x.toInt) (h : x.toInt ≤ 1000) : (200 + x).toInt = 200 + x.toInt := by
  rw [Int32.toInt_add, show (200 : Int32).toInt = 200 from rfl, bm32 (by omega) (by omega)]
theorem int100 {x : Int32} (h0 : 0 ≤ x.toInt) (h : x.toInt ≤ 1000) : (100 + x).toInt = 100 + x.toInt := by
  rw [Int32.toInt_add, show (100 : Int32).toInt = 100 from rfl, bm32 (by omega) (by omega)]
theorem ne_m1 {x : Int32} (h : 0 ≤ x.toInt) : ¬ x = -1 := wOk_ne h
theorem xH_yH (ho : oR σ τ) {q c : Int32} (hc : ¬ c = -1) : (q < xPe σ ∧ xT σ q.toNatClampNeg = c) ↔ yH τ q = c := by
  rw [ho.1, ho.2.2.1]
  exact (yH_42 hc).symm
/-- waits at their end: sixty -/
theorem wt60 (h : aR σ τ fi) (h60 : yWt τ = 60) : ¬ xWc σ < 60 := by
  rw [h.wt, h60]
  decide
theorem yWF_ge {τ : zS} : ∀ (k : Nat) (w p : Int32) (b : Int32 × Int32), yWF τ k w p = some b → p.toInt < b.2.toInt ∧ b.2.toInt ≤ (yE τ).toInt
  | 0, _, _, _, h => by cases h
  | k + 1, w, p, b, h => by
    unfold yWF at h
    cases hx : yEx τ p with
    | none => rw [hx] at h; cases h
    | some x =>
      have g0 := yEx_gt hx
      have g1 := (yEx_ge hx).2
      rw [hx] at h
      dsimp only at h
      cases hf : yFl τ x.2 with
      | none => rw [hf] at h; cases h
      | some f =>
        have g2 := yFl_ge hf
        have g3 : f.2.toInt ≤ (yE τ).toInt := by
          rcases yFl_le hf with k | k
          · exact k
          · rw [k]
            exact g1
        rw [hf] at h
        dsimp only at h
        split at h
        · rename_i g
          have hi := zInc ((yH_42 (by decide)).1 g).1
          have := yWF_ge k _ _ b h
          omega
        · cases h
          exact ⟨by show p.toInt < f.2.toInt; omega, g3⟩
theorem yA_cong {τ τ' : zS} (h1 : yT τ = yT τ') (h2 : yE τ = yE τ') (h3 : yPl τ = yPl τ') (h4 : yCn τ = yCn τ') (h5 : τ.2.2.2.1 35 = τ'.2.2.2.1 35) (h6 : τ.2.2.1 36 = τ'.2.2.1 36) (h7 : τ.2.2.1 37 = τ'.2.2.1 37) (h8 : τ.2.2.1 39 = τ'.2.2.1 39) (h9 : τ.2.2.1 40 = τ'.2.2.1 40) : yA τ = yA τ' := by
  funext p
  simp only [yA, yNa, yH, yFd, yNm, yHas, yBk, h1, h2, h3, h4, h5, h6, h7, h8, h9]
theorem yEx_cong {τ τ' : zS} (h1 : yT τ = yT τ') (h2 : yE τ = yE τ') (h3 : yPl τ = yPl τ') (h4 : yCn τ = yCn τ') (h5 : τ.2.2.2.1 35 = τ'.2.2.2.1 35) (h6 : τ.2.2.1 36 = τ'.2.2.1 36) (h7 : τ.2.2.1 37 = τ'.2.2.1 37) (h8 : τ.2.2.1 39 = τ'.2.2.1 39) (h9 : τ.2.2.1 40 = τ'.2.2.1 40) : yEx τ = yEx τ' := by
  have e := yA_cong h1 h2 h3 h4 h5 h6 h7 h8 h9
  funext p
  simp only [yEx, yH, e, h1, h2]
theorem eRel_cong {E : Int32 → Option (Int64 × Int32)} {τ τ' : zS} (h : eRel E τ) (h1 : yT τ' = yT τ) (h2 : yE τ' = yE τ) (h3 : yPl τ' = yPl τ) (h4 : yCn τ' = yCn τ) (h5 : τ'.2.2.2.1 35 = τ.2.2.2.1 35) (h6 : τ'.2.2.1 36 = τ.2.2.1 36) (h7 : τ'.2.2.1 37 = τ.2.2.1 37) (h8 : τ'.2.2.1 39 = τ.2.2.1 39) (h9 : τ'.2.2.1 40 = τ.2.2.1 40) : eRel E τ' := by
  intro p a b
  rw [yEx_cong h1 h2 h3 h4 h5 h6 h7 h8 h9]
  exact h p a b
theorem apL_ok (h : aR σ τ fi) (ho : oR σ τ) (hb : yB τ = 0) {o : zO} {σ1 τ1 : zS} {x : Int32} (h61 : yH τ (yP τ) = 61) (hc : zApL σ o σ1) (hy : yApL τ x τ1) : apRes σ τ fi o σ1 x τ1 := by
  have hxy := fun q => xH_yH (σ := σ) ho (q := q) (c := 61) (by decide)
  obtain ⟨hT, hA, he, h0, h1, h240, hch⟩ := ho
  have hE := aR_eRel h hT he h240
  have hlt := (yH_42 (by decide)).1 h61
  have hi := zInc hlt.1
  have hl2 := Int32.lt_iff_toInt_lt.mp hlt.1
  have hw := words_ok' hE h240 (p := yP τ + 1) (by omega) (by omega)
  have hsw : sWF (xE σ) (xT σ) (xPe σ) 240 0 (xAt σ + 1) = yWs τ 0 (yP τ + 1) := by
    rw [hT, hA, he]
    exact hw.1
  have hlc := h.lc
  have hlr := h.lr
  have h20 : xLc σ < 20 ↔ ¬ yLc τ = 20 := by
    rw [← hlc, Int32.lt_iff_toInt_lt, show (20 : Int32).toInt = 20 from rfl]
    constructor
    · intro k e
      rw [e, show (20 : Int32).toInt = 20 from rfl] at k
      omega
    · intro k
      have : ¬ (xLc σ).toInt = 20 := fun e => k (Int32.toInt_inj.mp e)
      omega
  rcases hc with ⟨c1, c2⟩ | ⟨w, q, c1, c2⟩
  · rw [hsw] at c1
    rcases hy with ⟨y1, y2⟩ | ⟨w', q', y1, y2⟩
    · exact .inl ⟨c2.1, y2⟩
    · rw [y1] at c1
      cases c1
  · rw [hsw] at c1
    rcases hy with ⟨y1, y2⟩ | ⟨w', q', y1, y2⟩
    · rw [y1] at c1
      cases c1
    · rw [y1] at c1
      cases c1
      have hwo : wOk w := hw.2 _ y1
      rcases c2 with ⟨c3, c4⟩ | ⟨⟨c3, c3', c3''⟩, nm, ln, cp, nu, c4, c5⟩
      · left
        refine ⟨c4.1, ?_⟩
        rcases y2 with ⟨y3, y4⟩ | ⟨y3, y4⟩
        · exact y4
        · exact absurd ⟨(hxy q).2 y3.1, h20.2 y3.2.1⟩ c3
      · have hn200 : ¬ 200 + xLc σ = -1 := ne_m1 (by rw [int200 hlr.1 (by omega)]; omega)
        rcases y2 with ⟨y3, y4⟩ | ⟨y3, y4, y5, y6⟩
        · right; left
          refine ⟨0, c4, y4, ?_, ?_⟩
          · rw [← c5]
            exact hn200
          · rw [← c5]
            have h60 : yWt τ = 60 := Decidable.byContradiction fun k => y3 ⟨(hxy q).1 c3, h20.1 c3', k⟩
            show ¬ xWc σ < 60
            exact wt60 h h60
        · right; right
          have hq := (yH_42 (by decide)).1 y3.1
          have hq1 := zInc hq.1
          have hq2 := Int32.lt_iff_toInt_lt.mp hq.1
          have hgt : (yP τ).toInt ≤ q.toInt := by
            have g : (yP τ + 1).toInt < q.toInt := (yWF_ge _ _ _ _ y1).1
            omega
          have hL := aR_lit h (q := q + 1) (q' := q + 1) (b := 0) hwo c3'
          have hl1 := int1 hlr.1 (by omega)
          have hL2 : aR (zLit (zTs (zI σ 11 17 (-1)) (q + 1) nm ln cp nu) w) (zI (zA (zPb2 τ (q + 1) 0) 38 (upd (τ.2.2.1 38) (yLc τ).toNatClampNeg w)) 25 33 (yLc τ + 1)) fi := hL
          have ht : tgR (zI (zA (zPb2 τ (q + 1) 0) 38 (upd (τ.2.2.1 38) (yLc τ).toNatClampNeg w)) 25 33 (yLc τ + 1)) (200 + xLc σ) 2 (yLc τ) := by
            rw [← hlc]
            refine ⟨by rw [int200 hlr.1 (by omega), show (2 : Int32).toInt = 2 from rfl]; omega, by decide, ⟨hlr.1, by omega⟩, fun k => absurd k (by decide), fun _ => ?_⟩
            show (xLc σ).toInt < (xLc σ + 1).toInt
            omega
          have hF := apFin_add hL2 ht y3.2.2 hn200 (q := q + 1)
          have hE2 : eRel (xE (zLit (zTs (zI σ 11 17 (-1)) (q + 1) nm ln cp nu) w)) τ := hE
          rw [← c5, ← y6, y5, yOf0]
          refine ⟨c4, mag0, rfl, ⟨hT, rfl, he, ?_, ?_, h240, hch⟩, eRel_cong hE2 rfl rfl rfl rfl rfl rfl rfl rfl rfl, h.pl, fun w hw hp => hF w hw hp, ⟨rfl, rfl, rfl, rfl, rfl, rfl, rfl, rfl, rfl, rfl⟩, ⟨rfl, rfl, rfl⟩⟩
          · show 0 ≤ (q + 1).toInt
            omega
          · show (q + 1).toInt ≤ (yE τ).toInt
            omega
