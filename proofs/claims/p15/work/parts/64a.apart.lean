/-! THE A-PART: both sides -/
variable {σ τ : zS} {fi : Nat}
/-- characters -/
def chR (T : Nat → Int32) (e : Int32) : Prop := ∀ k : Int32, 0 ≤ k.toInt → k.toInt < e.toInt → 1 ≤ uN (T k.toNatClampNeg) ∧ uN (T k.toNatClampNeg) < 128
/-- both stand at the same place of the same part -/
abbrev oR (σ τ : zS) : Prop := xT σ = yT τ ∧ xAt σ = yP τ ∧ xPe σ = yE τ ∧ 0 ≤ (yP τ).toInt ∧ (yP τ).toInt ≤ (yE τ).toInt ∧ (yE τ).toInt ≤ 240 ∧ chR (yT τ) (yE τ)
theorem aR_aRel (h : aR σ τ fi) (hT : xT σ = yT τ) (he : xPe σ = yE τ) (h240 : (yE τ).toInt ≤ 240) : aRel (xA σ) τ := by
  intro p h0 h1
  have e := h.pl
  have hv := h.plv
  show sAtom (xT σ) (xPe σ) (xPl σ) (xL σ) (xD σ) p = _ ∧ _
  rw [hT, he, e]
  exact atom_ok (by rw [← e]; exact hv) (aR_l h) h.dg h240 h0 h1
theorem aR_eRel (h : aR σ τ fi) (hT : xT σ = yT τ) (he : xPe σ = yE τ) (h240 : (yE τ).toInt ≤ 240) : eRel (xE σ) τ := by
  intro p h0 h1
  show sExpr (xA σ) (sLoopF (xA σ) (xT σ) (xPe σ) 240) (xT σ) (xPe σ) p = _ ∧ _
  rw [hT, he]
  exact expr_ok (aR_aRel h hT he h240) h240 h0 h1
/-- what stays on both sides -/
abbrev kS (σ σ1 : zS) : Prop := σ1.1 9 1 = σ.1 9 1 ∧ σ1.1 9 3 = σ.1 9 3 ∧ σ1.1 11 10 = σ.1 11 10 ∧ σ1.1 11 11 = σ.1 11 11 ∧ σ1.1 11 12 = σ.1 11 12 ∧ σ1.1 11 13 = σ.1 11 13 ∧ σ1.1 11 14 = σ.1 11 14 ∧ σ1.1 11 16 = σ.1 11 16 ∧ xOp σ1 = xOp σ ∧ xT σ1 = xT σ
abbrev kY (τ τ1 : zS) : Prop := τ1.1 25 18 = τ.1 25 18 ∧ τ1.1 25 26 = τ.1 25 26 ∧ yT τ1 = yT τ
theorem kS_rfl (σ : zS) : kS σ σ := ⟨rfl, rfl, rfl, rfl, rfl, rfl, rfl, rfl, rfl, rfl⟩
theorem kS_tr {a b c : zS} (h : kS a b) (g : kS b c) : kS a c := ⟨g.1.trans h.1, g.2.1.trans h.2.1, g.2.2.1.trans h.2.2.1, g.2.2.2.1.trans h.2.2.2.1, g.2.2.2.2.1.trans h.2.2.2.2.1, g.2.2.2.2.2.1.trans h.2.2.2.2.2.1, g.2.2.2.2.2.2.1.trans h.2.2.2.2.2.2.1, g.2.2.2.2.2.2.2.1.trans h.2.2.2.2.2.2.2.1, g.2.2.2.2.2.2.2.2.1.trans h.2.2.2.2.2.2.2.2.1, g.2.2.2.2.2.2.2.2.2.trans h.2.2.2.2.2.2.2.2.2⟩
theorem kY_tr {a b c : zS} (h : kY a b) (g : kY b c) : kY a c := ⟨g.1.trans h.1, g.2.1.trans h.2.1, g.2.2.trans h.2.2⟩
/-- a word put, and what it waits for -/
def apFin (σ1 τ1 : zS) (fi : Nat) : Prop := ∀ w, wOk w → yPlc (yPl τ1) → (xAw σ1 = -1 → aR (zPut σ1 w) (zI (yStd τ1 (yPl τ1) w) 25 24 (yPl τ1 + 1)) fi) ∧ (¬ xAw σ1 = -1 → xWc σ1 < 60 ∧ 0 ≤ (xWc σ1).toInt ∧ aR (zAdd (zPut σ1 w) (xAw σ1) (xPl σ1) (σ1.1 11 11)) (zI (yStd τ1 (yPl τ1) w) 25 24 (yPl τ1 + 1)) fi)
/-- what an A-part comes to on both sides -/
def apRes (σ τ : zS) (fi : Nat) (o : zO) (σ1 : zS) (x : Int32) (τ1 : zS) : Prop := (o = .inr 0 ∧ ¬ yB τ1 = 0) ∨ (∃ a, o = .inl (some (.int a)) ∧ ¬ yB τ1 = 0 ∧ ¬ xAw σ1 = -1 ∧ ¬ xWc σ1 < 60) ∨ (o = .inl (some (.int (yOf x))) ∧ uN (zMag (yOf x)) < 4096 ∧ yB τ1 = 0 ∧ oR σ1 τ1 ∧ eRel (xE σ1) τ1 ∧ xPl σ1 = yPl τ1 ∧ apFin σ1 τ1 fi ∧ kS σ σ1 ∧ kY τ τ1)
theorem yOf0 : yOf 0 = 0 := by decide
theorem mag0 : uN (zMag (yOf 0)) < 4096 := by decide
/-- a wait is put behind the word -/
theorem apFin_add {σ1 τ0 : zS} (h : aR σ1 τ0 fi) {kd x q : Int32} (ht : tgR τ0 (xAw σ1) kd x) (h60 : ¬ yWt τ0 = 60) (hn : ¬ xAw σ1 = -1) : apFin σ1 (zI (yAdd τ0 kd x) 25 21 q) fi := by
  intro w hw hp
  have hp' := plc_i.1 hp
  refine ⟨fun k => absurd k hn, fun _ => ?_⟩
  have hr := h.wr
  have hlt : xWc σ1 < 60 := by
    rw [Int32.lt_iff_toInt_lt, show (60 : Int32).toInt = 60 from rfl]
    have : ¬ (xWc σ1).toInt = (60 : Int32).toInt := fun k => h60 (h.wt.symm.trans (Int32.toInt_inj.mp k))
    rw [show (60 : Int32).toInt = 60 from rfl] at this
    omega
  refine ⟨hlt, hr.1, ?_⟩
  have h1 := aR_put h (show yPlc (yPl τ0) from hp) hw
  have e := h.pl
  have h2 := aR_add h1 (tg := xAw σ1) (kd := kd) (x := x) (p := yPl τ0) ht hlt hp' (by
    show ¬ upd (τ0.2.2.1 34) (yPl τ0).toNatClampNeg (vp_nar .boolean 1) (yPl τ0).toNatClampNeg = 0
    rw [upd_eq, if_pos rfl]
    decide)
  rw [e]
  have h3 : aRf (xPl σ1 + 1) (xCn σ1) (xLc σ1) (xWc σ1 + 1) (σ1.1 11 11) (σ1.2.2.2.1 13) (σ1.2.2.1 14) (upd (σ1.2.2.1 22) (xPl σ1).toNatClampNeg w) (σ1.2.2.1 23) (σ1.2.2.1 24) (upd (σ1.2.2.1 19) (xWc σ1).toNatClampNeg (xAw σ1)) (upd (σ1.2.2.1 20) (xWc σ1).toNatClampNeg (yPl τ0)) (upd (σ1.2.2.1 21) (xWc σ1).toNatClampNeg (σ1.1 11 11)) (yPl τ0 + 1) (yCn τ0) (yLc τ0) (yWt τ0 + 1) (τ0.2.2.2.1 35) (upd (τ0.2.2.1 33) (yPl τ0).toNatClampNeg w) (upd (τ0.2.2.1 34) (yPl τ0).toNatClampNeg (vp_nar .boolean 1)) (τ0.2.2.1 36) (τ0.2.2.1 37) (τ0.2.2.1 38) (τ0.2.2.1 39) (τ0.2.2.1 40) (upd (τ0.2.2.1 41) (yWt τ0).toNatClampNeg kd) (upd (τ0.2.2.1 42) (yWt τ0).toNatClampNeg x) (upd (τ0.2.2.1 43) (yWt τ0).toNatClampNeg (yPl τ0)) (upd (τ0.2.2.1 44) (yWt τ0).toNatClampNeg (vp_nar .boolean 1)) fi := h2
  exact h3
theorem apFin_no {σ1 τ1 : zS} (h : aR σ1 τ1 fi) (hn : xAw σ1 = -1) : apFin σ1 τ1 fi := by
  intro w hw hp
  exact ⟨fun _ => aR_put h hp hw, fun k => absurd hn k⟩
/-- an expression -/
theorem apE_ok (h : aR σ τ fi) (ho : oR σ τ) (hb : yB τ = 0) {o : zO} {σ1 τ1 : zS} {x : Int32} (hc : zApE σ o σ1) (hy : yApE τ x τ1) : apRes σ τ fi o σ1 x τ1 := by
  obtain ⟨hT, hA, he, h0, h1, h240, hch⟩ := ho
  have hE := aR_eRel h hT he h240
  have hx := hE (yP τ) h0 (by omega)
  rcases hc with ⟨c1, c2⟩ | ⟨v, q, c1, c2⟩
  · rw [hA, hx.1] at c1
    rcases hy with ⟨y1, y2⟩ | ⟨v', q', y1, y2⟩
    · exact .inl ⟨c2.1, y2⟩
    · rw [y1] at c1
      cases c1
  · rw [hA, hx.1] at c1
    rcases hy with ⟨y1, y2⟩ | ⟨v', q', y1, y2⟩
    · rw [y1] at c1
      cases c1
    · rw [y1] at c1
      cases c1
      have hv := hx.2 _ y1
      have hv' : vOk v' := hv
      dsimp only at c2
      rw [Int32.toInt_toInt64] at c2
      simp only [Int32.lt_iff_toInt_lt, show (4096 : Int32).toInt = 4096 from rfl, show (-4096 : Int32).toInt = -4096 from rfl] at y2
      rcases c2 with ⟨c3, c4⟩ | ⟨c3, nm, ln, cp, nu, c4, c5⟩
      · rcases y2 with ⟨y3, y4⟩ | ⟨y3, y4⟩
        · exact .inl ⟨c4.1, y4⟩
        · omega
      · rcases y2 with ⟨y3, y4⟩ | ⟨y3, y4, y5⟩
        · omega
        · right; right
          rw [zOf_yOf] at c4
          have hm := yOf_nn hv'
          have hge := yEx_ge y1
          have hge2 : q'.toInt ≤ (yE τ).toInt := hge.2
          have hge1 : (yP τ).toInt ≤ q'.toInt := hge.1
          subst c5
          subst y5
          rw [y4]
          refine ⟨c4, by rw [hm.2.1]; omega, rfl, ⟨hT, rfl, he, ?_, hge2, h240, hch⟩, hE, h.pl, apFin_no h rfl, ⟨rfl, rfl, rfl, rfl, rfl, rfl, rfl, rfl, rfl, rfl⟩, ⟨rfl, rfl, rfl⟩⟩
          show 0 ≤ q'.toInt
          omega
