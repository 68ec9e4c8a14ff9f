/-! VALUES OF SYMBOLS AND DIGITS: the same on both sides -/
variable {σ τ : zS} {fi : Nat}
theorem aR_fill (h : aR σ τ fi) {tg kd x vl : Int32} (htg : tg.toInt = 100 * kd.toInt + x.toInt) (hkd : 0 ≤ kd.toInt ∧ kd.toInt ≤ 2) (hx : 0 ≤ x.toInt ∧ x.toInt < 100) : (xFill σ tg vl = none ∧ ySetF kd x vl (τ.2.2.1 41) (τ.2.2.1 42) (τ.2.2.1 43) fi 0 (τ.2.2.1 33) (τ.2.2.1 44) = none) ∨ ∃ W G I O, xFill σ tg vl = some (W, G) ∧ ySetF kd x vl (τ.2.2.1 41) (τ.2.2.1 42) (τ.2.2.1 43) fi 0 (τ.2.2.1 33) (τ.2.2.1 44) = some (I, O) ∧ vlR 200 W (τ.2.2.1 34) I ∧ (∀ j, j < (xWc σ).toNatClampNeg → wtE G O (τ.2.2.1 41) (τ.2.2.1 42) j) :=
  fill_ok (vl := vl) htg hkd hx (fun i hi => (h.ln i hi).1) h.wp (xWc σ).toNatClampNeg 0 _ _ _ _ (Nat.zero_add _) h.fs h.wd h.en
/-- a symbol's value -/
theorem aR_def (h : aR σ τ fi) {s w : Int32} (hs : 0 ≤ s.toInt ∧ s.toInt < (xCn σ).toInt) (hw : wOk w) (hall : fi = (xWc σ).toNatClampNeg) : (xFill σ s w = none ∧ yDf τ s w = none) ∨ ∃ W G I O, xFill σ s w = some (W, G) ∧ yDf τ s w = some (zOI (yDef τ s w) O I 0) ∧ aR (zWG (zGv σ s w) W G) (zOI (yDef τ s w) O I 0) fi := by
  have h30 := h.nm.1
  have hset : ySet (yDef τ s w) 0 s w (yWt τ) = ySetF 0 s w (τ.2.2.1 41) (τ.2.2.1 42) (τ.2.2.1 43) fi 0 (τ.2.2.1 33) (τ.2.2.1 44) := by
    rw [hall, h.wt]
    rfl
  have hf := aR_fill (vl := w) h (tg := s) (kd := 0) (x := s) (by rw [i0]; omega) (by decide) ⟨hs.1, by omega⟩
  unfold yDf
  rw [hset]
  rcases hf with ⟨a, b⟩ | ⟨W, G, I, O, a, b, c, d⟩
  · left
    rw [b]
    exact ⟨a, rfl⟩
  · right
    rw [b]
    refine ⟨W, G, I, O, a, rfl, ?_⟩
    have hO := ySetF_O _ _ _ _ _ _ b
    exact aRf.mk (pl := h.pl) (plv := h.plv) (cn := h.cn) (nm := h.nm)
      (vl := by
        show vlR (xCn σ).toNatClampNeg (upd (σ.2.2.1 14) s.toNatClampNeg w) (upd (τ.2.2.1 36) s.toNatClampNeg (vp_nar .boolean 1)) (upd (τ.2.2.1 37) s.toNatClampNeg w)
        exact vlR_upd h.vl hw (by decide))
      (dg := h.dg) (lc := h.lc) (lr := h.lr) (lt := h.lt) (wd := c) (wt := h.wt) (wr := h.wr) (fs := h.fs) (en := d) (wp := h.wp) (ln := h.ln)
      (kd := fun i hi ho => by
        have hi2 : i < (xWc σ).toNatClampNeg := hi
        have ho2 : ¬ O i = 0 := ho
        have g := hO i
        have hne : ¬ ((0 ≤ i ∧ i < 0 + fi) ∧ τ.2.2.1 41 i = 0 ∧ τ.2.2.1 42 i = s) := fun k => ho2 (g.1 k)
        have h1 := h.kd i hi2 (by rw [← g.2 hne]; exact ho2)
        refine ⟨fun k => ?_, h1.2⟩
        have h2 := h1.1 k
        have h3 := (h.en i hi2).2.2
        refine ⟨h2.1, ?_⟩
        show upd (τ.2.2.1 36) s.toNatClampNeg (vp_nar .boolean 1) (τ.2.2.1 42 i).toNatClampNeg = 0
        rw [upd_eq, if_neg]
        · exact h2.2
        · intro e
          apply hne
          refine ⟨⟨by omega, by omega⟩, k, ?_⟩
          apply Int32.toInt_inj.mp
          have e1 := tn_i h3.1
          have e2 := tn_i hs.1
          omega)
/-- a digit's value -/
theorem aR_here (h : aR σ τ fi) {d v f : Int32} (hd : 0 ≤ d.toInt ∧ d.toInt < 10) (hv : wOk v) (hf : f.toInt.toNat = fi) : (xFill σ (100 + d) v = none ∧ ySet τ 1 d v f = none) ∨ ∃ W G I O, xFill σ (100 + d) v = some (W, G) ∧ ySet τ 1 d v f = some (I, O) ∧ aR (zA (zWG σ W G) 24 (upd (σ.2.2.1 24) d.toNatClampNeg v)) (yHe1 τ d v (I, O)) fi := by
  have hset : ySet τ 1 d v f = ySetF 1 d v (τ.2.2.1 41) (τ.2.2.1 42) (τ.2.2.1 43) fi 0 (τ.2.2.1 33) (τ.2.2.1 44) := by
    rw [← hf]
  have h100 : (100 + d).toInt = 100 * (1 : Int32).toInt + d.toInt := by
    rw [Int32.toInt_add, show (100 : Int32).toInt = 100 from rfl, show (1 : Int32).toInt = 1 from rfl, bm32 (by omega) (by omega)]
    omega
  have hf' := aR_fill (vl := v) h (tg := 100 + d) (kd := 1) (x := d) h100 (by decide) ⟨hd.1, by omega⟩
  rw [hset]
  rcases hf' with ⟨a, b⟩ | ⟨W, G, I, O, a, b, c, e⟩
  · exact .inl ⟨a, b⟩
  · right
    refine ⟨W, G, I, O, a, b, ?_⟩
    have hO := ySetF_O _ _ _ _ _ _ b
    exact aRf.mk (pl := h.pl) (plv := h.plv) (cn := h.cn) (nm := h.nm) (vl := h.vl)
      (dg := by
        show vlR 10 (upd (σ.2.2.1 24) d.toNatClampNeg v) (upd (τ.2.2.1 39) d.toNatClampNeg (vp_nar .boolean 1)) (upd (τ.2.2.1 40) d.toNatClampNeg v)
        exact vlR_upd h.dg hv (by decide))
      (lc := h.lc) (lr := h.lr) (lt := h.lt) (wd := c) (wt := h.wt) (wr := h.wr) (fs := h.fs) (en := e) (wp := h.wp) (ln := h.ln)
      (kd := fun i hi ho => by
        have hi2 : i < (xWc σ).toNatClampNeg := hi
        have ho2 : ¬ O i = 0 := ho
        have g := hO i
        have hne : ¬ ((0 ≤ i ∧ i < 0 + fi) ∧ τ.2.2.1 41 i = 1 ∧ τ.2.2.1 42 i = d) := fun k => ho2 (g.1 k)
        exact h.kd i hi2 (by rw [← g.2 hne]; exact ho2))
/-- a line begins -/
theorem aR_line (h : aR σ τ fi) (hc : 0 ≤ (σ.1 11 11).toInt ∧ (σ.1 11 11).toInt ≤ 1000) : aR (zOpn σ) τ (xWc σ).toNatClampNeg := by
  have hi := int1 hc.1 hc.2
  exact aRf.mk (pl := h.pl) (plv := h.plv) (cn := h.cn) (nm := h.nm) (vl := h.vl) (dg := h.dg) (lc := h.lc) (lr := h.lr) (lt := h.lt) (wd := h.wd) (wt := h.wt) (wr := h.wr) (fs := Nat.le_refl _) (en := h.en) (wp := h.wp)
    (ln := fun i hi' => by
      have hi2 : i < (xWc σ).toNatClampNeg := hi'
      have h1 := (h.ln i hi2).2
      show (σ.2.2.1 21 i = σ.1 11 11 + 1 ↔ (xWc σ).toNatClampNeg ≤ i) ∧ (σ.2.2.1 21 i).toInt ≤ (σ.1 11 11 + 1).toInt
      refine ⟨⟨fun k => ?_, fun k => by omega⟩, by omega⟩
      rw [k] at h1
      omega)
    (kd := h.kd)
