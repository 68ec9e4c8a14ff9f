/-! THE END OF A TEXT: symbols without a value, literals; both sides -/
variable {σ τ : zS} {fi : Nat}
theorem aR_defS (h : aR σ τ fi) {s w : Int32} (hs : 0 ≤ s.toInt ∧ s.toInt < (xCn σ).toInt) (hw : wOk w) (hall : fi = (xWc σ).toNatClampNeg) : (xFill σ s w = none ∧ ySet (yDef τ s w) 0 s w (yWt τ) = none) ∨ ∃ W G I O, xFill σ s w = some (W, G) ∧ ySet (yDef τ s w) 0 s w (yWt τ) = some (I, O) ∧ aR (zWG (zGv σ s w) W G) (zOI (yDef τ s w) O I 0) fi := by
  rcases aR_def h hs hw hall with ⟨a, b⟩ | ⟨W, G, I, O, a, b, c⟩
  · left
    refine ⟨a, ?_⟩
    unfold yDf at b
    cases hy : ySet (yDef τ s w) 0 s w (yWt τ) with
    | none => rfl
    | some x => rw [hy] at b; cases b
  · right
    unfold yDf at b
    cases hy : ySet (yDef τ s w) 0 s w (yWt τ) with
    | none => rw [hy] at b; cases b
    | some x =>
      refine ⟨W, G, x.1, x.2, a, rfl, ?_⟩
      rw [hy] at b
      have e : zOI (yDef τ s w) x.2 x.1 0 = zOI (yDef τ s w) O I 0 := Option.some.inj b
      rw [e]
      exact c
/-- what stays while the end is made -/
abbrev kF (τ τ' : zS) : Prop := kY τ τ' ∧ τ'.1 25 25 = τ.1 25 25 ∧ (yB τ = 0 → yB τ' = 0) ∧ τ'.2.2.1 41 = τ.2.2.1 41 ∧ τ'.2.2.1 42 = τ.2.2.1 42 ∧ yWt τ' = yWt τ ∧ yLc τ' = yLc τ ∧ yCn τ' = yCn τ ∧ (∀ j, τ.2.2.1 41 j = 1 → τ'.2.2.1 44 j = τ.2.2.1 44 j) ∧ (∀ j, ¬ τ.2.2.1 36 j = 0 → ¬ τ'.2.2.1 36 j = 0)
theorem kF_rfl (τ : zS) : kF τ τ := ⟨⟨rfl, rfl, rfl⟩, rfl, id, rfl, rfl, rfl, rfl, rfl, fun _ _ => rfl, fun _ h => h⟩
theorem kF_tr {a b c : zS} (h : kF a b) (g : kF b c) : kF a c := ⟨kY_tr h.1 g.1, g.2.1.trans h.2.1, fun k => g.2.2.1 (h.2.2.1 k), g.2.2.2.1.trans h.2.2.2.1, g.2.2.2.2.1.trans h.2.2.2.2.1, g.2.2.2.2.2.1.trans h.2.2.2.2.2.1, g.2.2.2.2.2.2.1.trans h.2.2.2.2.2.2.1, g.2.2.2.2.2.2.2.1.trans h.2.2.2.2.2.2.2.1, fun j k => (g.2.2.2.2.2.2.2.2.1 j (by rw [h.2.2.2.1]; exact k)).trans (h.2.2.2.2.2.2.2.2.1 j k), fun j k => g.2.2.2.2.2.2.2.2.2 j (h.2.2.2.2.2.2.2.2.2 j k)⟩
/-- symbols without a value get a place -/
theorem ps_ok {σ : zS} (hall : fi = (xWc σ).toNatClampNeg) : ∀ (k i : Nat) (V : Nat → Int32) (pl : Int32) (W G : Nat → Int32) (τ : zS), i + k = (xCn σ).toNatClampNeg → aR (zAs σ V pl W G) τ fi → (zPsF (σ.1 11 11) (σ.2.2.1 21) (σ.2.2.1 20) (xWc σ).toInt.toNat k i V pl W G = none ∧ yPsF k i τ = none) ∨ ∃ V' pl' W' G' τ', zPsF (σ.1 11 11) (σ.2.2.1 21) (σ.2.2.1 20) (xWc σ).toInt.toNat k i V pl W G = some (V', pl', W', G') ∧ yPsF k i τ = some τ' ∧ aR (zAs σ V' pl' W' G') τ' fi ∧ kF τ τ' ∧ (∀ j, i ≤ j → j < i + k → ¬ τ'.2.2.1 36 j = 0)
  | 0, i, V, pl, W, G, τ, _, h => .inr ⟨V, pl, W, G, τ, rfl, rfl, h, kF_rfl τ, fun j a b => by omega⟩
  | k + 1, i, V, pl, W, G, τ, hi, h => by
    have h30 : 0 ≤ (xCn σ).toInt ∧ (xCn σ).toInt ≤ 30 := h.nm.1
    have hcc := tn_i h30.1
    have hin := zOfI (n := i) (by omega)
    have htn := tn_of (n := i) (by omega)
    have hv : (V i = -1 ∧ τ.2.2.1 36 i = 0) ∨ (wOk (V i) ∧ V i = τ.2.2.1 37 i ∧ ¬ τ.2.2.1 36 i = 0) := h.vl i (show i < (xCn σ).toNatClampNeg by omega)
    have epl : pl = yPl τ := h.pl
    have hplv : vOk pl := h.plv
    unfold zPsF yPsF
    rcases hv with ⟨v1, v2⟩ | ⟨v1, v2, v3⟩
    · rw [if_pos v1, if_pos v2]
      have hw := (yOf_nn hplv).1
      have hd := aR_defS h (s := Int32.ofNat i) (w := yOf pl) ⟨by omega, by show (Int32.ofNat i).toInt < (xCn σ).toInt; omega⟩ hw hall
      rw [zOf_yOf, ← epl]
      rcases hd with ⟨a, b⟩ | ⟨W1, G1, I, O, a, b, c⟩
      · have a' : zFill (Int32.ofNat i) (yOf pl) (σ.1 11 11) (σ.2.2.1 21) (σ.2.2.1 20) (xWc σ).toInt.toNat 0 W G = none := a
        rw [a', b]
        exact .inl ⟨rfl, rfl⟩
      · have a' : zFill (Int32.ofNat i) (yOf pl) (σ.1 11 11) (σ.2.2.1 21) (σ.2.2.1 20) (xWc σ).toInt.toNat 0 W G = some (W1, G1) := a
        rw [a', b]
        dsimp only
        by_cases hp : yPlc pl
        · rw [if_pos (plc_zy.2 hp), if_pos hp]
          have hO := ySetF_O _ _ _ _ _ _ b
          have c1 := aR_put c (show yPlc (yPl τ) by rw [← epl]; exact hp) (w := 0) (by decide)
          have c2 : aRf (pl + 1) (xCn σ) (xLc σ) (xWc σ) (σ.1 11 11) (σ.2.2.2.1 13) (upd V (Int32.ofNat i).toNatClampNeg (yOf pl)) (upd W1 pl.toNatClampNeg 0) (σ.2.2.1 23) (σ.2.2.1 24) G1 (σ.2.2.1 20) (σ.2.2.1 21) (yPl τ + 1) (yCn τ) (yLc τ) (yWt τ) (τ.2.2.2.1 35) (upd I (yPl τ).toNatClampNeg 0) (upd (τ.2.2.1 34) (yPl τ).toNatClampNeg (vp_nar .boolean 1)) (upd (τ.2.2.1 36) (Int32.ofNat i).toNatClampNeg (vp_nar .boolean 1)) (upd (τ.2.2.1 37) (Int32.ofNat i).toNatClampNeg (yOf pl)) (τ.2.2.1 38) (τ.2.2.1 39) (τ.2.2.1 40) (τ.2.2.1 41) (τ.2.2.1 42) (τ.2.2.1 43) O fi := c1
          rw [htn] at c2
          have c3 : aR (zAs σ (upd V i (yOf pl)) (pl + 1) (upd W1 pl.toNatClampNeg 0) G1) (yPs1 τ i (I, O)) fi := by
            have c4 : aRf (pl + 1) (xCn σ) (xLc σ) (xWc σ) (σ.1 11 11) (σ.2.2.2.1 13) (upd V i (yOf pl)) (upd W1 pl.toNatClampNeg 0) (σ.2.2.1 23) (σ.2.2.1 24) G1 (σ.2.2.1 20) (σ.2.2.1 21) (yPl τ + 1) (yCn τ) (yLc τ) (yWt τ) (τ.2.2.2.1 35) (upd I (yPl τ).toNatClampNeg 0) (upd (τ.2.2.1 34) (yPl τ).toNatClampNeg (vp_nar .boolean 1)) (upd (τ.2.2.1 36) (Int32.ofNat i).toNatClampNeg (vp_nar .boolean 1)) (upd (τ.2.2.1 37) (Int32.ofNat i).toNatClampNeg (yOf (yPl τ))) (τ.2.2.1 38) (τ.2.2.1 39) (τ.2.2.1 40) (τ.2.2.1 41) (τ.2.2.1 42) (τ.2.2.1 43) O fi := by
              rw [htn, ← epl]
              rw [← epl] at c2
              exact c2
            exact c4
          have ih := ps_ok hall k (i + 1) _ _ _ _ _ (by omega) c3
          have kf : kF τ (yPs1 τ i (I, O)) := by
            refine ⟨⟨rfl, rfl, rfl⟩, rfl, fun _ => rfl, rfl, rfl, rfl, rfl, rfl, fun j hj => ?_, fun j hj => ?_⟩
            · show O j = τ.2.2.1 44 j
              refine (hO j).2 (fun q => ?_)
              have q1 : τ.2.2.1 41 j = 0 := q.2.1
              rw [hj] at q1
              exact absurd q1 (by decide)
            · show ¬ upd (τ.2.2.1 36) (Int32.ofNat i).toNatClampNeg (vp_nar .boolean 1) j = 0
              rw [upd_eq]
              split
              · decide
              · exact hj
          rcases ih with ⟨e1, e2⟩ | ⟨V', pl', W', G', τ', e1, e2, e3, e4, e5⟩
          · exact .inl ⟨e1, e2⟩
          · refine .inr ⟨V', pl', W', G', τ', e1, e2, e3, kF_tr kf e4, fun j ja jb => ?_⟩
            by_cases je : j = i
            · refine e4.2.2.2.2.2.2.2.2.2 j ?_
              show ¬ upd (τ.2.2.1 36) (Int32.ofNat i).toNatClampNeg (vp_nar .boolean 1) j = 0
              rw [upd_eq, htn, if_pos je]
              decide
            · exact e5 j (by omega) (by omega)
        · rw [if_neg (fun q => hp (plc_zy.1 q)), if_neg hp]
          exact .inl ⟨rfl, rfl⟩
    · rw [if_neg (wOk_ne v1), if_neg v3]
      rcases ps_ok hall k (i + 1) V pl W G τ (by omega) h with ⟨e1, e2⟩ | ⟨V', pl', W', G', τ', e1, e2, e3, e4, e5⟩
      · exact .inl ⟨e1, e2⟩
      · refine .inr ⟨V', pl', W', G', τ', e1, e2, e3, e4, fun j ja jb => ?_⟩
        by_cases je : j = i
        · rw [je]
          exact e4.2.2.2.2.2.2.2.2.2 i v3
        · exact e5 j (by omega) (by omega)
