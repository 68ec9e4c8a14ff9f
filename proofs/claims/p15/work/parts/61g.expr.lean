/-! EXPRESSIONS, FIELDS, WORDS: the same on both sides -/
theorem vOk_min {a : Int32} (h : vOk a) : ¬ a = Int32.minValue := fun g => by
  rw [g] at h
  exact absurd h.1 (by decide)
theorem l32 {x : Int64} (h : yBd x) : x.toInt32.toInt64 = x ∧ vOk x.toInt32 := by
  have e : x.toInt32.toInt = x.toInt := by
    rw [Int64.toInt_toInt32, bm32 (by omega) (by omega)]
  refine ⟨?_, ?_⟩
  · apply Int64.toInt_inj.mp
    rw [Int32.toInt_toInt64, e]
  · show _ < _ ∧ _ < _
    rw [e]
    exact h
theorem cmb_ok {a b c : Int32} (ha : vOk a) : zCmb a.toInt64 c b.toInt64 = (yCb a c b).map Int32.toInt64 ∧ (∀ x, yCb a c b = some x → vOk x) := by
  have ev : zCmv a.toInt64 c b.toInt64 = yCv a c b := by
    unfold zCmv yCv
    rw [Int32.toInt64_div_of_ne_left a b (vOk_min ha)]
  have e0 : (c = 47 ∧ b.toInt64 = 0) ↔ (c = 47 ∧ b = 0) := by
    constructor
    · intro h
      refine ⟨h.1, ?_⟩
      apply Int32.toInt_inj.mp
      rw [← Int32.toInt_toInt64 b, h.2]
      rfl
    · intro h
      rw [h.2]
      exact ⟨h.1, rfl⟩
  unfold zCmb yCb
  rw [ev]
  by_cases h : c = 47 ∧ b = 0
  · rw [if_pos (e0.2 h), if_pos h]
    exact ⟨rfl, fun x hx => by cases hx⟩
  · rw [if_neg (fun g => h (e0.1 g)), if_neg h]
    by_cases hb : yBd (yCv a c b)
    · rw [if_pos hb, if_pos hb]
      have := l32 hb
      refine ⟨?_, fun x hx => by cases hx; exact this.2⟩
      show some _ = some _
      rw [this.1]
    · rw [if_neg hb, if_neg hb]
      exact ⟨rfl, fun x hx => by cases hx⟩
/-- as the class has it -/
abbrev toL (x : Option (Int32 × Int32)) : Option (Int64 × Int32) := x.map (fun y => (y.1.toInt64, y.2))
abbrev aRel (A : Int32 → Option (Int32 × Int32)) (τ : zS) : Prop := ∀ p : Int32, 0 ≤ p.toInt → p.toInt ≤ 1000 → A p = yA τ p ∧ ∀ b, yA τ p = some b → vOk b.1
theorem loop_ok {A : Int32 → Option (Int32 × Int32)} {τ : zS} (hA : aRel A τ) (h240 : (yE τ).toInt ≤ 240) : ∀ (f : Nat) (a p : Int32), vOk a → 0 ≤ p.toInt → p.toInt ≤ 1000 → sLoopF A (yT τ) (yE τ) f a.toInt64 p = toL (yLoopF (yA τ) (yT τ) (yE τ) f a p) ∧ ∀ x, yLoopF (yA τ) (yT τ) (yE τ) f a p = some x → vOk x.1
  | 0, a, p, ha, _, _ => ⟨rfl, fun x hx => by cases hx; exact ha⟩
  | f + 1, a, p, ha, h0, h1 => by
    unfold sLoopF yLoopF
    by_cases hc : p < yE τ ∧ zOpr (yT τ p.toNatClampNeg)
    · rw [if_pos hc, if_pos hc]
      have hi := zInc hc.1
      have hlt := Int32.lt_iff_toInt_lt.mp hc.1
      have h2 := hA (p + 1) (by omega) (by omega)
      rw [h2.1]
      cases hb : yA τ (p + 1) with
      | none => exact ⟨rfl, fun x hx => by cases hx⟩
      | some b =>
        dsimp only
        have h3 := cmb_ok (b := b.1) (c := yT τ p.toNatClampNeg) ha
        rw [h3.1]
        cases hy : yCb a (yT τ p.toNatClampNeg) b.1 with
        | none => exact ⟨rfl, fun x hx => by cases hx⟩
        | some x =>
          have h4 := yA_ge _ _ hb
          exact loop_ok hA h240 f x b.2 (h3.2 x hy) (by omega) (by omega)
    · rw [if_neg hc, if_neg hc]
      exact ⟨rfl, fun x hx => by cases hx; exact ha⟩
theorem loop_ok' {A : Int32 → Option (Int32 × Int32)} {τ : zS} (hA : aRel A τ) (h240 : (yE τ).toInt ≤ 240) {a p : Int32} (ha : vOk a) (h0 : 0 ≤ p.toInt) (h1 : p.toInt ≤ 1000) : sLoopF A (yT τ) (yE τ) 240 a.toInt64 p = toL (yLoop (yA τ) (yT τ) (yE τ) a p) ∧ ∀ x, yLoop (yA τ) (yT τ) (yE τ) a p = some x → vOk x.1 := by
  have e : yLoop (yA τ) (yT τ) (yE τ) a p = yLoopF (yA τ) (yT τ) (yE τ) 240 a p := yLoopF_fuel (fun p b h => (yA_ge p b h).1) _ _ a p (Nat.le_refl _) (by omega)
  rw [e]
  exact loop_ok hA h240 240 a p ha h0 h1
theorem vOk_neg {a : Int32} (h : vOk a) : vOk (-a) ∧ -a.toInt64 = (-a).toInt64 := by
  refine ⟨?_, (Int32.toInt64_neg_of_ne (vOk_min h)).symm⟩
  have e := zNeg_int (v := a) (by omega)
  exact ⟨by omega, by omega⟩
/-- an expression -/
theorem expr_ok {A : Int32 → Option (Int32 × Int32)} {τ : zS} (hA : aRel A τ) (h240 : (yE τ).toInt ≤ 240) {p : Int32} (h0 : 0 ≤ p.toInt) (h1 : p.toInt ≤ 999) : sExpr A (sLoopF A (yT τ) (yE τ) 240) (yT τ) (yE τ) p = toL (yEx τ p) ∧ ∀ x, yEx τ p = some x → vOk x.1 := by
  have c45 := yH_42 (τ := τ) (p := p) (c := 45) (by decide)
  have c43 := yH_42 (τ := τ) (p := p) (c := 43) (by decide)
  unfold sExpr yEx
  by_cases g : yH τ p = 45
  · rw [if_pos (c45.1 g), if_pos g]
    have hi := zInc (c45.1 g).1
    have hlt := Int32.lt_iff_toInt_lt.mp (c45.1 g).1
    have h2 := hA (p + 1) (by omega) (by omega)
    rw [h2.1]
    cases hb : yA τ (p + 1) with
    | none => exact ⟨rfl, fun x hx => by cases hx⟩
    | some b =>
      have h3 := vOk_neg (h2.2 b hb)
      have h4 := yA_ge _ _ hb
      dsimp only
      rw [h3.2]
      exact loop_ok' hA h240 h3.1 (by omega) (by omega)
  · rw [if_neg (fun h => g (c45.2 h)), if_neg g]
    have hp' : (if p < yE τ ∧ yT τ p.toNatClampNeg = 43 then p + 1 else p) = (if yH τ p = 43 then p + 1 else p) := by
      by_cases g3 : yH τ p = 43
      · rw [if_pos (c43.1 g3), if_pos g3]
      · rw [if_neg (fun h => g3 (c43.2 h)), if_neg g3]
    rw [hp']
    have hr : 0 ≤ (if yH τ p = 43 then p + 1 else p).toInt ∧ (if yH τ p = 43 then p + 1 else p).toInt ≤ 1000 := by
      by_cases g3 : yH τ p = 43
      · rw [if_pos g3]
        have hi := zInc (c43.1 g3).1
        omega
      · rw [if_neg g3]
        omega
    generalize (if yH τ p = 43 then p + 1 else p) = p' at hr
    have h2 := hA p' hr.1 hr.2
    rw [h2.1]
    cases hb : yA τ p' with
    | none => exact ⟨rfl, fun x hx => by cases hx⟩
    | some b =>
      have h3 := h2.2 b hb
      have h4 := yA_ge _ _ hb
      exact loop_ok' hA h240 h3 (by omega) (by omega)
theorem yA_gt {τ : zS} {p : Int32} {b : Int32 × Int32} (h : yA τ p = some b) : p.toInt < b.2.toInt := by
  have h1 := (yA_ge p b h).1
  unfold yA at h
  split at h
  · rename_i g
    split at h
    · cases h
      have := zInc ((yH_42 (by decide)).1 g).1
      show p.toInt < (p + 1).toInt
      omega
    · cases h
  · split at h
    · cases h
    · rename_i g
      have e := yNa_q h
      rw [e] at h1 ⊢
      have : ¬ (zRun (yT τ) (yE τ) p).toInt = p.toInt := fun q => g (Int32.toInt_inj.mp q)
      omega
theorem yEx_gt {τ : zS} {p : Int32} {b : Int32 × Int32} (h : yEx τ p = some b) : p.toInt < b.2.toInt := by
  unfold yEx at h
  split at h
  · rename_i g
    have hi := zInc ((yH_42 (by decide)).1 g).1
    split at h
    · cases h
    · rename_i c hc
      have h1 := yA_gt hc
      have h2 := (yLoopF_ge _ _ _ _ h).1
      omega
  · split at h
    · cases h
    · rename_i c hc
      have h1 := yA_gt hc
      have h2 := (yLoopF_ge _ _ _ _ h).1
      have h3 : p.toInt ≤ (if yH τ p = 43 then p + 1 else p).toInt := by
        by_cases g3 : yH τ p = 43
        · rw [if_pos g3]
          have hi := zInc ((yH_42 (by decide)).1 g3).1
          omega
        · rw [if_neg g3]
          omega
      omega
/-- the class's expressions are the reference's -/
abbrev eRel (E : Int32 → Option (Int64 × Int32)) (τ : zS) : Prop := ∀ p : Int32, 0 ≤ p.toInt → p.toInt ≤ 999 → E p = toL (yEx τ p) ∧ ∀ x, yEx τ p = some x → vOk x.1
theorem fld_ok {E : Int32 → Option (Int64 × Int32)} {τ : zS} (hE : eRel E τ) (h240 : (yE τ).toInt ≤ 240) {p : Int32} (h0 : 0 ≤ p.toInt) : sFld E (yT τ) (yE τ) p = toL (yFl τ p) ∧ ∀ x, yFl τ p = some x → yOkf x.1 := by
  have c40 := yH_42 (τ := τ) (p := p) (c := 40) (by decide)
  unfold sFld yFl
  by_cases g : yH τ p = 40
  · rw [if_pos (c40.1 g), if_pos g]
    have hi := zInc (c40.1 g).1
    have hlt := Int32.lt_iff_toInt_lt.mp (c40.1 g).1
    have h2 := hE (p + 1) (by omega) (by omega)
    rw [h2.1]
    cases hb : yEx τ (p + 1) with
    | none => exact ⟨rfl, fun x hx => by cases hx⟩
    | some y =>
      have c41 := yH_42 (τ := τ) (p := y.2) (c := 41) (by decide)
      show (if zFld y.1.toInt64 ∧ y.2 < yE τ ∧ yT τ y.2.toNatClampNeg = 41 then some (y.1.toInt64, y.2 + 1) else none) = toL (if yH τ y.2 = 41 ∧ yOkf y.1 then some (y.1, y.2 + 1) else none) ∧ ∀ x, (if yH τ y.2 = 41 ∧ yOkf y.1 then some (y.1, y.2 + 1) else none) = some x → yOkf x.1
      by_cases k : yH τ y.2 = 41 ∧ yOkf y.1
      · rw [if_pos ⟨zFld_ok.2 k.2, c41.1 k.1⟩, if_pos k]
        exact ⟨rfl, fun x hx => by cases hx; exact k.2⟩
      · rw [if_neg (fun h => k ⟨c41.2 h.2, zFld_ok.1 h.1⟩), if_neg k]
        exact ⟨rfl, fun x hx => by cases hx⟩
  · rw [if_neg (fun h => g (c40.2 h)), if_neg g]
    exact ⟨rfl, fun x hx => by cases hx; exact (show yOkf 5 by decide)⟩
theorem yFl_le {τ : zS} {p : Int32} {b : Int32 × Int32} (h : yFl τ p = some b) : b.2.toInt ≤ (yE τ).toInt ∨ b.2 = p := by
  unfold yFl at h
  split at h
  · split at h
    · cases h
    · split at h
      · rename_i y _ g
        cases h
        left
        have g1 := ((yH_42 (by decide)).1 g.1).1
        have := zInc g1
        have := Int32.lt_iff_toInt_lt.mp g1
        show (y.2 + 1).toInt ≤ _
        omega
      · cases h
  · cases h
    exact .inr rfl
theorem words_ok {E : Int32 → Option (Int64 × Int32)} {τ : zS} (hE : eRel E τ) (h240 : (yE τ).toInt ≤ 240) : ∀ (k k' : Nat) (w p : Int32), wOk w → 0 ≤ p.toInt → p.toInt ≤ (yE τ).toInt → (yE τ).toInt - p.toInt + 1 ≤ 2 * k → ((yE τ).toInt - p.toInt).toNat + 1 ≤ k' → sWF E (yT τ) (yE τ) k w p = yWF τ k' w p ∧ ∀ x, yWF τ k' w p = some x → wOk x.1
  | 0, _, _, _, _, _, _, h3, _ => by omega
  | _ + 1, 0, _, _, _, _, _, _, h4 => by omega
  | k + 1, k' + 1, w, p, hw, h0, h1, h3, h4 => by
    unfold sWF yWF
    have h2 := hE p h0 (by omega)
    rw [h2.1]
    cases hx : yEx τ p with
    | none => exact ⟨rfl, fun x hx => by cases hx⟩
    | some x =>
      have g1 := yEx_gt hx
      have g2 := (yEx_ge hx).2
      have hv := h2.2 x hx
      have hf := fld_ok hE h240 (p := x.2) (by omega)
      show (match sFld E (yT τ) (yE τ) x.2 with
        | none => none
        | some f => if f.2 < yE τ ∧ yT τ f.2.toNatClampNeg = 44 then sWF E (yT τ) (yE τ) k (zSto w f.1.toInt32 (zOfL x.1.toInt64)) (f.2 + 1) else some (zSto w f.1.toInt32 (zOfL x.1.toInt64), f.2)) = (match yFl τ x.2 with
        | none => none
        | some f => if yH τ f.2 = 44 then yWF τ k' (yPut w f.1 (yOf x.1)) (f.2 + 1) else some (yPut w f.1 (yOf x.1), f.2)) ∧ ∀ z, (match yFl τ x.2 with
        | none => none
        | some f => if yH τ f.2 = 44 then yWF τ k' (yPut w f.1 (yOf x.1)) (f.2 + 1) else some (yPut w f.1 (yOf x.1), f.2)) = some z → wOk z.1
      rw [hf.1]
      cases hy : yFl τ x.2 with
      | none => exact ⟨rfl, fun x hx => by cases hx⟩
      | some f =>
        have hok := hf.2 f hy
        have g3 := yFl_ge hy
        have c44 := yH_42 (τ := τ) (p := f.2) (c := 44) (by decide)
        show (if f.2 < yE τ ∧ yT τ f.2.toNatClampNeg = 44 then sWF E (yT τ) (yE τ) k (zSto w f.1.toInt64.toInt32 (zOfL x.1.toInt64)) (f.2 + 1) else some (zSto w f.1.toInt64.toInt32 (zOfL x.1.toInt64), f.2)) = (if yH τ f.2 = 44 then yWF τ k' (yPut w f.1 (yOf x.1)) (f.2 + 1) else some (yPut w f.1 (yOf x.1), f.2)) ∧ ∀ z, (if yH τ f.2 = 44 then yWF τ k' (yPut w f.1 (yOf x.1)) (f.2 + 1) else some (yPut w f.1 (yOf x.1), f.2)) = some z → wOk z.1
        rw [Int32.toInt32_toInt64, zOf_yOf, zSto_ok hok]
        have hn := yPut_nn hok hw (yOf x.1)
        by_cases g : yH τ f.2 = 44
        · rw [if_pos (c44.1 g), if_pos g]
          have hi := zInc (c44.1 g).1
          have hlt := Int32.lt_iff_toInt_lt.mp (c44.1 g).1
          exact words_ok hE h240 k k' _ _ hn (by omega) (by omega) (by omega) (by omega)
        · rw [if_neg (fun h => g (c44.2 h)), if_neg g]
          exact ⟨rfl, fun x hx => by cases hx; exact hn⟩
theorem words_ok' {E : Int32 → Option (Int64 × Int32)} {τ : zS} (hE : eRel E τ) (h240 : (yE τ).toInt ≤ 240) {p : Int32} (h0 : 0 ≤ p.toInt) (h1 : p.toInt ≤ (yE τ).toInt) : sWF E (yT τ) (yE τ) 240 0 p = yWs τ 0 p ∧ ∀ x, yWs τ 0 p = some x → wOk x.1 :=
  words_ok hE h240 240 _ 0 p (by decide) h0 h1 (by omega) (Nat.le_refl _)
