/-! INDEX AND F: the same on both sides -/
theorem up_ok {y : Option (Int32 × Int32)} {m : Int32} (hm : 0 ≤ m.toInt) : sUp (toL y) m = (match y with
  | none => none
  | some y => if ¬ y.1 < 0 ∧ ¬ m < y.1 then some y else none) := by
  cases y with
  | none => rfl
  | some y =>
    show (if ¬ y.1.toInt64.toInt < 0 ∧ y.1.toInt64.toInt ≤ m.toInt then some (y.1.toInt64.toInt32, y.2) else none) = (if ¬ y.1 < 0 ∧ ¬ m < y.1 then some y else none)
    have e : (¬ y.1.toInt64.toInt < 0 ∧ y.1.toInt64.toInt ≤ m.toInt) ↔ (¬ y.1 < 0 ∧ ¬ m < y.1) := by
      rw [Int32.toInt_toInt64, Int32.lt_iff_toInt_lt, Int32.lt_iff_toInt_lt, i0]
      omega
    rw [Int32.toInt32_toInt64]
    by_cases h : ¬ y.1 < 0 ∧ ¬ m < y.1
    · rw [if_pos (e.2 h), if_pos h]
    · rw [if_neg (fun g => h (e.1 g)), if_neg h]
theorem uN_le {x m : Int32} (h0 : ¬ x < 0) (h : ¬ m < x) (hm : 0 ≤ m.toInt) : uN x ≤ uN m := by
  rw [Int32.lt_iff_toInt_lt] at h0 h
  rw [i0] at h0
  have h1 := (uN_nn (x := x) (by omega)).2
  have h2 := (uN_nn hm).2
  omega
theorem ix_ok {E : Int32 → Option (Int64 × Int32)} {τ : zS} (hE : eRel E τ) (h240 : (yE τ).toInt ≤ 240) {p : Int32} (h0 : 0 ≤ p.toInt) (h1 : p.toInt ≤ (yE τ).toInt) : sIx E (yT τ) (yE τ) p = yIx τ p ∧ ∀ x, yIx τ p = some x → uN x.1 ≤ 6 ∧ p.toInt ≤ x.2.toInt ∧ x.2.toInt ≤ (yE τ).toInt := by
  have c44 := yH_42 (τ := τ) (p := p) (c := 44) (by decide)
  unfold sIx yIx
  by_cases g : yH τ p = 44
  · rw [if_pos (c44.1 g), if_pos g]
    have hi := zInc (c44.1 g).1
    have hlt := Int32.lt_iff_toInt_lt.mp (c44.1 g).1
    rw [(hE (p + 1) (by omega) (by omega)).1, up_ok (by decide)]
    refine ⟨rfl, fun x hx => ?_⟩
    cases hy : yEx τ (p + 1) with
    | none => rw [hy] at hx; cases hx
    | some y =>
      rw [hy] at hx
      have h3 := yEx_ge hy
      dsimp only at hx
      split at hx
      · rename_i k
        cases hx
        exact ⟨uN_le k.1 k.2 (by decide), by omega, by omega⟩
      · cases hx
  · rw [if_neg (fun h => g (c44.2 h)), if_neg g]
    exact ⟨rfl, fun x hx => by cases hx; exact ⟨show uN 0 ≤ 6 by decide, Int.le_refl _, h1⟩⟩
theorem fx_ok {E : Int32 → Option (Int64 × Int32)} {τ : zS} (hE : eRel E τ) (h240 : (yE τ).toInt ≤ 240) {c n f p : Int32} (ht : zTel c ↔ ¬ n < 8192) (hf : uN f ≤ 63) (h0 : 0 ≤ p.toInt) (h1 : p.toInt ≤ (yE τ).toInt) : (match sFx E (yT τ) (yE τ) c f p with
    | none => none
    | some y => if y.2 < yE τ then none else some y.1) = (match yFx τ n f p with
    | none => none
    | some y => if y.2 = yE τ then some y.1 else none) ∧ ∀ x, yFx τ n f p = some x → uN x.1 ≤ 63 := by
  have c40 := yH_42 (τ := τ) (p := p) (c := 40) (by decide)
  have fin : ∀ (q v : Int32), q.toInt ≤ (yE τ).toInt → (if q < yE τ then none else some v) = (if q = yE τ then some v else none) := fun q v hq => by
    by_cases k : q = yE τ
    · rw [if_pos k, if_neg (by rw [k, Int32.lt_iff_toInt_lt]; omega)]
    · rw [if_neg k, if_pos]
      rw [Int32.lt_iff_toInt_lt]
      have : ¬ q.toInt = (yE τ).toInt := fun e => k (Int32.toInt_inj.mp e)
      omega
  unfold sFx yFx
  by_cases g : yH τ p = 40
  · rw [if_pos g]
    have hi := zInc (c40.1 g).1
    have hlt := Int32.lt_iff_toInt_lt.mp (c40.1 g).1
    by_cases hn : n < 8192
    · have hnt : ¬ zTel c := fun k => ht.1 k hn
      rw [if_pos ⟨hnt, c40.1 g⟩, (hE (p + 1) (by omega) (by omega)).1, up_ok (by decide)]
      cases hy : yEx τ (p + 1) with
      | none => exact ⟨rfl, fun x hx => by cases hx⟩
      | some y =>
        have c41 := yH_42 (τ := τ) (p := y.2) (c := 41) (by decide)
        dsimp only
        by_cases k : ¬ y.1 < 0 ∧ ¬ 63 < y.1
        · rw [if_pos k]
          dsimp only
          by_cases k1 : yH τ y.2 = 41
          · rw [if_pos (c41.1 k1), if_pos ⟨k1, k.1, k.2, hn⟩]
            have hj := zInc (c41.1 k1).1
            have hlt2 := Int32.lt_iff_toInt_lt.mp (c41.1 k1).1
            exact ⟨fin (y.2 + 1) y.1 (by omega), fun x hx => by cases hx; exact uN_le k.1 k.2 (by decide)⟩
          · rw [if_neg (fun h => k1 (c41.2 h)), if_neg (fun h => k1 h.1)]
            exact ⟨rfl, fun x hx => by cases hx⟩
        · rw [if_neg k, if_neg (fun h => k ⟨h.2.1, h.2.2.1⟩)]
          exact ⟨rfl, fun x hx => by cases hx⟩
    · rw [if_neg (fun h => h.1 (ht.2 hn))]
      have hno : ∀ y : Int32 × Int32, ¬ (yH τ y.2 = 41 ∧ ¬ y.1 < 0 ∧ ¬ 63 < y.1 ∧ n < 8192) := fun y h => hn h.2.2.2
      dsimp only
      rw [if_pos (c40.1 g).1]
      cases hy : yEx τ (p + 1) with
      | none => exact ⟨rfl, fun x hx => by cases hx⟩
      | some y =>
        dsimp only
        rw [if_neg (hno y)]
        exact ⟨rfl, fun x hx => by cases hx⟩
  · rw [if_neg (fun h => g (c40.2 h.2)), if_neg g]
    exact ⟨fin p f h1, fun x hx => by cases hx; exact hf⟩
theorem if_ok {E : Int32 → Option (Int64 × Int32)} {τ : zS} (hE : eRel E τ) (h240 : (yE τ).toInt ≤ 240) {c n f p : Int32} (ht : zTel c ↔ ¬ n < 8192) (hf : uN f ≤ 63) (h0 : 0 ≤ p.toInt) (h1 : p.toInt ≤ (yE τ).toInt) : sIF E (yT τ) (yE τ) c f p = yIF τ n f p ∧ ∀ x, yIF τ n f p = some x → uN x.1 ≤ 6 ∧ uN x.2 ≤ 63 := by
  unfold sIF yIF
  have hx := ix_ok hE h240 h0 h1
  rw [hx.1]
  cases hi : yIx τ p with
  | none => exact ⟨rfl, fun x hx => by cases hx⟩
  | some i =>
    have h2 := hx.2 i hi
    have hy := fx_ok hE h240 ht hf (p := i.2) (by omega) h2.2.2
    dsimp only
    cases hs : sFx E (yT τ) (yE τ) c f i.2 with
    | none =>
      cases hr : yFx τ n f i.2 with
      | none => exact ⟨rfl, fun x hx => by cases hx⟩
      | some y =>
        have e := hy.1
        rw [hs, hr] at e
        dsimp only at e ⊢
        split at e
        · cases e
        · rename_i k
          rw [if_neg k]
          exact ⟨rfl, fun x hx => by cases hx⟩
    | some s =>
      cases hr : yFx τ n f i.2 with
      | none =>
        have e := hy.1
        rw [hs, hr] at e
        dsimp only at e ⊢
        split at e
        · rename_i k
          rw [if_pos k]
          exact ⟨rfl, fun x hx => by cases hx⟩
        · cases e
      | some y =>
        have e := hy.1
        have h63 := hy.2 y hr
        rw [hs, hr] at e
        dsimp only at e ⊢
        by_cases k : s.2 < yE τ
        · rw [if_pos k] at e ⊢
          by_cases k2 : y.2 = yE τ
          · rw [if_pos k2] at e
            cases e
          · rw [if_neg k2]
            exact ⟨rfl, fun x hx => by cases hx⟩
        · rw [if_neg k] at e ⊢
          by_cases k2 : y.2 = yE τ
          · rw [if_pos k2] at e ⊢
            have e' : s.1 = y.1 := Option.some.inj e
            rw [e']
            exact ⟨rfl, fun x hx => by cases hx; exact ⟨h2.1, h63⟩⟩
          · rw [if_neg k2] at e
            cases e
/-- the reference's end of an instruction, by both readings at once -/
theorem yInP_if {τ : zS} {x n : Int32} {σ' : zS} (h : yInP τ x n σ') : (yIF τ n (yF0 n) (yP τ) = none ∧ ¬ yB σ' = 0) ∨ ∃ i f q, yIF τ n (yF0 n) (yP τ) = some (i, f) ∧ ((¬ yPlc (yPl τ) ∧ ¬ yB σ' = 0) ∨ (yPlc (yPl τ) ∧ zI (yStd (zPb2 τ q 0) (yPl τ) (yWd x i f n)) 25 24 (yPl τ + 1) = σ')) := by
  unfold yIF
  rcases h with ⟨h1, h2⟩ | ⟨i, q, h1, h2⟩
  · left
    rw [h1]
    exact ⟨rfl, h2⟩
  · rw [h1]
    rcases h2 with ⟨h3, h4⟩ | ⟨y, q', h3, h4⟩
    · left
      dsimp only
      rw [h3]
      exact ⟨rfl, h4⟩
    · dsimp only
      rw [h3]
      dsimp only
      rcases h4 with ⟨h5, h6⟩ | ⟨h5, h6⟩
      · left
        rw [if_neg h5]
        exact ⟨rfl, h6⟩
      · right
        rw [if_pos h5]
        exact ⟨i, y, q', rfl, h6⟩
