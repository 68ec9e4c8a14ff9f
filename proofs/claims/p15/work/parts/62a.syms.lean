/-! SYMBOLS: the same on both sides -/
theorem yLast_no {N : Nat → Int64} {nm : Int64} : ∀ (k i : Nat) (f : Int32), (∀ j, i ≤ j → j < i + k → ¬ N j = nm) → yLast N nm k i f = f
  | 0, _, _, _ => rfl
  | k + 1, i, f, h => by
    unfold yLast
    rw [if_neg (h i (by omega) (by omega))]
    exact yLast_no k (i + 1) f (fun j h1 h2 => h j (by omega) (by omega))
theorem yLast_at {N : Nat → Int64} {nm : Int64} : ∀ (k i : Nat) (f : Int32) (j : Nat), i ≤ j → j < i + k → N j = nm → (∀ j', i ≤ j' → j' < i + k → N j' = nm → j' = j) → yLast N nm k i f = Int32.ofNat j
  | 0, _, _, _, h1, h2, _, _ => by omega
  | k + 1, i, f, j, h1, h2, h3, h4 => by
    unfold yLast
    by_cases e : i = j
    · rw [if_pos (by rw [e]; exact h3), e]
      exact yLast_no k (j + 1) _ (fun j' a b c => by
        have := h4 j' (by omega) (by omega) c
        omega)
    · exact yLast_at k (i + 1) _ j (by omega) (by omega) h3 (fun j' a b c => h4 j' (by omega) (by omega) c)
theorem tn_of {n : Nat} (h : n ≤ 1000) : (Int32.ofNat n).toNatClampNeg = n := by
  show (Int32.ofNat n).toInt.toNat = n
  rw [zOfI h]
  omega
theorem of_tn {x : Int32} (h : 0 ≤ x.toInt) : Int32.ofNat x.toNatClampNeg = x := by
  apply Int32.toInt_inj.mp
  have := Int32.toInt_lt x
  show (Int32.ofNat x.toInt.toNat).toInt = _
  rw [Int32.toInt_ofNat_of_lt (by omega)]
  omega
theorem tn_i {x : Int32} (h : 0 ≤ x.toInt) : (x.toNatClampNeg : Int) = x.toInt := by
  show ((x.toInt.toNat : Nat) : Int) = _
  omega
/-- names: as many, the same, all different; values: none on both sides, or the same -/
def nmR (c : Int32) (N N' : Nat → Int64) : Prop := (0 ≤ c.toInt ∧ c.toInt ≤ 30) ∧ (∀ i, i < c.toNatClampNeg → N i = N' i) ∧ (∀ i j, i < c.toNatClampNeg → j < c.toNatClampNeg → N i = N j → i = j)
def vlR (n : Nat) (V H X : Nat → Int32) : Prop := ∀ i, i < n → (V i = -1 ∧ H i = 0) ∨ (wOk (V i) ∧ V i = X i ∧ ¬ H i = 0)
theorem find_ok {c : Int32} {N N' : Nat → Int64} (h : nmR c N N') (nm : Int64) : (∃ i, i < c.toNatClampNeg ∧ N i = nm ∧ zFi N nm c 0 = Int32.ofNat i ∧ zFi N nm c 0 < c ∧ yLast N' nm c.toInt.toNat 0 (-1) = Int32.ofNat i) ∨ ((∀ i, i < c.toNatClampNeg → ¬ N i = nm) ∧ ¬ zFi N nm c 0 < c ∧ yLast N' nm c.toInt.toNat 0 (-1) = -1) := by
  obtain ⟨⟨h0, h30⟩, hN, hD⟩ := h
  have hc := tn_i h0
  have hct : c.toInt.toNat = c.toNatClampNeg := rfl
  have hle := zSc_le (fun k => !decide (N k.toNatClampNeg = nm)) c 0
  have hq : zSc (fun k => !decide (N k.toNatClampNeg = nm)) c 0 = zFi N nm c 0 := rfl
  rw [hq, i0] at hle
  by_cases g : zFi N nm c 0 < c
  · left
    have g' := Int32.lt_iff_toInt_lt.mp g
    have e1 := hle.2.2 g'
    have e2 : N (zFi N nm c 0).toNatClampNeg = nm := by simpa using e1
    have e3 := tn_i hle.1
    have e4 : (zFi N nm c 0).toNatClampNeg < c.toNatClampNeg := by omega
    refine ⟨(zFi N nm c 0).toNatClampNeg, e4, e2, (of_tn hle.1).symm, g, ?_⟩
    rw [hct]
    exact yLast_at _ 0 _ _ (by omega) (by omega) (by rw [← hN _ e4]; exact e2) (fun j' _ b d => hD _ _ (by omega) e4 (by rw [hN _ (by omega), d, e2]))
  · right
    have hno : ∀ i, i < c.toNatClampNeg → ¬ N i = nm := fun i hi e => by
      have e5 := zOfI (n := i) (by omega)
      have g' : ¬ (zFi N nm c 0).toInt < c.toInt := fun k => g (Int32.lt_iff_toInt_lt.mpr k)
      have := zSc_all (p := fun k => !decide (N k.toNatClampNeg = nm)) (e := c) (a := 0) (k := Int32.ofNat i) (by rw [i0, e5]; omega) (by rw [hq, e5]; omega)
      have e6 : N (Int32.ofNat i).toNatClampNeg = nm := by rw [tn_of (by omega)]; exact e
      simp [e6] at this
    refine ⟨hno, g, ?_⟩
    rw [hct]
    exact yLast_no _ 0 _ (fun j _ b => by
      rw [← hN j (by omega)]
      exact hno j (by omega))
def symR (σ τ : zS) : Prop := xCn σ = yCn τ ∧ nmR (xCn σ) (σ.2.2.2.1 13) (τ.2.2.2.1 35) ∧ vlR (xCn σ).toNatClampNeg (σ.2.2.1 14) (τ.2.2.1 36) (τ.2.2.1 37)
/-- a symbol is found on both sides at the same place, or on none -/
theorem sym_find {σ τ : zS} (h : symR σ τ) (nm : Int64) : (∃ i, i < (xCn σ).toNatClampNeg ∧ i < 30 ∧ σ.2.2.2.1 13 i = nm ∧ xIx σ nm = Int32.ofNat i ∧ xIx σ nm < xCn σ ∧ yFd τ nm = Int32.ofNat i) ∨ ((∀ i, i < (xCn σ).toNatClampNeg → ¬ σ.2.2.2.1 13 i = nm) ∧ ¬ xIx σ nm < xCn σ ∧ yFd τ nm = -1) := by
  have h30 := h.2.1.1
  have hc := tn_i h30.1
  have hf := find_ok h.2.1 nm
  have e : yFd τ nm = yLast (τ.2.2.2.1 35) nm (xCn σ).toInt.toNat 0 (-1) := by rw [h.1]
  rw [e]
  rcases hf with ⟨i, a, b, c, d, f⟩ | ⟨a, b, c⟩
  · exact .inl ⟨i, a, by omega, b, c, d, f⟩
  · exact .inr ⟨a, b, c⟩
theorem ofN_ge {i : Nat} (h : i < 1000) : ¬ Int32.ofNat i < 0 := by
  rw [Int32.lt_iff_toInt_lt, zOfI (by omega), i0]
  omega
theorem sym_lRel {σ τ : zS} (h : symR σ τ) : lRel (xL σ) τ := by
  intro nm
  have hv := h.2.2
  show (zLk (σ.2.2.2.1 13) (σ.2.2.1 14) (σ.1 12 2) nm = -1 ∧ _) ∨ _
  have e : xL σ nm = if xIx σ nm < xCn σ then σ.2.2.1 14 (xIx σ nm).toNatClampNeg else -1 := rfl
  have hf : ∀ i, i < 30 → yHas τ (Int32.ofNat i) = ¬ τ.2.2.1 36 i = 0 := fun i hi => by
    show (¬ τ.2.2.1 36 (Int32.ofNat i).toNatClampNeg = 0) = _
    rw [tn_of (by omega)]
  rcases sym_find h nm with ⟨i, a, a', b, c, d, f⟩ | ⟨a, b, c⟩
  · rw [if_pos d, c, tn_of (by omega)] at e
    rcases hv i a with ⟨v1, v2⟩ | ⟨v1, v2, v3⟩
    · left
      refine ⟨e.trans v1, fun k => ?_⟩
      rw [f, hf i a'] at k
      exact k.2 v2
    · right
      rw [f, hf i a', tn_of (by omega)]
      have e' : xL σ nm = σ.2.2.1 14 i := e
      refine ⟨by rw [e']; exact v1, e'.trans v2, ofN_ge (by omega), v3⟩
  · left
    rw [if_neg b] at e
    refine ⟨e, fun k => k.1 ?_⟩
    rw [c]
    decide
/-- a new symbol -/
theorem sym_new {σ τ : zS} (h : symR σ τ) {nm : Int64} (hn : ∀ i, i < (xCn σ).toNatClampNeg → ¬ σ.2.2.2.1 13 i = nm) (hc : xCn σ < 30) : symR (zNew σ nm) (yNew τ nm) := by
  obtain ⟨h1, ⟨⟨h0, h30⟩, hN, hD⟩, hV⟩ := h
  have hlt := Int32.lt_iff_toInt_lt.mp hc
  rw [show (30 : Int32).toInt = 30 from rfl] at hlt
  have hi : (xCn σ + 1).toInt = (xCn σ).toInt + 1 := zInc hc
  have e0 := tn_i h0
  have e1 := tn_i (x := xCn σ + 1) (by omega)
  have hb : vp_nar .boolean 0 = 0 := by decide
  refine ⟨?_, ⟨⟨?_, ?_⟩, ?_, ?_⟩, ?_⟩
  · show xCn σ + 1 = yCn τ + 1
    rw [h1]
  · show 0 ≤ (xCn σ + 1).toInt
    omega
  · show (xCn σ + 1).toInt ≤ 30
    omega
  · intro i hi'
    have hi2 : i < (xCn σ + 1).toNatClampNeg := hi'
    show vp_updL (σ.2.2.2.1 13) (xCn σ).toNatClampNeg nm i = vp_updL (τ.2.2.2.1 35) (yCn τ).toNatClampNeg nm i
    rw [vp_updL_eq, vp_updL_eq, ← h1]
    by_cases k : i = (xCn σ).toNatClampNeg
    · rw [if_pos k, if_pos k]
    · rw [if_neg k, if_neg k]
      exact hN i (by omega)
  · intro i j hi' hj' e
    have hi2 : i < (xCn σ + 1).toNatClampNeg := hi'
    have hj2 : j < (xCn σ + 1).toNatClampNeg := hj'
    have e2 : vp_updL (σ.2.2.2.1 13) (xCn σ).toNatClampNeg nm i = vp_updL (σ.2.2.2.1 13) (xCn σ).toNatClampNeg nm j := e
    rw [vp_updL_eq, vp_updL_eq] at e2
    by_cases k : i = (xCn σ).toNatClampNeg <;> by_cases k2 : j = (xCn σ).toNatClampNeg
    · omega
    · rw [if_pos k, if_neg k2] at e2
      exact absurd e2.symm (hn j (by omega))
    · rw [if_neg k, if_pos k2] at e2
      exact absurd e2 (hn i (by omega))
    · rw [if_neg k, if_neg k2] at e2
      exact hD i j (by omega) (by omega) e2
  · intro i hi'
    have hi2 : i < (xCn σ + 1).toNatClampNeg := hi'
    show (upd (σ.2.2.1 14) (xCn σ).toNatClampNeg (-1) i = -1 ∧ upd (τ.2.2.1 36) (yCn τ).toNatClampNeg (vp_nar .boolean 0) i = 0) ∨ (wOk (upd (σ.2.2.1 14) (xCn σ).toNatClampNeg (-1) i) ∧ upd (σ.2.2.1 14) (xCn σ).toNatClampNeg (-1) i = τ.2.2.1 37 i ∧ ¬ upd (τ.2.2.1 36) (yCn τ).toNatClampNeg (vp_nar .boolean 0) i = 0)
    rw [upd_eq, upd_eq, ← h1, hb]
    by_cases k : i = (xCn σ).toNatClampNeg
    · rw [if_pos k, if_pos k]
      exact .inl ⟨rfl, rfl⟩
    · rw [if_neg k, if_neg k]
      exact hV i (by omega)
