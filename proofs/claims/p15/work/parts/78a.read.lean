/-! WHAT THE RELATION READS, printed by program -/
abbrev cK (σ : zS) : Int32 × Int32 × Int32 × Int32 × Int32 × Int32 × Int32 × Int32 × Int32 × Int32 × Int32 × Int32 × (Nat → Int32) × (Nat → Int32) × (Nat → Int32) × (Nat → Int32) × (Nat → Int32) × (Nat → Int32) × (Nat → Int32) := (σ.1 7 3, σ.1 7 4, σ.1 7 5, σ.1 7 6, σ.1 7 7, σ.1 7 8, σ.1 7 9, σ.1 2 5, σ.1 2 6, σ.1 2 7, σ.1 2 8, σ.1 9 1, σ.2.2.1 1, σ.2.2.1 8, σ.2.2.1 3, σ.2.2.1 6, σ.2.2.1 4, σ.2.2.1 5, σ.2.2.1 10)
abbrev qK (σ : zS) : Int32 × Int32 × Int32 × Int32 × Int32 × Int32 × Int32 × Int32 × Int32 × Int32 × (Nat → Int32) × (Nat → Int32) × (Nat → Int32) × (Nat → Int32) × (Nat → Int32) × (Nat → Int32) × (Nat → Int32) := (σ.1 25 3, σ.1 25 5, σ.1 25 6, σ.1 25 10, σ.1 25 8, σ.1 25 9, σ.1 25 12, σ.1 25 13, σ.1 25 15, σ.1 25 18, σ.2.2.1 26, σ.2.2.1 27, σ.2.2.1 28, σ.2.2.1 29, σ.2.2.1 30, σ.2.2.1 31, σ.2.2.1 32)
theorem cK_to {h : mH} {σ : zS} (h1 : h[158 + 1]? = some (zCell σ 1)) (h2 : h[158 + 2]? = some (zCell σ 2)) (h3 : h[158 + 3]? = some (zCell σ 3)) (h4 : h[158 + 4]? = some (zCell σ 4)) (h5 : h[158 + 5]? = some (zCell σ 5)) (h6 : h[158 + 6]? = some (zCell σ 6)) (h7 : h[158 + 7]? = some (zCell σ 7)) (h8 : h[158 + 8]? = some (zCell σ 8)) (h9 : h[158 + 9]? = some (zCell σ 9)) (h10 : h[158 + 10]? = some (zCell σ 10)) : cK (zOf h) = cK σ := by
  have i7_3 : gI h 7 3 = σ.1 7 3 := by
    unfold gI
    rw [h7]
    rfl
  have i7_4 : gI h 7 4 = σ.1 7 4 := by
    unfold gI
    rw [h7]
    rfl
  have i7_5 : gI h 7 5 = σ.1 7 5 := by
    unfold gI
    rw [h7]
    rfl
  have i7_6 : gI h 7 6 = σ.1 7 6 := by
    unfold gI
    rw [h7]
    rfl
  have i7_7 : gI h 7 7 = σ.1 7 7 := by
    unfold gI
    rw [h7]
    rfl
  have i7_8 : gI h 7 8 = σ.1 7 8 := by
    unfold gI
    rw [h7]
    rfl
  have i7_9 : gI h 7 9 = σ.1 7 9 := by
    unfold gI
    rw [h7]
    rfl
  have i2_5 : gI h 2 5 = σ.1 2 5 := by
    unfold gI
    rw [h2]
    rfl
  have i2_6 : gI h 2 6 = σ.1 2 6 := by
    unfold gI
    rw [h2]
    rfl
  have i2_7 : gI h 2 7 = σ.1 2 7 := by
    unfold gI
    rw [h2]
    rfl
  have i2_8 : gI h 2 8 = σ.1 2 8 := by
    unfold gI
    rw [h2]
    rfl
  have i9_1 : gI h 9 1 = σ.1 9 1 := by
    unfold gI
    rw [h9]
    rfl
  have a1 : gA h 1 = σ.2.2.1 1 := by
    unfold gA
    rw [h1]
    rfl
  have a8 : gA h 8 = σ.2.2.1 8 := by
    unfold gA
    rw [h8]
    rfl
  have a3 : gA h 3 = σ.2.2.1 3 := by
    unfold gA
    rw [h3]
    rfl
  have a6 : gA h 6 = σ.2.2.1 6 := by
    unfold gA
    rw [h6]
    rfl
  have a4 : gA h 4 = σ.2.2.1 4 := by
    unfold gA
    rw [h4]
    rfl
  have a5 : gA h 5 = σ.2.2.1 5 := by
    unfold gA
    rw [h5]
    rfl
  have a10 : gA h 10 = σ.2.2.1 10 := by
    unfold gA
    rw [h10]
    rfl
  show (gI h 7 3, gI h 7 4, gI h 7 5, gI h 7 6, gI h 7 7, gI h 7 8, gI h 7 9, gI h 2 5, gI h 2 6, gI h 2 7, gI h 2 8, gI h 9 1, gA h 1, gA h 8, gA h 3, gA h 6, gA h 4, gA h 5, gA h 10) = _
  rw [i7_3, i7_4, i7_5, i7_6, i7_7, i7_8, i7_9, i2_5, i2_6, i2_7, i2_8, i9_1, a1, a8, a3, a6, a4, a5, a10]
theorem cK_le {c0 h : mH} {σ : zS} (hl : c0.length = 158) (hm : mLe (zH c0 σ) h) : cK (zOf h) = cK σ := cK_to (le_cell hl hm (by decide) rfl) (le_cell hl hm (by decide) rfl) (le_cell hl hm (by decide) rfl) (le_cell hl hm (by decide) rfl) (le_cell hl hm (by decide) rfl) (le_cell hl hm (by decide) rfl) (le_cell hl hm (by decide) rfl) (le_cell hl hm (by decide) rfl) (le_cell hl hm (by decide) rfl) (le_cell hl hm (by decide) rfl)
theorem cK_le5 {c0 h : mH} {σ : zS} {x : mC} (hl : c0.length = 158) (hm : mLe ((zH c0 σ).set 205 x) h) : cK (zOf h) = cK σ := cK_to (le_cell5 hl hm (by decide) rfl) (le_cell5 hl hm (by decide) rfl) (le_cell5 hl hm (by decide) rfl) (le_cell5 hl hm (by decide) rfl) (le_cell5 hl hm (by decide) rfl) (le_cell5 hl hm (by decide) rfl) (le_cell5 hl hm (by decide) rfl) (le_cell5 hl hm (by decide) rfl) (le_cell5 hl hm (by decide) rfl) (le_cell5 hl hm (by decide) rfl)
theorem qK_to {h : mH} {σ : zS} (h25 : h[158 + 25]? = some (zCell σ 25)) (h26 : h[158 + 26]? = some (zCell σ 26)) (h27 : h[158 + 27]? = some (zCell σ 27)) (h28 : h[158 + 28]? = some (zCell σ 28)) (h29 : h[158 + 29]? = some (zCell σ 29)) (h30 : h[158 + 30]? = some (zCell σ 30)) (h31 : h[158 + 31]? = some (zCell σ 31)) (h32 : h[158 + 32]? = some (zCell σ 32)) : qK (zOf h) = qK σ := by
  have i25_3 : gI h 25 3 = σ.1 25 3 := by
    unfold gI
    rw [h25]
    rfl
  have i25_5 : gI h 25 5 = σ.1 25 5 := by
    unfold gI
    rw [h25]
    rfl
  have i25_6 : gI h 25 6 = σ.1 25 6 := by
    unfold gI
    rw [h25]
    rfl
  have i25_10 : gI h 25 10 = σ.1 25 10 := by
    unfold gI
    rw [h25]
    rfl
  have i25_8 : gI h 25 8 = σ.1 25 8 := by
    unfold gI
    rw [h25]
    rfl
  have i25_9 : gI h 25 9 = σ.1 25 9 := by
    unfold gI
    rw [h25]
    rfl
  have i25_12 : gI h 25 12 = σ.1 25 12 := by
    unfold gI
    rw [h25]
    rfl
  have i25_13 : gI h 25 13 = σ.1 25 13 := by
    unfold gI
    rw [h25]
    rfl
  have i25_15 : gI h 25 15 = σ.1 25 15 := by
    unfold gI
    rw [h25]
    rfl
  have i25_18 : gI h 25 18 = σ.1 25 18 := by
    unfold gI
    rw [h25]
    rfl
  have a26 : gA h 26 = σ.2.2.1 26 := by
    unfold gA
    rw [h26]
    rfl
  have a27 : gA h 27 = σ.2.2.1 27 := by
    unfold gA
    rw [h27]
    rfl
  have a28 : gA h 28 = σ.2.2.1 28 := by
    unfold gA
    rw [h28]
    rfl
  have a29 : gA h 29 = σ.2.2.1 29 := by
    unfold gA
    rw [h29]
    rfl
  have a30 : gA h 30 = σ.2.2.1 30 := by
    unfold gA
    rw [h30]
    rfl
  have a31 : gA h 31 = σ.2.2.1 31 := by
    unfold gA
    rw [h31]
    rfl
  have a32 : gA h 32 = σ.2.2.1 32 := by
    unfold gA
    rw [h32]
    rfl
  show (gI h 25 3, gI h 25 5, gI h 25 6, gI h 25 10, gI h 25 8, gI h 25 9, gI h 25 12, gI h 25 13, gI h 25 15, gI h 25 18, gA h 26, gA h 27, gA h 28, gA h 29, gA h 30, gA h 31, gA h 32) = _
  rw [i25_3, i25_5, i25_6, i25_10, i25_8, i25_9, i25_12, i25_13, i25_15, i25_18, a26, a27, a28, a29, a30, a31, a32]
theorem qK_le {c0 h : mH} {σ : zS} (hl : c0.length = 158) (hm : mLe (zH c0 σ) h) : qK (zOf h) = qK σ := qK_to (le_cell hl hm (by decide) rfl) (le_cell hl hm (by decide) rfl) (le_cell hl hm (by decide) rfl) (le_cell hl hm (by decide) rfl) (le_cell hl hm (by decide) rfl) (le_cell hl hm (by decide) rfl) (le_cell hl hm (by decide) rfl) (le_cell hl hm (by decide) rfl)
theorem qK_le5 {c0 h : mH} {σ : zS} {x : mC} (hl : c0.length = 158) (hm : mLe ((zH c0 σ).set 205 x) h) : qK (zOf h) = qK σ := qK_to (le_cell5 hl hm (by decide) rfl) (le_cell5 hl hm (by decide) rfl) (le_cell5 hl hm (by decide) rfl) (le_cell5 hl hm (by decide) rfl) (le_cell5 hl hm (by decide) rfl) (le_cell5 hl hm (by decide) rfl) (le_cell5 hl hm (by decide) rfl) (le_cell5 hl hm (by decide) rfl)
theorem qK_c {σ σ1 : zS} (h : cFr σ σ1) : qK σ1 = qK σ := by
  show (σ1.1 25 3, σ1.1 25 5, σ1.1 25 6, σ1.1 25 10, σ1.1 25 8, σ1.1 25 9, σ1.1 25 12, σ1.1 25 13, σ1.1 25 15, σ1.1 25 18, σ1.2.2.1 26, σ1.2.2.1 27, σ1.2.2.1 28, σ1.2.2.1 29, σ1.2.2.1 30, σ1.2.2.1 31, σ1.2.2.1 32) = _
  rw [h.1 25 (by decide) 3, h.1 25 (by decide) 5, h.1 25 (by decide) 6, h.1 25 (by decide) 10, h.1 25 (by decide) 8, h.1 25 (by decide) 9, h.1 25 (by decide) 12, h.1 25 (by decide) 13, h.1 25 (by decide) 15, h.1 25 (by decide) 18, h.2 26 (by decide), h.2 27 (by decide), h.2 28 (by decide), h.2 29 (by decide), h.2 30 (by decide), h.2 31 (by decide), h.2 32 (by decide)]
theorem cK_q {τ τ1 : zS} (h : qFr τ τ1) : cK τ1 = cK τ := by
  show (τ1.1 7 3, τ1.1 7 4, τ1.1 7 5, τ1.1 7 6, τ1.1 7 7, τ1.1 7 8, τ1.1 7 9, τ1.1 2 5, τ1.1 2 6, τ1.1 2 7, τ1.1 2 8, τ1.1 9 1, τ1.2.2.1 1, τ1.2.2.1 8, τ1.2.2.1 3, τ1.2.2.1 6, τ1.2.2.1 4, τ1.2.2.1 5, τ1.2.2.1 10) = _
  rw [h.1 7 (by decide) 3, h.1 7 (by decide) 4, h.1 7 (by decide) 5, h.1 7 (by decide) 6, h.1 7 (by decide) 7, h.1 7 (by decide) 8, h.1 7 (by decide) 9, h.1 2 (by decide) 5, h.1 2 (by decide) 6, h.1 2 (by decide) 7, h.1 2 (by decide) 8, h.1 9 (by decide) 1, h.2.2.1 1 (by decide), h.2.2.1 8 (by decide), h.2.2.1 3 (by decide), h.2.2.1 6 (by decide), h.2.2.1 4 (by decide), h.2.2.1 5 (by decide), h.2.2.1 10 (by decide)]
/-- both sides at rest: processors, texts, the count of steps -/
def pT (σ τ : zS) (f : Nat → Int32) (len : Int32) : Prop := pQ σ τ ∧ (σ.2.2.1 10 = f ∧ σ.1 9 1 = len) ∧ (τ.2.2.1 32 = f ∧ τ.1 25 18 = len) ∧ okT f len ∧ 0 ≤ (σ.1 7 7).toInt ∧ (σ.1 2 8).toInt ≤ (σ.1 7 7).toInt
theorem pQ_cg {σ τ σ' τ' : zS} (hc : cK σ' = cK σ) (hq : qK τ' = qK τ) (h : pQ σ τ) : pQ σ' τ' := by
  simp only [cK, Prod.mk.injEq] at hc
  simp only [qK, Prod.mk.injEq] at hq
  obtain ⟨c7_3, c7_4, c7_5, c7_6, c7_7, c7_8, c7_9, c2_5, c2_6, c2_7, c2_8, c9_1, ca1, ca8, ca3, ca6, ca4, ca5, ca10⟩ := hc
  obtain ⟨q25_3, q25_5, q25_6, q25_10, q25_8, q25_9, q25_12, q25_13, q25_15, q25_18, qa26, qa27, qa28, qa29, qa30, qa31, qa32⟩ := hq
  have M_ := ca1.trans ((show _ from h.M).trans qa26.symm)
  have R_ := ca8.trans ((show _ from h.R).trans qa27.symm)
  have tg_ := c7_3.trans ((show _ from h.tg).trans q25_3.symm)
  have id_ := c7_4.trans ((show _ from h.id).trans q25_5.symm)
  have pl_ := c7_5.trans ((show _ from h.pl).trans q25_6.symm)
  have st_ := c7_6.trans ((show _ from h.st).trans q25_10.symm)
  have sd_ := c7_7.trans ((show _ from h.sd).trans q25_8.symm)
  have sw_ := c7_8.trans ((show _ from h.sw).trans q25_9.symm)
  have tp_ := ca3.trans ((show _ from h.tp).trans qa28.symm)
  have bk_ := c2_5.trans ((show _ from h.bk).trans q25_12.symm)
  have un_ := ca6.trans ((show _ from h.un).trans qa31.symm)
  have cr_ : crdR (σ'.1 2 6) (σ'.1 2 7) (σ'.2.2.1 4) (τ'.1 25 13) (τ'.2.2.1 29) := by
    rw [c2_6, c2_7, ca4, q25_13, qa29]
    exact h.cr
  have li_ : linR (σ'.1 2 8) (σ'.2.2.1 5) (τ'.1 25 15) (τ'.2.2.1 30) := by
    rw [c2_8, ca5, q25_15, qa30]
    exact h.li
  have wM_ : ∀ j, j < 200 → wOk (τ'.2.2.1 26 j) := by
    rw [qa26]
    exact h.wM
  have wR_ : gOk (τ'.2.2.1 27) := by
    rw [qa27]
    exact h.wR
  have wT_ : ∀ j, j < 60 → wOk (τ'.2.2.1 28 j) := by
    rw [qa28]
    exact h.wT
  have wC_ : ∀ j, j < 4 * (τ'.1 25 13).toInt.toNat → wOk (τ'.2.2.1 29 j) := by
    rw [q25_13, qa29]
    exact h.wC
  have tb_ : τ'.1 25 3 = 0 ∨ τ'.1 25 3 = 1 := by
    rw [q25_3]
    exact h.tb
  have bb_ : 0 ≤ (τ'.1 25 12).toInt ∧ (τ'.1 25 12).toInt ≤ 6 := by
    rw [q25_12]
    exact h.bb
  have sb_ : 0 ≤ (τ'.1 25 10).toInt := by
    rw [q25_10]
    exact h.sb
  exact pR9.mk M_ R_ tg_ id_ pl_ st_ sd_ sw_ tp_ bk_ un_ rfl cr_ li_ wM_ wR_ wT_ wC_ tb_ bb_ sb_
theorem pT_cg {σ τ σ' τ' : zS} {f : Nat → Int32} {len : Int32} (hc : cK σ' = cK σ) (hq : qK τ' = qK τ) (h : pT σ τ f len) : pT σ' τ' f len := by
  obtain ⟨h1, h2, h3, h4, h5, h6⟩ := h
  refine ⟨pQ_cg hc hq h1, ?_, ?_, h4, ?_, ?_⟩
  all_goals
    simp only [cK, Prod.mk.injEq] at hc
    simp only [qK, Prod.mk.injEq] at hq
    obtain ⟨c7_3, c7_4, c7_5, c7_6, c7_7, c7_8, c7_9, c2_5, c2_6, c2_7, c2_8, c9_1, ca1, ca8, ca3, ca6, ca4, ca5, ca10⟩ := hc
    obtain ⟨q25_3, q25_5, q25_6, q25_10, q25_8, q25_9, q25_12, q25_13, q25_15, q25_18, qa26, qa27, qa28, qa29, qa30, qa31, qa32⟩ := hq
  · exact ⟨ca10.trans h2.1, c9_1.trans h2.2⟩
  · exact ⟨qa32.trans h3.1, q25_18.trans h3.2⟩
  · rw [c7_7]
    exact h5
  · rw [c7_7, c2_8]
    exact h6
