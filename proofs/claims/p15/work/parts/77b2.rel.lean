/-! BOTH PROCESSORS: the relation with what is kept, printed by program -/
def cFr (a b : zS) : Prop := (∀ k, 9 ≤ k → ∀ i, b.1 k i = a.1 k i) ∧ (∀ k, 9 ≤ k → b.2.2.1 k = a.2.2.1 k)
def qFr (a b : zS) : Prop := (∀ k, ¬ k = 25 → ∀ i, b.1 k i = a.1 k i) ∧ (∀ i, i = 0 ∨ 16 ≤ i → b.1 25 i = a.1 25 i) ∧ (∀ k, k < 26 ∨ 31 < k → b.2.2.1 k = a.2.2.1 k) ∧ b.2.2.2 = a.2.2.2
theorem beqF {a b : Nat} (h : ¬ a = b) : a.beq b = false := by
  cases e : a.beq b
  · rfl
  · exact absurd (Nat.eq_of_beq_eq_true e) h
theorem cFr_r (a : zS) : cFr a a := ⟨fun _ _ _ => rfl, fun _ _ => rfl⟩
theorem qFr_r (a : zS) : qFr a a := ⟨fun _ _ _ => rfl, fun _ _ => rfl, fun _ _ => rfl, rfl⟩
theorem cFr_t {a b c : zS} (h : cFr a b) (g : cFr b c) : cFr a c := ⟨fun k hk i => (g.1 k hk i).trans (h.1 k hk i), fun k hk => (g.2 k hk).trans (h.2 k hk)⟩
theorem qFr_t {a b c : zS} (h : qFr a b) (g : qFr b c) : qFr a c := ⟨fun k hk i => (g.1 k hk i).trans (h.1 k hk i), fun i hi => (g.2.1 i hi).trans (h.2.1 i hi), fun k hk => (g.2.2.1 k hk).trans (h.2.2.1 k hk), g.2.2.2.trans h.2.2.2⟩
theorem cFr_I {a b : zS} (h : cFr a b) {k i : Nat} {x : Int32} (hk : k < 9) : cFr a (zI b k i x) := by
  refine ⟨fun k' hk' i' => ?_, h.2⟩
  show (bif (k'.beq k && i'.beq i) then x else b.1 k' i') = _
  rw [beqF (show ¬ k' = k by omega)]
  exact h.1 k' hk' i'
theorem cFr_A {a b : zS} (h : cFr a b) {k : Nat} {f : Nat → Int32} (hk : k < 9) : cFr a (zA b k f) := by
  refine ⟨h.1, fun k' hk' => ?_⟩
  show (bif k'.beq k then f else b.2.2.1 k') = _
  rw [beqF (show ¬ k' = k by omega)]
  exact h.2 k' hk'
theorem qFr_I {a b : zS} (h : qFr a b) {i : Nat} {x : Int32} (hi : 0 < i ∧ i < 16) : qFr a (zI b 25 i x) := by
  refine ⟨fun k' hk' i' => ?_, fun i' hi' => ?_, h.2.2⟩
  · show (bif (k'.beq 25 && i'.beq i) then x else b.1 k' i') = _
    rw [beqF hk']
    exact h.1 k' hk' i'
  · show (bif (Nat.beq 25 25 && i'.beq i) then x else b.1 25 i') = _
    rw [beqF (show ¬ i' = i by omega)]
    exact h.2.1 i' hi'
theorem qFr_A {a b : zS} (h : qFr a b) {k : Nat} {f : Nat → Int32} (h1 : 26 ≤ k) (h2 : k ≤ 31) : qFr a (zA b k f) := by
  refine ⟨h.1, h.2.1, fun k' hk' => ?_, h.2.2.2⟩
  show (bif k'.beq k then f else b.2.2.1 k') = _
  rw [beqF (show ¬ k' = k by omega)]
  exact h.2.2.1 k' hk'
def pW (σ0 τ0 σ τ : zS) : Prop := pR9 σ τ ∧ cFr σ0 σ ∧ qFr τ0 τ ∧ σ.1 7 7 = σ0.1 7 7 ∧ (σ.1 2 8 = σ0.1 2 8 ∨ σ.1 2 8 = σ0.1 2 8 + 1) ∧ τ.1 25 4 = 0
section PW
variable {σ0 τ0 σ τ : zS}
theorem pW_0 (h : pR9 σ τ) (hs : yS τ = 0) : pW σ τ σ τ := ⟨h, cFr_r σ, qFr_r τ, rfl, .inl rfl, hs⟩
theorem pW_S (h : pW σ0 τ0 σ τ) : pW σ0 τ0 σ (zI τ 25 4 0) := ⟨pR9_S h.1 0, h.2.1, qFr_I h.2.2.1 (by decide), h.2.2.2.1, h.2.2.2.2.1, rfl⟩
theorem pW_R (h : pW σ0 τ0 σ τ) {R' : Nat → Int32} (hw : gOk R') : pW σ0 τ0 (zA σ 8 R') (zA τ 27 R') := ⟨pR9_R h.1 hw, (cFr_A h.2.1 (by decide)), (qFr_A h.2.2.1 (by decide) (by decide)), h.2.2.2.1, h.2.2.2.2.1, h.2.2.2.2.2⟩
theorem pW_M (h : pW σ0 τ0 σ τ) {M' : Nat → Int32} (hw : ∀ j, j < 200 → wOk (M' j)) : pW σ0 τ0 (zA σ 1 M') (zA τ 26 M') := ⟨pR9_M h.1 hw, (cFr_A h.2.1 (by decide)), (qFr_A h.2.2.1 (by decide) (by decide)), h.2.2.2.1, h.2.2.2.2.1, h.2.2.2.2.2⟩
theorem pW_tg (h : pW σ0 τ0 σ τ) {x : Int32} (hx : x = 0 ∨ x = 1) : pW σ0 τ0 (zI σ 7 3 x) (zI τ 25 3 x) := ⟨pR9_tg h.1 hx, (cFr_I h.2.1 (by decide)), (qFr_I h.2.2.1 (by decide)), h.2.2.2.1, h.2.2.2.2.1, h.2.2.2.2.2⟩
theorem pW_id (h : pW σ0 τ0 σ τ) (x : Int32) : pW σ0 τ0 (zI σ 7 4 x) (zI τ 25 5 x) := ⟨pR9_id h.1 x, (cFr_I h.2.1 (by decide)), (qFr_I h.2.2.1 (by decide)), h.2.2.2.1, h.2.2.2.2.1, h.2.2.2.2.2⟩
theorem pW_st (h : pW σ0 τ0 σ τ) {x : Int32} (hx : 0 ≤ x.toInt) : pW σ0 τ0 (zI σ 7 6 x) (zI τ 25 10 x) := ⟨pR9_st h.1 hx, (cFr_I h.2.1 (by decide)), (qFr_I h.2.2.1 (by decide)), h.2.2.2.1, h.2.2.2.2.1, h.2.2.2.2.2⟩
theorem pW_nx (h : pW σ0 τ0 σ τ) (x : Int32) : pW σ0 τ0 (zI σ 7 9 x) (zI τ 25 7 x) := ⟨pR9_nx h.1 x, (cFr_I h.2.1 (by decide)), (qFr_I h.2.2.1 (by decide)), h.2.2.2.1, h.2.2.2.2.1, h.2.2.2.2.2⟩
theorem pW_pl (h : pW σ0 τ0 σ τ) (x : Int32) : pW σ0 τ0 (zI σ 7 5 x) (zI τ 25 6 x) := ⟨pR9_pl h.1 x, (cFr_I h.2.1 (by decide)), (qFr_I h.2.2.1 (by decide)), h.2.2.2.1, h.2.2.2.2.1, h.2.2.2.2.2⟩
theorem pW_sw (h : pW σ0 τ0 σ τ) (x : Int32) : pW σ0 τ0 (zI σ 7 8 x) (zI τ 25 9 x) := ⟨pR9_sw h.1 x, (cFr_I h.2.1 (by decide)), (qFr_I h.2.2.1 (by decide)), h.2.2.2.1, h.2.2.2.2.1, h.2.2.2.2.2⟩
theorem pW_tp (h : pW σ0 τ0 σ τ) {T' : Nat → Int32} (hw : ∀ j, j < 60 → wOk (T' j)) : pW σ0 τ0 (zA σ 3 T') (zA τ 28 T') := ⟨pR9_tp h.1 hw, (cFr_A h.2.1 (by decide)), (qFr_A h.2.2.1 (by decide) (by decide)), h.2.2.2.1, h.2.2.2.2.1, h.2.2.2.2.2⟩
theorem pW_bk (h : pW σ0 τ0 σ τ) {x : Int32} (hx : 0 ≤ x.toInt ∧ x.toInt ≤ 6) : pW σ0 τ0 (zI σ 2 5 x) (zI τ 25 12 x) := ⟨pR9_bk h.1 hx, (cFr_I h.2.1 (by decide)), (qFr_I h.2.2.1 (by decide)), h.2.2.2.1, h.2.2.2.2.1, h.2.2.2.2.2⟩
theorem pW_un (h : pW σ0 τ0 σ τ) (U' : Nat → Int32) : pW σ0 τ0 (zA σ 6 U') (zA τ 31 U') := ⟨pR9_un h.1 U', (cFr_A h.2.1 (by decide)), (qFr_A h.2.2.1 (by decide) (by decide)), h.2.2.2.1, h.2.2.2.2.1, h.2.2.2.2.2⟩
theorem pW_rd (h : pW σ0 τ0 σ τ) {M' C' : Nat → Int32} {od cc cc' : Int32} (hw : ∀ j, j < 200 → wOk (M' j)) (hc : crdR od cc (σ.2.2.1 4) cc' C') (hC : ∀ j, j < 4 * cc'.toInt.toNat → wOk (C' j)) : pW σ0 τ0 (zI (zI (zA σ 1 M') 2 6 od) 2 7 cc) (zA (zI (zA τ 26 M') 25 13 cc') 29 C') := ⟨pR9_rd h.1 hw hc hC, (cFr_I (cFr_I (cFr_A h.2.1 (by decide)) (by decide)) (by decide)), (qFr_A (qFr_I (qFr_A h.2.2.1 (by decide) (by decide)) (by decide)) (by decide) (by decide)), h.2.2.2.1, h.2.2.2.2.1, h.2.2.2.2.2⟩
theorem pW_pr (h : pW σ0 τ0 σ τ) {L' P' : Nat → Int32} {lc lc' : Int32} (hl : linR lc L' lc' P') (hq : lc = σ0.1 2 8 + 1) : pW σ0 τ0 (zI (zA σ 5 L') 2 8 lc) (zI (zA τ 30 P') 25 15 lc') := ⟨pR9_pr h.1 hl, (cFr_I (cFr_A h.2.1 (by decide)) (by decide)), (qFr_I (qFr_A h.2.2.1 (by decide) (by decide)) (by decide)), h.2.2.2.1, .inr hq, h.2.2.2.2.2⟩
theorem pW_cd (h : pW σ0 τ0 σ τ) {C C' : Nat → Int32} {cc cc' : Int32} (hc : crdR (σ.1 2 6) cc C cc' C') (hC : ∀ j, j < 4 * cc'.toInt.toNat → wOk (C' j)) : pW σ0 τ0 (zI (zA σ 4 C) 2 7 cc) (zI (zA τ 29 C') 25 13 cc') := ⟨pR9_cd h.1 hc hC, (cFr_I (cFr_A h.2.1 (by decide)) (by decide)), (qFr_I (qFr_A h.2.2.1 (by decide) (by decide)) (by decide)), h.2.2.2.1, h.2.2.2.2.1, h.2.2.2.2.2⟩
end PW
