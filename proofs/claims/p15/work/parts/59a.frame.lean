/-! THE REFERENCE: what its assembling may change -/
def yOkI (k i : Nat) : Bool := k.beq 25 && ((Nat.ble 20 i && Nat.ble i 26) || (i.beq 29 || (i.beq 33 || i.beq 37)))
def yOkA (k : Nat) : Bool := Nat.ble 33 k && Nat.ble k 44
def yFr (σ τ : zS) : Prop := (∀ k i, yOkI k i = false → τ.1 k i = σ.1 k i) ∧ τ.2.1 = σ.2.1 ∧ (∀ k, yOkA k = false → τ.2.2.1 k = σ.2.2.1 k) ∧ (∀ k, k.beq 35 = false → τ.2.2.2.1 k = σ.2.2.2.1 k)
section FR
variable {σ τ ρ : zS}
theorem yFr_refl (σ : zS) : yFr σ σ := ⟨fun _ _ _ => rfl, rfl, fun _ _ => rfl, fun _ _ => rfl⟩
theorem yFr_trans (h1 : yFr σ τ) (h2 : yFr τ ρ) : yFr σ ρ := ⟨fun k i h => (h2.1 k i h).trans (h1.1 k i h), h2.2.1.trans h1.2.1, fun k h => (h2.2.2.1 k h).trans (h1.2.2.1 k h), fun k h => (h2.2.2.2 k h).trans (h1.2.2.2 k h)⟩
theorem yFr_I {k i : Nat} {x : Int32} (h : yFr σ τ) (hk : yOkI k i = true) : yFr σ (zI τ k i x) := by
  refine yFr_trans h ⟨fun k' i' h' => ?_, rfl, fun _ _ => rfl, fun _ _ => rfl⟩
  refine u2_ne _ _ (fun e => ?_)
  rw [e.1, e.2, hk] at h'
  cases h'
theorem yFr_A {k : Nat} {f : Nat → Int32} (h : yFr σ τ) (hk : yOkA k = true) : yFr σ (zA τ k f) := by
  refine yFr_trans h ⟨fun _ _ _ => rfl, rfl, fun k' h' => ?_, fun _ _ => rfl⟩
  refine u1_ne _ _ (fun e => ?_)
  rw [e, hk] at h'
  cases h'
theorem yFr_B {f : Nat → Int64} (h : yFr σ τ) : yFr σ (zB τ 35 f) := by
  refine yFr_trans h ⟨fun _ _ _ => rfl, rfl, fun _ _ => rfl, fun k' h' => ?_⟩
  refine u1_ne _ _ (fun e => ?_)
  rw [e] at h'
  cases h'
theorem yFr_P {p b : Int32} (h : yFr σ τ) : yFr σ (zPb2 τ p b) := yFr_I (yFr_I h rfl) rfl
theorem yFr_N {nm : Int64} (h : yFr σ τ) : yFr σ (yNew τ nm) := yFr_I (yFr_A (yFr_B h) rfl) rfl
theorem yFr_W {k x : Int32} (h : yFr σ τ) : yFr σ (yAdd τ k x) := yFr_I (yFr_A (yFr_A (yFr_A (yFr_A h rfl) rfl) rfl) rfl) rfl
theorem yFr_S {a w : Int32} (h : yFr σ τ) : yFr σ (yStd τ a w) := yFr_A (yFr_A h rfl) rfl
theorem yFr_O {O I : Nat → Int32} {b : Int32} (h : yFr σ τ) : yFr σ (zOI τ O I b) := yFr_I (yFr_A (yFr_A h rfl) rfl) rfl
theorem yFr_D {s w : Int32} (h : yFr σ τ) : yFr σ (yDef τ s w) := yFr_A (yFr_A h rfl) rfl
end FR
/-! ITS A-PARTS -/
abbrev yLc (τ : zS) : Int32 := τ.1 25 33
abbrev yQ (τ : zS) : Int32 := zRun (yT τ) (yE τ) (yP τ)
abbrev yAlo (τ : zS) : Prop := yP τ < yQ τ ∧ (yQ τ = yE τ ∨ yT τ (yQ τ).toNatClampNeg = 44 ∨ yT τ (yQ τ).toNatClampNeg = 40)
/-- a symbol without a value -/
abbrev yUn (τ : zS) (q : Int32) (nm : Int64) : Prop := yIs (yT τ) (yP τ) q ∧ (yFd τ nm < 0 ∨ ¬ yHas τ (yFd τ nm))
abbrev yApE (τ : zS) (x : Int32) (σ' : zS) : Prop := (yEx τ (yP τ) = none ∧ ¬ yB σ' = 0) ∨ ∃ v q, yEx τ (yP τ) = some (v, q) ∧ ((¬ (v < 4096 ∧ -4096 < v) ∧ ¬ yB σ' = 0) ∨ ((v < 4096 ∧ -4096 < v) ∧ x = v ∧ zPb2 τ q 0 = σ'))
section RF
variable {c0 : mH} {v5 : Value}
theorem z147_e (h0 : zC0 c0) {d n m : Nat} {r : mO × mH} {τ : zS} {a1 a2 a3 : Int32} (hx : zF v5 d n 147 m 305 [(3, .int a3), (2, .int a2), (1, .int a1), (0, .ref 183)] [] (zH c0 τ) = some r) : ∃ x σ', r = zOut c0 (.inl (some (.int x))) σ' ∧ yFr τ σ' ∧ (¬ yB τ = 0 → ¬ yB σ' = 0) ∧ (yB τ = 0 → (yP τ).toInt ≤ 1000 ∧ (yE τ).toInt ≤ 240 → yApE τ x σ') := by
  replace hx := zTr (C := nC147) (tb := [(149, sp149), (40, sp40)]) h0 rfl rfl ⟨z149 h0, z40 h0, trivial⟩ (fun _ => false) 60 hx
  obtain ⟨_, _, ⟨v, q, b, rfl, rfl, h1, h2⟩, hx⟩ := hx
  have wr : ¬ (v < 4096 ∧ -4096 < v) → r = zOut c0 (.inl (some (.int v))) (zI (zPb2 τ q b) 25 23 1) → ∃ x σ', r = zOut c0 (.inl (some (.int x))) σ' ∧ yFr τ σ' ∧ (¬ yB τ = 0 → ¬ yB σ' = 0) ∧ (yB τ = 0 → (yP τ).toInt ≤ 1000 ∧ (yE τ).toInt ≤ 240 → yApE τ x σ') := by
    intro hn hx
    refine ⟨_, _, hx, yFr_I (yFr_P (yFr_refl _)) rfl, fun _ => (by show ¬ (1 : Int32) = 0; decide), fun hb hp => ?_⟩
    have B : ¬ yB (zI (zPb2 τ q b) 25 23 1) = 0 := by show ¬ (1 : Int32) = 0; decide
    rcases h2 hb hp with ⟨-, k⟩ | ⟨-, k⟩
    · exact Or.inr ⟨v, q, k, Or.inl ⟨hn, B⟩⟩
    · exact Or.inl ⟨k, B⟩
  rcases hx with ⟨g1, _, _, ⟨rfl, rfl⟩, hx⟩ | ⟨g1, ⟨g2, hx⟩ | ⟨g2, _, _, ⟨rfl, rfl⟩, hx⟩⟩
  · exact wr (fun h => cGeT g1 h.1) hx
  · refine ⟨v, zPb2 τ q b, hx, yFr_P (yFr_refl _), h1, fun hb hp => ?_⟩
    rcases h2 hb hp with ⟨rfl, k⟩ | ⟨kb, k⟩
    · exact Or.inr ⟨v, q, k, Or.inr ⟨⟨cGeF g1, cGtT g2⟩, rfl, rfl⟩⟩
    · exact Or.inl ⟨k, kb⟩
  · exact wr (fun h => cGtF g2 h.2) hx
end RF
