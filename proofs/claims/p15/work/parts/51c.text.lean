/-! TEXT: lines, parts, names -/
section TX
variable {c0 : mH} {v5 : Value}
theorem z118_l (h0 : zC0 c0) {d n : Nat} {r : mO × mH} : ∀ (m : Nat) (σ : zS), zF v5 d n 118 m 8 [(0, .ref 167)] [] (zH c0 σ) = some r → r = zOut c0 (.inl none) (zI σ 9 5 (zSc (fun k => !decide (xT σ k.toNatClampNeg = 32)) (xLe σ) (xPe σ))) := by
  intro m
  induction m using Nat.strongRecOn with
  | ind m ih =>
    intro σ hx
    have hx := zTr (C := nC118) (tb := []) h0 rfl rfl trivial (fun pc => pc.beq 8) 40 hx
    rw [zSc_step]
    rcases hx with ⟨h1, hx⟩ | ⟨h1, h2, ⟨h3, hx⟩ | ⟨h3, m', hm, hx⟩⟩
    · rw [if_neg (fun h => cGeT h1 h.1), zI_self]
      exact hx
    · rw [if_neg (fun h => by have := h.2; rw [Bool.not_eq_true'] at this; exact of_decide_eq_false this (cEqT h3)), zI_self]
      exact hx
    · rw [if_pos ⟨cGeF h1, by rw [Bool.not_eq_true']; exact decide_eq_false (cEqF h3)⟩]
      have := ih m' (by omega) (zI σ 9 5 (xPe σ + 1)) hx
      rw [zI_zI] at this
      exact this
theorem z118 (h0 : zC0 c0) : zSp c0 v5 118 sp118 := by
  intro d n as σ cs r hs hx
  unfold sp118 at hs
  split at hs
  · cases hs
    obtain ⟨d', hx⟩ := zGo hx
    have hx := zTr (C := nC118) (tb := []) h0 rfl rfl trivial (fun pc => pc.beq 8) 40 hx
    obtain ⟨m', hm, hx⟩ := hx
    have := z118_l h0 m' (zI σ 9 5 (xAt σ)) hx
    rw [zI_zI] at this
    exact ⟨_, _, ⟨rfl, rfl⟩, this⟩
  · cases hs
theorem z81_l (h0 : zC0 c0) {d n : Nat} {r : mO × mH} : ∀ (m : Nat) (σ : zS), zF v5 d n 81 m 16 [(0, .ref 167)] [] (zH c0 σ) = some r → r = zOut c0 (.inl none) (zI (zI σ 9 4 (zSc (fun k => !decide (xT σ k.toNatClampNeg = 10)) (σ.1 9 1) (xLe σ))) 9 3 (zSc (fun k => !decide (xT σ k.toNatClampNeg = 10)) (σ.1 9 1) (xLe σ) + 1)) := by
  intro m
  induction m using Nat.strongRecOn with
  | ind m ih =>
    intro σ hx
    have hx := zTr (C := nC81) (tb := []) h0 rfl rfl trivial (fun pc => pc.beq 16) 40 hx
    rw [zSc_step]
    rcases hx with ⟨h1, hx⟩ | ⟨h1, h2, ⟨h3, hx⟩ | ⟨h3, m', hm, hx⟩⟩
    · rw [if_neg (fun h => cGeT h1 h.1), zI_self]
      exact hx
    · rw [if_neg (fun h => by have := h.2; rw [Bool.not_eq_true'] at this; exact of_decide_eq_false this (cEqT h3)), zI_self]
      exact hx
    · rw [if_pos ⟨cGeF h1, by rw [Bool.not_eq_true']; exact decide_eq_false (cEqF h3)⟩]
      have := ih m' (by omega) (zI σ 9 4 (xLe σ + 1)) hx
      rw [zI_zI] at this
      exact this
theorem z81 (h0 : zC0 c0) : zSp c0 v5 81 sp81 := by
  intro d n as σ cs r hs hx
  unfold sp81 at hs
  split at hs
  · cases hs
    obtain ⟨d', hx⟩ := zGo hx
    have hx := zTr (C := nC81) (tb := []) h0 rfl rfl trivial (fun pc => pc.beq 16) 40 hx
    obtain ⟨m', hm, hx⟩ := hx
    have := z81_l h0 m' (zI (zI σ 9 2 (σ.1 9 3)) 9 4 (σ.1 9 3)) hx
    rw [zI_zI] at this
    exact ⟨_, _, ⟨rfl, rfl⟩, this⟩
  · cases hs
theorem z82_l (h0 : zC0 c0) {d n : Nat} {r : mO × mH} {σ : zS} : ∀ (m : Nat) (i : Int32), zF v5 d n 82 m 32 [(1, .int i), (0, .ref 167)] [] (zH c0 σ) = some r → r = zOut c0 (.inl (some (.int (if zSc (fun k => decide (xT σ k.toNatClampNeg = 32)) (xLe σ) i < xLe σ then 0 else 1)))) σ := by
  intro m
  induction m using Nat.strongRecOn with
  | ind m ih =>
    intro i hx
    have hx := zTr (C := nC82) (tb := []) h0 rfl rfl trivial (fun pc => pc.beq 32) 40 hx
    rcases hx with ⟨h1, hx⟩ | ⟨h1, h2, ⟨h3, m', hm, hx⟩ | ⟨h3, hx⟩⟩
    · rw [zSc_stop (fun h => cGeT h1 h.1), if_neg (show ¬ i < xLe σ from cGeT h1)]
      exact hx
    · rw [zSc_go (cGeF h1) (decide_eq_true (cEqT h3))]
      exact ih m' (by omega) _ hx
    · rw [zSc_stop (fun h => cEqF h3 (of_decide_eq_true h.2)), if_pos (show i < xLe σ from cGeF h1)]
      exact hx
theorem z82 (h0 : zC0 c0) : zSp c0 v5 82 sp82 := by
  intro d n as σ cs r hs hx
  unfold sp82 at hs
  split at hs
  · cases hs
    obtain ⟨d', hx⟩ := zGo hx
    have hx := zTr (C := nC82) (tb := []) h0 rfl rfl trivial (fun pc => pc.beq 32) 40 hx
    have fin : ∀ m' : Nat, zF v5 d' n 82 m' 32 [(1, .int (xAt σ)), (0, .ref 167)] [] (zH c0 σ) = some r → ¬ (xAt σ < xLe σ ∧ xT σ (xAt σ).toNatClampNeg = 42) → ∃ o σ', (((zNth σ ∧ zR σ 1 o σ') ∨ (¬ zNth σ ∧ zR σ 0 o σ'))) ∧ r = zOut c0 o σ' := by
      intro m' hx hn
      have := z82_l h0 m' _ hx
      by_cases hl : zSc (fun k => decide (xT σ k.toNatClampNeg = 32)) (xLe σ) (xAt σ) < xLe σ
      · rw [if_pos hl] at this
        exact ⟨_, _, Or.inr ⟨fun h => h.elim hn (fun h => h hl), rfl, rfl⟩, this⟩
      · rw [if_neg hl] at this
        exact ⟨_, _, Or.inl ⟨Or.inr hl, rfl, rfl⟩, this⟩
    rcases hx with ⟨h1, m', hm, hx⟩ | ⟨h1, h2, ⟨h3, m', hm, hx⟩ | ⟨h3, hx⟩⟩
    · exact fin m' hx (fun h => cGeT h1 h.1)
    · exact fin m' hx (fun h => cNeT h3 h.2)
    · exact ⟨_, _, Or.inl ⟨Or.inl ⟨cGeF h1, cNeF h3⟩, rfl, rfl⟩, hx⟩
  · cases hs
end TX
