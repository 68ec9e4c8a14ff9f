/-! THE REFERENCE: statement() -/
/-- a label that is a symbol -/
def ySL (τ : zS) (nm : Int64) : Option (Int32 × zS) := if ¬ yFd τ nm < 0 then (if yHas τ (yFd τ nm) then none else some (yFd τ nm, τ)) else if yCn τ = 30 then none else some (yCn τ, yNew τ nm)
def yDf (τ : zS) (s w : Int32) : Option zS := match ySet (yDef τ s w) 0 s w (yWt τ) with
  | none => none
  | some x => some (zOI (yDef τ s w) x.2 x.1 0)
abbrev yHe1 (τ : zS) (d w : Int32) (x : (Nat → Int32) × (Nat → Int32)) : zS := zA (zA (zOI τ x.2 x.1 0) 39 (upd (τ.2.2.1 39) d.toNatClampNeg (vp_nar .boolean 1))) 40 (upd (τ.2.2.1 40) d.toNatClampNeg w)
abbrev yHeC (τ : zS) (d w fi : Int32) (σ' : zS) : Prop := (ySet τ 1 d w fi = none ∧ ¬ yB σ' = 0) ∨ ∃ x, ySet τ 1 d w fi = some x ∧ (0 ≤ d.toInt ∧ d.toInt < 10) ∧ yHe1 τ d w x = σ'
abbrev yEnH (τ : zS) (a h w fi : Int32) (σ' : zS) : Prop := (h = 0 → τ = σ') ∧ (¬ h = 0 → yHeC τ (yT τ a.toNatClampNeg - 48) w fi σ')
abbrev yEnd (τ : zS) (a h s n w fi : Int32) (σ' : zS) : Prop := ((¬ s < 0 ∧ n = 100) ∧ ((yDf τ s w = none ∧ ¬ yB σ' = 0) ∨ ∃ τ1, yDf τ s w = some τ1 ∧ yEnH τ1 a h w fi σ')) ∨ (¬ (¬ s < 0 ∧ n = 100) ∧ yEnH τ a h w fi σ')
abbrev yIns (n : Int32) : Prop := n < 100 ∨ ¬ n < 8192 ∨ n - n / 128 * 128 < 100
abbrev yOpR (τ : zS) (n w x : Int32) (σ1 : zS) : Prop := (yIns n ∧ x = w ∧ yInR τ n (.inl none) σ1) ∨ (¬ yIns n ∧ yDiR τ n w (.inl (some (.int x))) σ1)
abbrev yGo (τ : zS) (a h s n w fi : Int32) (σ' : zS) : Prop := ∃ x σ1, yOpR τ n w x σ1 ∧ yFr σ1 σ' ∧ (¬ yB σ1 = 0 → ¬ yB σ' = 0) ∧ (yB σ1 = 0 → yEnd σ1 a h s n x fi σ')
abbrev yMid (τ : zS) (a h s n w fi : Int32) (σ' : zS) : Prop := ((¬ s < 0 ∧ ¬ n = 100) ∧ ((yDf τ s w = none ∧ ¬ yB σ' = 0) ∨ ∃ τ1, yDf τ s w = some τ1 ∧ yGo τ1 a h s n w fi σ')) ∨ (¬ (¬ s < 0 ∧ ¬ n = 100) ∧ yGo τ a h s n w fi σ')
section RF
variable {c0 : mH} {v5 : Value}
theorem yFr_Df {τ τ1 : zS} {s w : Int32} (h : yDf τ s w = some τ1) : yFr τ τ1 := by
  unfold yDf at h
  split at h
  · cases h
  · cases h
    exact yFr_O (yFr_D (yFr_refl _))
theorem z67_5 (h0 : zC0 c0) {d k m : Nat} {r : mO × mH} {τ : zS} {a b o e nd h n s be fi w : Int32} (hx : zF v5 d k 67 m 298 [(11, .int w), (10, .int fi), (9, .int be), (8, .int s), (7, .int n), (6, .int h), (5, .int nd), (0, .ref 183), (1, .int a), (2, .int b), (3, .int o), (4, .int e)] [] (zH c0 τ) = some r) : ∃ σ', r = zOut c0 (.inl none) σ' ∧ yFr τ σ' ∧ (¬ yB τ = 0 → ¬ yB σ' = 0) ∧ (yB τ = 0 → yEnH τ a h w fi σ') := by
  replace hx := zTr (C := nC67) (tb := [(105, sp105)]) h0 rfl rfl ⟨z105 h0, trivial⟩ (fun _ => false) 60 hx
  rcases hx with ⟨h1, hx⟩ | ⟨h1, ⟨h2, hx⟩ | ⟨h2, -, _, _, ⟨rfl, I, O, bb, rfl, g1, g2⟩, -, h3, -, h4, hx⟩⟩
  · exact ⟨τ, hx, yFr_refl _, fun h => h, fun h => absurd h (cNeT h1)⟩
  · exact ⟨τ, hx, yFr_refl _, fun h => h, fun _ => ⟨fun _ => rfl, fun h => absurd (cEqT h2) h⟩⟩
  · have h1 : yB τ = 0 := cNeF h1
    refine ⟨_, hx, yFr_A (yFr_A (yFr_O (yFr_refl _)) rfl) rfl, fun h => absurd h1 h, fun _ => ⟨fun h => absurd h (cEqF h2), fun _ => ?_⟩⟩
    rcases g2 h1 with ⟨rfl, l⟩ | ⟨l1, l⟩
    · exact Or.inr ⟨(I, O), l, zIn' h3, rfl⟩
    · exact Or.inl ⟨l, l1⟩
theorem z67_4 (h0 : zC0 c0) {d k m : Nat} {r : mO × mH} {τ : zS} {a b o e nd h n s be fi w : Int32} (hx : zF v5 d k 67 m 271 [(11, .int w), (10, .int fi), (9, .int be), (8, .int s), (7, .int n), (6, .int h), (5, .int nd), (0, .ref 183), (1, .int a), (2, .int b), (3, .int o), (4, .int e)] [] (zH c0 τ) = some r) : ∃ σ', r = zOut c0 (.inl none) σ' ∧ yFr τ σ' ∧ (¬ yB τ = 0 → ¬ yB σ' = 0) ∧ (yB τ = 0 → yEnd τ a h s n w fi σ') := by
  replace hx := zTr (C := nC67) (tb := [(102, sp102)]) h0 rfl rfl ⟨z102 h0, trivial⟩ (fun pc => pc.beq 298) 60 hx
  rcases hx with ⟨h1, m1, hm1, hx⟩ | ⟨h1, ⟨h2, m1, hm1, hx⟩ | ⟨h2, ⟨h3, m1, hm1, hx⟩ | ⟨h3, _, _, ⟨h4, rfl, I, O, bb, rfl, g1, g2⟩, m1, hm1, hx⟩⟩⟩
  · obtain ⟨σ', e1, e2, e3, e4⟩ := z67_5 h0 hx
    exact ⟨σ', e1, e2, e3, fun h => absurd h (cNeT h1)⟩
  · obtain ⟨σ', e1, e2, e3, e4⟩ := z67_5 h0 hx
    exact ⟨σ', e1, e2, e3, fun h => Or.inr ⟨fun h => h.1 (cLtT h2), e4 h⟩⟩
  · obtain ⟨σ', e1, e2, e3, e4⟩ := z67_5 h0 hx
    exact ⟨σ', e1, e2, e3, fun h => Or.inr ⟨fun h => cNeT h3 h.2, e4 h⟩⟩
  · obtain ⟨σ', e1, e2, e3, e4⟩ := z67_5 h0 hx
    have h1 : yB τ = 0 := cNeF h1
    refine ⟨σ', e1, yFr_trans (yFr_O (yFr_D (yFr_refl _))) e2, fun h => absurd h1 h, fun h => Or.inl ⟨⟨cLtF h2, cNeF h3⟩, ?_⟩⟩
    unfold yDf
    rcases g2 h1 with ⟨rfl, l⟩ | ⟨l1, l⟩
    · rw [show ySet (yDef τ s w) 0 s w (yWt τ) = some (I, O) from l]
      exact Or.inr ⟨_, rfl, e4 rfl⟩
    · rw [show ySet (yDef τ s w) 0 s w (yWt τ) = none from l]
      exact Or.inl ⟨rfl, e3 l1⟩
theorem z67_3 (h0 : zC0 c0) {d k m : Nat} {r : mO × mH} {τ : zS} {a b o e nd h n s be fi w : Int32} (hx : zF v5 d k 67 m 226 [(11, .int w), (10, .int fi), (9, .int be), (8, .int s), (7, .int n), (6, .int h), (5, .int nd), (0, .ref 183), (1, .int a), (2, .int b), (3, .int o), (4, .int e)] [] (zH c0 τ) = some r) : ∃ σ', r = zOut c0 (.inl none) σ' ∧ yGo τ a h s n w fi σ' := by
  replace hx := zTr (C := nC67) (tb := [(103, sp103), (104, sp104)]) h0 rfl rfl ⟨z103 h0, z104 h0, trivial⟩ (fun pc => pc.beq 271) 60 hx
  have ins : ∀ σ1 (m1 : Nat), yIns n → yInR τ n (.inl none) σ1 → zF v5 d k 67 m1 271 [(11, .int w), (10, .int fi), (9, .int be), (8, .int s), (7, .int n), (6, .int h), (5, .int nd), (0, .ref 183), (1, .int a), (2, .int b), (3, .int o), (4, .int e)] [] (zH c0 σ1) = some r → ∃ σ', r = zOut c0 (.inl none) σ' ∧ yGo τ a h s n w fi σ' := by
    intro σ1 m1 hn g hx
    obtain ⟨σ', e1, e2, e3, e4⟩ := z67_4 h0 hx
    exact ⟨σ', e1, w, σ1, Or.inl ⟨hn, rfl, g⟩, e2, e3, e4⟩
  rcases hx with ⟨h1, o1, σ1, ⟨x, σ2, g1, rfl, g2⟩, m1, hm1, hx⟩ | ⟨h1, ⟨h2, o1, σ1, ⟨x, σ2, g1, rfl, g2⟩, m1, hm1, hx⟩ | ⟨h2, -, ⟨h3, o1, σ1, ⟨x, rfl, g2⟩, m1, hm1, hx⟩ | ⟨h3, o1, σ1, ⟨x, σ2, g1, rfl, g2⟩, m1, hm1, hx⟩⟩⟩
  · exact ins σ1 m1 (Or.inl (cLtT h1)) ⟨x, σ2, g1, rfl, g2⟩ hx
  · exact ins σ1 m1 (Or.inr (Or.inl (cGeT h2))) ⟨x, σ2, g1, rfl, g2⟩ hx
  · have hx : zF v5 d k 67 m1 271 [(11, .int x), (10, .int fi), (9, .int be), (8, .int s), (7, .int n), (6, .int h), (5, .int nd), (0, .ref 183), (1, .int a), (2, .int b), (3, .int o), (4, .int e)] [] (zH c0 σ1) = some r := hx
    obtain ⟨σ', e1, e2, e3, e4⟩ := z67_4 h0 hx
    exact ⟨σ', e1, x, σ1, Or.inr ⟨fun h => h.elim (cLtF h1) (fun h => h.elim (fun h => h (cGeF h2)) (cGeT h3)), x, rfl, g2⟩, e2, e3, e4⟩
  · exact ins σ1 m1 (Or.inr (Or.inr (cGeF h3))) ⟨x, σ2, g1, rfl, g2⟩ hx
end RF
