/-! THE REFERENCE: statement(), its beginning -/
/-- a label or none that goes with the operation -/
abbrev yStK (τ : zS) (a b n : Int32) : Prop := ¬ n < 0 ∧ (a < b ∧ ¬ zLoc (yT τ) a b 72 → yIs (yT τ) a b ∧ ¬ zRun (yT τ) (yE τ) a < b) ∧ ¬ (n = 100 ∧ ¬ a < b) ∧ ¬ (n = 103 ∧ a < b)
abbrev yOpn' (τ : zS) (o e : Int32) : Int32 := yOp (if e - o < 6 then yNm τ o e else 0) (e - o) (yT τ (e - 1).toNatClampNeg)
abbrev ySt1 (τ : zS) (a b nd h n : Int32) (σ' : zS) : Prop := ((¬ nd = 0 ∧ h = 0) ∧ ((ySL τ (yNm τ a b) = none ∧ ¬ yB σ' = 0) ∨ ∃ s τ1, ySL τ (yNm τ a b) = some (s, τ1) ∧ yMid τ1 a h s n (yOf (yPl τ)) (yWt τ) σ')) ∨ (¬ (¬ nd = 0 ∧ h = 0) ∧ yMid τ a h (-1) n (yOf (yPl τ)) (yWt τ) σ')
abbrev yStC (τ : zS) (a b n : Int32) (σ' : zS) : Prop := (¬ yStK τ a b n ∧ ¬ yB σ' = 0) ∨ (yStK τ a b n ∧ ∃ nd h, ((nd = 1 ∧ a < b) ∨ (nd = 0 ∧ ¬ a < b)) ∧ ((h = 1 ∧ a < b ∧ zLoc (yT τ) a b 72) ∨ (h = 0 ∧ ¬ (a < b ∧ zLoc (yT τ) a b 72))) ∧ ySt1 τ a b nd h n σ')
abbrev yStR (τ : zS) (a b o e : Int32) : zCs := fun out σ' => out = .inl none ∧ yFr τ σ' ∧ (¬ yB τ = 0 → ¬ yB σ' = 0) ∧ (yB τ = 0 → a.toInt ≤ 1000 → o.toInt ≤ 1000 → yStC τ a b (yOpn' τ o e) σ')
abbrev sp67 (as : List Value) (σ : zS) : Option zCs := match as with
  | [.ref 183, .int a, .int b, .int o, .int e] => some (yStR σ a b o e)
  | _ => none
section RF
variable {c0 : mH} {v5 : Value}
theorem yOpR_fr {τ σ1 : zS} {n w x : Int32} (h : yOpR τ n w x σ1) : yFr τ σ1 ∧ (¬ yB τ = 0 → ¬ yB σ1 = 0) := by
  rcases h with ⟨-, -, x', σ2, ⟨y, -, h1, h2, -⟩, -, h3, h4, -⟩ | ⟨-, x', -, h1, h2, -⟩
  · exact ⟨yFr_trans h1 h3, fun h => h4 (h2 h)⟩
  · exact ⟨h1, h2⟩
theorem yGo_fr {τ σ' : zS} {a h s n w fi : Int32} (g : yGo τ a h s n w fi σ') : yFr τ σ' ∧ (¬ yB τ = 0 → ¬ yB σ' = 0) := by
  obtain ⟨x, σ1, g1, g2, g3, -⟩ := g
  have := yOpR_fr g1
  exact ⟨yFr_trans this.1 g2, fun h => g3 (this.2 h)⟩
theorem z67_2 (h0 : zC0 c0) {d k m : Nat} {r : mO × mH} {τ : zS} {a b o e nd h n s : Int32} (hx : zF v5 d k 67 m 172 [(8, .int s), (7, .int n), (6, .int h), (5, .int nd), (0, .ref 183), (1, .int a), (2, .int b), (3, .int o), (4, .int e)] [] (zH c0 τ) = some r) : ∃ σ', r = zOut c0 (.inl none) σ' ∧ yFr τ σ' ∧ (¬ yB τ = 0 → ¬ yB σ' = 0) ∧ (yB τ = 0 → yMid τ a h s n (yOf (yPl τ)) (yWt τ) σ') := by
  replace hx := zTr (C := nC67) (tb := [(101, sp101), (102, sp102)]) h0 rfl rfl ⟨z101 h0, z102 h0, trivial⟩ (fun pc => pc.beq 226) 60 hx
  obtain ⟨_, _, ⟨rfl, rfl⟩, hx⟩ := hx
  rcases hx with ⟨h1, hx⟩ | ⟨h1, ⟨h2, hx⟩ | ⟨h2, ⟨h3, hx⟩ | ⟨h3, _, _, ⟨h4, rfl, I, O, bb, rfl, g1, g2⟩, hx⟩⟩⟩
  · have h1 : ¬ yB τ = 0 := cNeT h1
    rcases hx with ⟨l, -⟩ | ⟨-, hx⟩
    · exact absurd (cEqT l) h1
    · exact ⟨τ, hx, yFr_refl _, fun h => h, fun h => absurd h h1⟩
  · have h1 : yB τ = 0 := cNeF h1
    rcases hx with ⟨-, m1, hm1, hx⟩ | ⟨l, -⟩
    · obtain ⟨σ', e1, e2⟩ := z67_3 h0 hx
      have := yGo_fr e2
      exact ⟨σ', e1, this.1, this.2, fun h => Or.inr ⟨fun h => h.1 (cLtT h2), e2⟩⟩
    · exact absurd h1 (cEqF l)
  · have h1 : yB τ = 0 := cNeF h1
    rcases hx with ⟨-, m1, hm1, hx⟩ | ⟨l, -⟩
    · obtain ⟨σ', e1, e2⟩ := z67_3 h0 hx
      have := yGo_fr e2
      exact ⟨σ', e1, this.1, this.2, fun h => Or.inr ⟨fun h => h.2 (cEqT h3), e2⟩⟩
    · exact absurd h1 (cEqF l)
  · have h1 : yB τ = 0 := cNeF h1
    have k1 : ¬ s < 0 ∧ ¬ n = 100 := ⟨cLtF h2, cEqF h3⟩
    rcases hx with ⟨l, m1, hm1, hx⟩ | ⟨l, hx⟩
    · have l : bb = 0 := cEqT l
      obtain ⟨σ', e1, e2⟩ := z67_3 h0 hx
      have := yGo_fr e2
      refine ⟨σ', e1, yFr_trans (yFr_O (yFr_D (yFr_refl _))) this.1, fun h => absurd h1 h, fun h => Or.inl ⟨k1, ?_⟩⟩
      rcases g2 h1 with ⟨_, q⟩ | ⟨q1, _⟩
      · rw [l] at e2
        refine Or.inr ⟨zOI (yDef τ s (yOf (yPl τ))) O I 0, ?_, e2⟩
        unfold yDf
        rw [show ySet (yDef τ s (yOf (yPl τ))) 0 s (yOf (yPl τ)) (yWt τ) = some (I, O) from q]
      · exact absurd l q1
    · have l : ¬ bb = 0 := cEqF l
      refine ⟨_, hx, yFr_O (yFr_D (yFr_refl _)), fun h => absurd h1 h, fun h => Or.inl ⟨k1, Or.inl ⟨?_, l⟩⟩⟩
      rcases g2 h1 with ⟨q1, _⟩ | ⟨_, q⟩
      · exact absurd q1 l
      · unfold yDf
        rw [show ySet (yDef τ s (yOf (yPl τ))) 0 s (yOf (yPl τ)) (yWt τ) = none from q]
theorem z67_1 (h0 : zC0 c0) {d k m : Nat} {r : mO × mH} {τ : zS} {a b o e nd h n : Int32} (hb : yB τ = 0) (hx : zF v5 d k 67 m 124 [(7, .int n), (6, .int h), (5, .int nd), (0, .ref 183), (1, .int a), (2, .int b), (3, .int o), (4, .int e)] [] (zH c0 τ) = some r) : ∃ σ', r = zOut c0 (.inl none) σ' ∧ yFr τ σ' ∧ (a.toInt ≤ 1000 → ySt1 τ a b nd h n σ') := by
  replace hx := zTr (C := nC67) (tb := [(100, sp100), (40, sp40)]) h0 rfl rfl ⟨z100 h0, z40 h0, trivial⟩ (fun pc => pc.beq 172) 60 hx
  have no : ∀ m1, ¬ (¬ nd = 0 ∧ h = 0) → zF v5 d k 67 m1 172 [(8, .int (-1)), (7, .int n), (6, .int h), (5, .int nd), (0, .ref 183), (1, .int a), (2, .int b), (3, .int o), (4, .int e)] [] (zH c0 τ) = some r → ∃ σ', r = zOut c0 (.inl none) σ' ∧ yFr τ σ' ∧ (a.toInt ≤ 1000 → ySt1 τ a b nd h n σ') := by
    intro m1 hn hx
    obtain ⟨σ', e1, e2, e3, e4⟩ := z67_2 h0 hx
    exact ⟨σ', e1, e2, fun _ => Or.inr ⟨hn, e4 hb⟩⟩
  have jn : ∀ m1 (τ1 : zS) (s : Int32), (¬ nd = 0 ∧ h = 0) → yFr τ τ1 → (a.toInt ≤ 1000 → (yB τ1 = 0 ∧ yOf (yPl τ1) = yOf (yPl τ) ∧ yWt τ1 = yWt τ ∧ ySL τ (yNm τ a b) = some (s, τ1)) ∨ (¬ yB τ1 = 0 ∧ ySL τ (yNm τ a b) = none)) → zF v5 d k 67 m1 172 [(8, .int s), (7, .int n), (6, .int h), (5, .int nd), (0, .ref 183), (1, .int a), (2, .int b), (3, .int o), (4, .int e)] [] (zH c0 τ1) = some r → ∃ σ', r = zOut c0 (.inl none) σ' ∧ yFr τ σ' ∧ (a.toInt ≤ 1000 → ySt1 τ a b nd h n σ') := by
    intro m1 τ1 s hy hf hs hx
    obtain ⟨σ', e1, e2, e3, e4⟩ := z67_2 h0 hx
    refine ⟨σ', e1, yFr_trans hf e2, fun ha => Or.inl ⟨hy, ?_⟩⟩
    rcases hs ha with ⟨q1, q2, q3, q4⟩ | ⟨q1, q2⟩
    · rw [← q2, ← q3]
      exact Or.inr ⟨s, τ1, q4, e4 q1⟩
    · exact Or.inl ⟨q2, e3 q1⟩
  rcases hx with ⟨h1, hx⟩ | ⟨h1, ⟨h2, hx⟩ | ⟨h2, hx⟩⟩
  · rcases hx with ⟨l, -⟩ | ⟨-, ⟨-, m1, hm1, hx⟩ | ⟨l, -⟩⟩
    · exact absurd hb (cNeT l)
    · exact no m1 (fun h => h.1 (cEqT h1)) hx
    · exact absurd (cLtF l) (by decide)
  · rcases hx with ⟨l, -⟩ | ⟨-, ⟨-, m1, hm1, hx⟩ | ⟨l, -⟩⟩
    · exact absurd hb (cNeT l)
    · exact no m1 (fun h => cNeT h2 h.2) hx
    · exact absurd (cLtF l) (by decide)
  · have hy : ¬ nd = 0 ∧ h = 0 := ⟨cEqF h1, cNeF h2⟩
    obtain ⟨_, _, ⟨nm, gn, ⟨g1, rfl, rfl⟩ | ⟨g1, g2, rfl, rfl⟩ | ⟨g1, g2, g3, nm', gm, rfl, rfl⟩⟩, hx⟩ := hx
    · rcases hx with ⟨l, -⟩ | ⟨-, ⟨l, -⟩ | ⟨l, -, ⟨l2, m1, hm1, hx⟩ | ⟨l2, _, _, ⟨rfl, rfl⟩, m1, hm1, hx⟩⟩⟩
      · exact absurd hb (cNeT l)
      · exact absurd (cLtT l) g1
      · refine jn m1 τ _ hy (yFr_refl _) (fun ha => Or.inl ⟨hb, rfl, rfl, ?_⟩) hx
        unfold ySL
        rw [← gn ha, if_pos g1, if_neg (fun h => h (cEqT l2))]
      · refine jn m1 _ _ hy (yFr_I (yFr_refl _) rfl) (fun ha => Or.inr ⟨by show ¬ (1 : Int32) = 0; decide, ?_⟩) hx
        unfold ySL
        rw [← gn ha, if_pos g1, if_pos (cEqF l2)]
    · rcases hx with ⟨-, m1, hm1, hx⟩ | ⟨l, -⟩
      · refine jn m1 _ _ hy (yFr_I (yFr_refl _) rfl) (fun ha => Or.inr ⟨by show ¬ (1 : Int32) = 0; decide, ?_⟩) hx
        unfold ySL
        rw [← gn ha, if_neg (fun h => h g1), if_pos g2]
      · exact absurd (cNeF l) (by show ¬ (1 : Int32) = 0; decide)
    · have hc : ¬ yCn τ < 0 := fun h => by
        have := Int32.lt_iff_toInt_lt.mp h
        rw [show (0 : Int32).toInt = 0 from rfl] at this
        omega
      have z : upd (τ.2.2.1 36) (yCn τ).toNatClampNeg (vp_nar .boolean 0) (yCn τ).toNatClampNeg = 0 := by
        unfold upd
        simp
        rfl
      rcases hx with ⟨l, -⟩ | ⟨-, ⟨l, -⟩ | ⟨l, -, ⟨l2, m1, hm1, hx⟩ | ⟨l2, -⟩⟩⟩
      · exact absurd hb (cNeT l)
      · exact absurd (cLtT l) hc
      · refine jn m1 _ _ hy (yFr_N (yFr_refl _)) (fun ha => Or.inl ⟨hb, rfl, rfl, ?_⟩) hx
        unfold ySL
        rw [gm ha, ← gn ha, if_neg (fun h => h g1), if_neg g2]
      · exact absurd z (cEqF l2)
end RF
