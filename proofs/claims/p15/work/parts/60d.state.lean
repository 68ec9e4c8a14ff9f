/-! THE REFERENCE: statement() and readLine() -/
section RF
variable {c0 : mH} {v5 : Value}
theorem z67_a (h0 : zC0 c0) {d k m : Nat} {r : mO × mH} {τ : zS} {a b o e nd h n : Int32} (hnd : nd = 0 ∨ nd = 1) (hx : zF v5 d k 67 m 81 [(7, .int n), (6, .int h), (5, .int nd), (0, .ref 183), (1, .int a), (2, .int b), (3, .int o), (4, .int e)] [] (zH c0 τ) = some r) : ∃ σ', r = zOut c0 (.inl none) σ' ∧ yFr τ σ' ∧ (¬ yB τ = 0 → ¬ yB σ' = 0) ∧ (yB τ = 0 → a.toInt ≤ 1000 → (((n = 100 ∧ nd = 0) ∨ (n = 103 ∧ ¬ nd = 0)) ∧ ¬ yB σ' = 0) ∨ (¬ ((n = 100 ∧ nd = 0) ∨ (n = 103 ∧ ¬ nd = 0)) ∧ ySt1 τ a b nd h n σ')) := by
  replace hx := zTr (C := nC67) (tb := [(40, sp40)]) h0 rfl rfl ⟨z40 h0, trivial⟩ (fun pc => pc.beq 116) 60 hx
  have go : ∀ m1 (τ1 : zS), zF v5 d k 67 m1 116 [(7, .int n), (6, .int h), (5, .int nd), (0, .ref 183), (1, .int a), (2, .int b), (3, .int o), (4, .int e)] [] (zH c0 τ1) = some r → ∃ σ', r = zOut c0 (.inl none) σ' ∧ yFr τ1 σ' ∧ (¬ yB τ1 = 0 → ¬ yB σ' = 0) ∧ (yB τ1 = 0 → a.toInt ≤ 1000 → ySt1 τ1 a b nd h n σ') := by
    intro m1 τ1 hx
    rcases zTr (C := nC67) (tb := []) h0 rfl rfl trivial (fun pc => pc.beq 124) 60 hx with ⟨l, m2, hm2, hx⟩ | ⟨l, hx⟩
    · have l : yB τ1 = 0 := cEqT l
      obtain ⟨σ', e1, e2, e3⟩ := z67_1 h0 l hx
      exact ⟨σ', e1, e2, fun h => absurd l h, fun _ => e3⟩
    · exact ⟨τ1, hx, yFr_refl _, fun h => h, fun h => absurd h (cEqF l)⟩
  have bad : ∀ m1, ((n = 100 ∧ nd = 0) ∨ (n = 103 ∧ ¬ nd = 0)) → zF v5 d k 67 m1 116 [(7, .int n), (6, .int h), (5, .int nd), (0, .ref 183), (1, .int a), (2, .int b), (3, .int o), (4, .int e)] [] (zH c0 (zI τ 25 23 1)) = some r → ∃ σ', r = zOut c0 (.inl none) σ' ∧ yFr τ σ' ∧ (¬ yB τ = 0 → ¬ yB σ' = 0) ∧ (yB τ = 0 → a.toInt ≤ 1000 → (((n = 100 ∧ nd = 0) ∨ (n = 103 ∧ ¬ nd = 0)) ∧ ¬ yB σ' = 0) ∨ (¬ ((n = 100 ∧ nd = 0) ∨ (n = 103 ∧ ¬ nd = 0)) ∧ ySt1 τ a b nd h n σ')) := by
    intro m1 hc hx
    obtain ⟨σ', e1, e2, e3, e4⟩ := go m1 _ hx
    have B := e3 (by show ¬ (1 : Int32) = 0; decide)
    exact ⟨σ', e1, yFr_trans (yFr_I (yFr_refl _) rfl) e2, fun _ => B, fun _ _ => Or.inl ⟨hc, B⟩⟩
  have ok : ∀ m1, ¬ ((n = 100 ∧ nd = 0) ∨ (n = 103 ∧ ¬ nd = 0)) → zF v5 d k 67 m1 116 [(7, .int n), (6, .int h), (5, .int nd), (0, .ref 183), (1, .int a), (2, .int b), (3, .int o), (4, .int e)] [] (zH c0 τ) = some r → ∃ σ', r = zOut c0 (.inl none) σ' ∧ yFr τ σ' ∧ (¬ yB τ = 0 → ¬ yB σ' = 0) ∧ (yB τ = 0 → a.toInt ≤ 1000 → (((n = 100 ∧ nd = 0) ∨ (n = 103 ∧ ¬ nd = 0)) ∧ ¬ yB σ' = 0) ∨ (¬ ((n = 100 ∧ nd = 0) ∨ (n = 103 ∧ ¬ nd = 0)) ∧ ySt1 τ a b nd h n σ')) := by
    intro m1 hc hx
    obtain ⟨σ', e1, e2, e3, e4⟩ := go m1 _ hx
    exact ⟨σ', e1, e2, e3, fun hb ha => Or.inr ⟨hc, e4 hb ha⟩⟩
  rcases hx with ⟨h1, hx⟩ | ⟨h1, hx⟩
  · have h1 : ¬ n = 100 := cNeT h1
    rcases hx with ⟨h2, m1, hm1, hx⟩ | ⟨h2, ⟨h3, -⟩ | ⟨h3, ⟨h4, m1, hm1, hx⟩ | ⟨h4, _, _, ⟨rfl, rfl⟩, m1, hm1, hx⟩⟩⟩
    · have h2 : nd = 0 := (cEqT h2).symm
      exact ok m1 (fun h => h.elim (fun h => h1 h.1) (fun h => h.2 h2)) hx
    · exact absurd (cEqT h3) h1
    · exact ok m1 (fun h => h.elim (fun h => h1 h.1) (fun h => cNeT h4 h.1)) hx
    · have h2 : ¬ nd = 0 := fun h => cEqF h2 h.symm
      exact bad m1 (Or.inr ⟨cNeF h4, h2⟩) hx
  · have h1 : n = 100 := cNeF h1
    rcases hx with ⟨h2, m1, hm1, hx⟩ | ⟨h2, ⟨h3, _, _, ⟨rfl, rfl⟩, m1, hm1, hx⟩ | ⟨h3, -⟩⟩
    · have h2 : nd = 1 := (cEqT h2).symm
      refine ok m1 (fun h => h.elim (fun h => ?_) (fun h => ?_)) hx
      · exact absurd (h2.symm.trans h.2) (by decide)
      · exact absurd (h1.symm.trans h.1) (by decide)
    · have h2 : ¬ nd = 1 := fun h => cEqF h2 h.symm
      exact bad m1 (Or.inl ⟨h1, hnd.resolve_right h2⟩) hx
    · exact absurd h1 (cEqF h3)
theorem z67_n (h0 : zC0 c0) {d k m : Nat} {r : mO × mH} {τ : zS} {a b o e nd h : Int32} (hnd : (nd = 1 ∧ a < b) ∨ (nd = 0 ∧ ¬ a < b)) (hh : (h = 1 ∧ a < b ∧ zLoc (yT τ) a b 72) ∨ (h = 0 ∧ ¬ (a < b ∧ zLoc (yT τ) a b 72))) (hx : zF v5 d k 67 m 35 [(6, .int h), (5, .int nd), (0, .ref 183), (1, .int a), (2, .int b), (3, .int o), (4, .int e)] [] (zH c0 τ) = some r) : ∃ σ', r = zOut c0 (.inl none) σ' ∧ yFr τ σ' ∧ (¬ yB τ = 0 → ¬ yB σ' = 0) ∧ (yB τ = 0 → a.toInt ≤ 1000 → o.toInt ≤ 1000 → yStC τ a b (yOpn' τ o e) σ') := by
  obtain ⟨_, _, ⟨w, hw, rfl, rfl⟩, m1, hm1, hx⟩ := zTr (C := nC67) (tb := [(98, sp98)]) h0 rfl rfl ⟨z98 h0, trivial⟩ (fun pc => pc.beq 44) 60 hx
  have hx : zF v5 d k 67 m1 44 [(7, .int (yOp w (e - o) (yT τ (e - 1).toNatClampNeg))), (6, .int h), (5, .int nd), (0, .ref 183), (1, .int a), (2, .int b), (3, .int o), (4, .int e)] [] (zH c0 τ) = some r := hx
  have hn : o.toInt ≤ 1000 → yOp w (e - o) (yT τ (e - 1).toNatClampNeg) = yOpn' τ o e := fun ho => by rw [hw ho]
  generalize yOp w (e - o) (yT τ (e - 1).toNatClampNeg) = n at hx hn
  generalize yOpn' τ o e = n' at hn ⊢
  have hnd' : nd = 0 ∨ nd = 1 := hnd.elim (fun h => Or.inr h.1) (fun h => Or.inl h.1)
  have n0 : nd = 0 ↔ ¬ a < b := by
    rcases hnd with ⟨rfl, g⟩ | ⟨rfl, g⟩
    · exact ⟨fun h => absurd h (by decide), fun h => absurd g h⟩
    · exact ⟨fun _ => g, fun _ => rfl⟩
  have hh0 : h = 0 ↔ ¬ (a < b ∧ zLoc (yT τ) a b 72) := by
    rcases hh with ⟨rfl, g⟩ | ⟨rfl, g⟩
    · exact ⟨fun h => absurd h (by decide), fun h => absurd g h⟩
    · exact ⟨fun _ => g, fun _ => rfl⟩
  have bad : ∀ m1, (¬ (¬ n < 0 ∧ (a < b ∧ ¬ zLoc (yT τ) a b 72 → yIs (yT τ) a b ∧ ¬ zRun (yT τ) (yE τ) a < b))) → zF v5 d k 67 m1 81 [(7, .int n), (6, .int h), (5, .int nd), (0, .ref 183), (1, .int a), (2, .int b), (3, .int o), (4, .int e)] [] (zH c0 (zI τ 25 23 1)) = some r → ∃ σ', r = zOut c0 (.inl none) σ' ∧ yFr τ σ' ∧ (¬ yB τ = 0 → ¬ yB σ' = 0) ∧ (yB τ = 0 → a.toInt ≤ 1000 → o.toInt ≤ 1000 → yStC τ a b n' σ') := by
    intro m1 hc hx
    obtain ⟨σ', e1, e2, e3, e4⟩ := z67_a h0 hnd' hx
    have B := e3 (by show ¬ (1 : Int32) = 0; decide)
    refine ⟨σ', e1, yFr_trans (yFr_I (yFr_refl _) rfl) e2, fun _ => B, fun _ _ ho => Or.inl ⟨fun g => hc ?_, B⟩⟩
    rw [hn ho]
    exact ⟨g.1, g.2.1⟩
  have ok : ∀ m1, (¬ n < 0 ∧ (a < b ∧ ¬ zLoc (yT τ) a b 72 → yIs (yT τ) a b ∧ ¬ zRun (yT τ) (yE τ) a < b)) → zF v5 d k 67 m1 81 [(7, .int n), (6, .int h), (5, .int nd), (0, .ref 183), (1, .int a), (2, .int b), (3, .int o), (4, .int e)] [] (zH c0 τ) = some r → ∃ σ', r = zOut c0 (.inl none) σ' ∧ yFr τ σ' ∧ (¬ yB τ = 0 → ¬ yB σ' = 0) ∧ (yB τ = 0 → a.toInt ≤ 1000 → o.toInt ≤ 1000 → yStC τ a b n' σ') := by
    intro m1 hc hx
    obtain ⟨σ', e1, e2, e3, e4⟩ := z67_a h0 hnd' hx
    refine ⟨σ', e1, e2, e3, fun hb ha ho => ?_⟩
    rw [hn ho] at hc e4
    rcases e4 hb ha with ⟨l, B⟩ | ⟨l, q⟩
    · refine Or.inl ⟨fun g => ?_, B⟩
      rcases l with ⟨l1, l2⟩ | ⟨l1, l2⟩
      · exact g.2.2.1 ⟨l1, n0.mp l2⟩
      · exact g.2.2.2 ⟨l1, Decidable.not_not.mp (fun h => l2 (n0.mpr h))⟩
    · exact Or.inr ⟨⟨hc.1, hc.2, fun g => l (Or.inl ⟨g.1, n0.mpr g.2⟩), fun g => l (Or.inr ⟨g.1, fun h => n0.mp h g.2⟩)⟩, nd, h, hnd, hh, q⟩
  replace hx := zTr (C := nC67) (tb := [(99, sp99), (66, sp66), (40, sp40)]) h0 rfl rfl ⟨z99 h0, z66 h0, z40 h0, trivial⟩ (fun pc => pc.beq 81) 60 hx
  rcases hx with ⟨h1, _, _, ⟨rfl, rfl⟩, m2, hm2, hx⟩ | ⟨h1, ⟨h2, m2, hm2, hx⟩ | ⟨h2, ⟨h3, m2, hm2, hx⟩ | ⟨h3, _, _, ⟨h4, rfl, rfl⟩ | ⟨h4, rfl, rfl⟩, hx⟩⟩⟩
  · exact bad m2 (fun g => g.1 (cLtT h1)) hx
  · exact ok m2 ⟨cLtF h1, fun g => absurd g.1 (n0.mp (cEqT h2))⟩ hx
  · exact ok m2 ⟨cLtF h1, fun g => absurd (hh0.mpr (fun q => g.2 q.2)) (cNeT h3)⟩ hx
  · rcases hx with ⟨l, -⟩ | ⟨-, _, _, ⟨rfl, rfl⟩, ⟨l, m2, hm2, hx⟩ | ⟨l, _, _, ⟨rfl, rfl⟩, m2, hm2, hx⟩⟩
    · exact absurd (cEqT l) (by decide)
    · exact ok m2 ⟨cLtF h1, fun _ => ⟨h4, cGeT l⟩⟩ hx
    · refine bad m2 (fun g => (g.2 ⟨?_, ?_⟩).2 (cGeF l)) hx
      · exact Decidable.not_not.mp (fun h => cEqF h2 (n0.mpr h))
      · exact fun h => hh0.mp (cNeF h3) ⟨Decidable.not_not.mp (fun h => cEqF h2 (n0.mpr h)), h⟩
  · rcases hx with ⟨-, _, _, ⟨rfl, rfl⟩, m2, hm2, hx⟩ | ⟨l, -⟩
    · refine bad m2 (fun g => h4 (g.2 ⟨?_, ?_⟩).1) hx
      · exact Decidable.not_not.mp (fun h => cEqF h2 (n0.mpr h))
      · exact fun h => hh0.mp (cNeF h3) ⟨Decidable.not_not.mp (fun h => cEqF h2 (n0.mpr h)), h⟩
    · exact absurd rfl (cEqF l)
theorem z67 (h0 : zC0 c0) : zSp c0 v5 67 sp67 := by
  intro d k as σ cs r hs hx
  unfold sp67 at hs
  split at hs
  · rename_i a b o e
    cases hs
    obtain ⟨d', hx⟩ := zGo hx
    replace hx := zTr (C := nC67) (tb := [(97, sp97)]) h0 rfl rfl ⟨z97 h0, trivial⟩ (fun pc => pc.beq 35) 60 hx
    have fin : ∀ m1 (nd h : Int32), ((nd = 1 ∧ a < b) ∨ (nd = 0 ∧ ¬ a < b)) → ((h = 1 ∧ a < b ∧ zLoc (yT σ) a b 72) ∨ (h = 0 ∧ ¬ (a < b ∧ zLoc (yT σ) a b 72))) → zF v5 d' k 67 m1 35 [(6, .int h), (5, .int nd), (0, .ref 183), (1, .int a), (2, .int b), (3, .int o), (4, .int e)] [] (zH c0 σ) = some r → ∃ o' σ', yStR σ a b o e o' σ' ∧ r = zOut c0 o' σ' := by
      intro m1 nd h hnd hh hx
      obtain ⟨σ', e1, e2, e3, e4⟩ := z67_n h0 hnd hh hx
      exact ⟨_, σ', ⟨rfl, e2, e3, e4⟩, e1⟩
    rcases hx with ⟨h1, hx⟩ | ⟨h1, hx⟩
    · have h1 : ¬ a < b := cLeT h1
      rcases hx with ⟨-, m1, hm1, hx⟩ | ⟨l, -⟩
      · exact fin m1 0 0 (Or.inr ⟨rfl, h1⟩) (Or.inr ⟨rfl, fun h => h1 h.1⟩) hx
      · exact absurd rfl (cEqF l)
    · have h1 : a < b := cLeF h1
      rcases hx with ⟨l, -⟩ | ⟨-, _, _, ⟨h2, rfl, rfl⟩ | ⟨h2, rfl, rfl⟩, hx⟩
      · exact absurd (cEqT l) (by decide)
      · rcases hx with ⟨l, -⟩ | ⟨-, m1, hm1, hx⟩
        · exact absurd (cEqT l) (by decide)
        · exact fin m1 1 1 (Or.inl ⟨rfl, h1⟩) (Or.inl ⟨rfl, h1, h2⟩) hx
      · rcases hx with ⟨-, m1, hm1, hx⟩ | ⟨l, -⟩
        · exact fin m1 1 0 (Or.inl ⟨rfl, h1⟩) (Or.inr ⟨rfl, fun h => h2 h.2⟩) hx
        · exact absurd rfl (cEqF l)
  · cases hs
end RF
