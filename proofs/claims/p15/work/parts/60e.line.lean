/-! THE REFERENCE: readLine() -/
abbrev yLe (τ : zS) (a t : Int32) : Int32 := zStop (yT τ) t a
abbrev yO (τ : zS) (a t : Int32) : Int32 := zSkip (yT τ) t (yLe τ a t)
abbrev yOe (τ : zS) (a t : Int32) : Int32 := zStop (yT τ) t (yO τ a t)
abbrev yP1 (τ : zS) (a t : Int32) : Int32 := zSkip (yT τ) t (yOe τ a t)
abbrev yE1 (τ : zS) (a t : Int32) : Int32 := zStop (yT τ) t (yP1 τ a t)
abbrev yLn (τ : zS) (a t : Int32) : zS := zI (zI τ 25 21 (yP1 τ a t)) 25 22 (yE1 τ a t)
abbrev yNth (τ : zS) (a t : Int32) : Prop := (a < t ∧ yT τ a.toNatClampNeg = 42) ∨ zSkip (yT τ) t a = t
abbrev yRlC (τ : zS) (a t : Int32) (σ' : zS) : Prop := (yNth τ a t ∧ τ = σ') ∨ (¬ yNth τ a t ∧ ((yO τ a t = t ∧ ¬ yB σ' = 0) ∨ (¬ yO τ a t = t ∧ ((¬ zRun (yT τ) (yLe τ a t) a = yLe τ a t ∧ ¬ yB σ' = 0) ∨ (zRun (yT τ) (yLe τ a t) a = yLe τ a t ∧ yStC (yLn τ a t) a (yLe τ a t) (yOpn' (yLn τ a t) (yO τ a t) (yOe τ a t)) σ')))))
abbrev yRlR (τ : zS) (a t : Int32) : zCs := fun o σ' => o = .inl none ∧ yFr τ σ' ∧ (¬ yB τ = 0 → ¬ yB σ' = 0) ∧ (yB τ = 0 → a.toInt ≤ 1000 → (yO τ a t).toInt ≤ 1000 → yRlC τ a t σ')
abbrev sp41 (as : List Value) (σ : zS) : Option zCs := match as with
  | [.ref 183, .int a, .int t] => some (yRlR σ a t)
  | _ => none
theorem u2_ee {α : Type} (f : Nat → Nat → α) (x y z : α) : u2 (u2 (u2 f 25 22 x) 25 21 y) 25 22 z = u2 (u2 f 25 21 y) 25 22 z := by
  funext k i
  by_cases h1 : k = 25 ∧ i = 22
  · obtain ⟨rfl, rfl⟩ := h1
    rfl
  · simp only [u2_ne _ _ h1]
    by_cases h2 : k = 25 ∧ i = 21
    · obtain ⟨rfl, rfl⟩ := h2
      rfl
    · simp only [u2_ne _ _ h1, u2_ne _ _ h2]
theorem zI_ee (τ : zS) (x y z : Int32) : zI (zI (zI τ 25 22 x) 25 21 y) 25 22 z = zI (zI τ 25 21 y) 25 22 z := by
  unfold zI
  dsimp only
  rw [u2_ee]
section RF
variable {c0 : mH} {v5 : Value}
theorem z41 (h0 : zC0 c0) : zSp c0 v5 41 sp41 := by
  intro d k as τ cs r hs hx
  unfold sp41 at hs
  split at hs
  · rename_i a t
    cases hs
    obtain ⟨d', hx⟩ := zGo hx
    replace hx := zTr (C := nC41) (tb := [(64, sp64)]) h0 rfl rfl ⟨z64 h0, trivial⟩ (fun pc => pc.beq 27) 60 hx
    have nth : yNth τ a t → r = zOut c0 (.inl none) τ → ∃ o σ', yRlR τ a t o σ' ∧ r = zOut c0 o σ' := fun hn hx => ⟨_, _, ⟨rfl, yFr_refl _, fun h => h, fun _ _ _ => Or.inl ⟨hn, rfl⟩⟩, hx⟩
    have go : ∀ m1, ¬ yNth τ a t → zF v5 d' k 41 m1 27 [(0, .ref 183), (1, .int a), (2, .int t)] [] (zH c0 τ) = some r → ∃ o σ', yRlR τ a t o σ' ∧ r = zOut c0 o σ' := by
      intro m1 hn hx
      replace hx := zTr (C := nC41) (tb := [(64, sp64), (65, sp65), (40, sp40)]) h0 rfl rfl ⟨z64 h0, z65 h0, z40 h0, trivial⟩ (fun pc => pc.beq 58) 60 hx
      obtain ⟨_, _, ⟨rfl, rfl⟩, _, _, ⟨rfl, rfl⟩, hx⟩ := hx
      rcases hx with ⟨h1, m2, hm2, hx⟩ | ⟨h1, _, _, ⟨rfl, rfl⟩, hx⟩
      · have h1 : ¬ yO τ a t = t := cNeT h1
        have hx : zF v5 d' k 41 m2 58 [(4, .int (yO τ a t)), (3, .int (yLe τ a t)), (0, .ref 183), (1, .int a), (2, .int t)] [] (zH c0 (zI τ 25 22 t)) = some r := hx
        obtain ⟨_, _, ⟨rfl, rfl⟩, _, _, ⟨rfl, rfl⟩, _, _, ⟨rfl, rfl⟩, m3, hm3, hx⟩ := zTr (C := nC41) (tb := [(64, sp64), (65, sp65)]) h0 rfl rfl ⟨z64 h0, z65 h0, trivial⟩ (fun pc => pc.beq 97) 60 hx
        have hx : zF v5 d' k 41 m3 97 [(6, .int (yE1 τ a t)), (5, .int (yOe τ a t)), (4, .int (yO τ a t)), (3, .int (yLe τ a t)), (0, .ref 183), (1, .int a), (2, .int t)] [] (zH c0 (zI (zI (zI τ 25 22 t) 25 21 (yP1 τ a t)) 25 22 (yE1 τ a t))) = some r := hx
        rw [zI_ee] at hx
        obtain ⟨_, _, ⟨rfl, rfl⟩, hx⟩ := zTr (C := nC41) (tb := [(66, sp66)]) h0 rfl rfl ⟨z66 h0, trivial⟩ (fun pc => pc.beq 116) 60 hx
        have f0 : yFr τ (yLn τ a t) := yFr_I (yFr_I (yFr_refl _) rfl) rfl
        have fin : ∀ m4 (g : Int32), ((g = 1 ∧ zRun (yT τ) (yLe τ a t) a = yLe τ a t) ∨ (g = 0 ∧ ¬ zRun (yT τ) (yLe τ a t) a = yLe τ a t)) → zF v5 d' k 41 m4 116 [(6, .int (yE1 τ a t)), (5, .int (yOe τ a t)), (4, .int (yO τ a t)), (3, .int (yLe τ a t)), (0, .ref 183), (1, .int a), (2, .int t)] [.int g] (zH c0 (zI (yLn τ a t) 25 22 (yLe τ a t))) = some r → ∃ o σ', yRlR τ a t o σ' ∧ r = zOut c0 o σ' := by
          intro m4 g hg hx
          obtain ⟨m5, hm5, hx⟩ := zTr (C := nC41) (tb := []) h0 rfl rfl trivial (fun pc => pc.beq 124) 60 hx
          have hx : zF v5 d' k 41 m5 124 [(7, .int g), (6, .int (yE1 τ a t)), (5, .int (yOe τ a t)), (4, .int (yO τ a t)), (3, .int (yLe τ a t)), (0, .ref 183), (1, .int a), (2, .int t)] [] (zH c0 (zI (zI (yLn τ a t) 25 22 (yLe τ a t)) 25 22 (yE1 τ a t))) = some r := hx
          rw [zI_zI, zI_zI] at hx
          replace hx := zTr (C := nC41) (tb := [(40, sp40), (67, sp67)]) h0 rfl rfl ⟨z40 h0, z67 h0, trivial⟩ (fun _ => false) 60 hx
          rcases hx with ⟨h2, hx⟩ | ⟨h2, _, _, ⟨rfl, rfl⟩, hx⟩
          · have hg : zRun (yT τ) (yLe τ a t) a = yLe τ a t := by
              rcases hg with ⟨-, hg⟩ | ⟨hg, -⟩
              · exact hg
              · exact absurd hg (cNeT h2)
            rcases hx with ⟨h3, hx⟩ | ⟨h3, _, σ', ⟨rfl, g1, g2, g3⟩, hx⟩
            · exact ⟨_, _, ⟨rfl, f0, fun h => h, fun h => absurd h (show ¬ yB τ = 0 from cNeT h3)⟩, hx⟩
            · have h3 : yB τ = 0 := cNeF h3
              exact ⟨_, _, ⟨rfl, yFr_trans f0 g1, g2, fun hb ha ho => Or.inr ⟨hn, Or.inr ⟨h1, Or.inr ⟨hg, g3 hb ha ho⟩⟩⟩⟩, hx⟩
          · have hg : ¬ zRun (yT τ) (yLe τ a t) a = yLe τ a t := by
              rcases hg with ⟨hg, -⟩ | ⟨-, hg⟩
              · exact absurd ((cNeF h2).symm.trans hg) (by decide)
              · exact hg
            have B : ¬ yB (zI (yLn τ a t) 25 23 1) = 0 := by show ¬ (1 : Int32) = 0; decide
            rcases hx with ⟨h3, hx⟩ | ⟨h3, -⟩
            · exact ⟨_, _, ⟨rfl, yFr_I f0 rfl, fun _ => B, fun _ _ _ => Or.inr ⟨hn, Or.inr ⟨h1, Or.inl ⟨hg, B⟩⟩⟩⟩, hx⟩
            · exact absurd (cNeF h3) B
        rcases hx with ⟨h2, m4, hm4, hx⟩ | ⟨h2, m4, hm4, hx⟩
        · exact fin m4 0 (Or.inr ⟨rfl, cNeT h2⟩) hx
        · exact fin m4 1 (Or.inl ⟨rfl, cNeF h2⟩) hx
      · have h1 : yO τ a t = t := cNeF h1
        have B : ¬ yB (zI (zI τ 25 22 t) 25 23 1) = 0 := by show ¬ (1 : Int32) = 0; decide
        exact ⟨_, _, ⟨rfl, yFr_I (yFr_I (yFr_refl _) rfl) rfl, fun _ => B, fun _ _ _ => Or.inr ⟨hn, Or.inl ⟨h1, B⟩⟩⟩, hx⟩
    rcases hx with ⟨h1, _, _, ⟨rfl, rfl⟩, ⟨h2, m1, hm1, hx⟩ | ⟨h2, hx⟩⟩ | ⟨h1, -, ⟨h3, hx⟩ | ⟨h3, _, _, ⟨rfl, rfl⟩, ⟨h2, m1, hm1, hx⟩ | ⟨h2, hx⟩⟩⟩
    · exact go m1 (fun h => h.elim (fun h => cGeT h1 h.1) (fun h => cNeT h2 h)) hx
    · exact nth (Or.inr (cNeF h2)) hx
    · exact nth (Or.inl ⟨cGeF h1, cEqT h3⟩) hx
    · exact go m1 (fun h => h.elim (fun h => cEqF h3 h.2) (fun h => cNeT h2 h)) hx
    · exact nth (Or.inr (cNeF h2)) hx
  · cases hs
end RF
