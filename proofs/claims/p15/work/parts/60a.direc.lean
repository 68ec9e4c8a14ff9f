/-! THE REFERENCE: directive() -/
abbrev yDi3 (τ : zS) (w : Int32) (σ' : zS) : Prop := (¬ yPlc (zVal w) ∧ ¬ yB σ' = 0) ∨ (yPlc (zVal w) ∧ yFiR (zI τ 25 25 (zVal w)) (.inl none) σ')
abbrev yDiW (τ : zS) (n l w x : Int32) (σ' : zS) : Prop := (n = 100 → x = w ∧ τ = σ') ∧ (n = 101 → x = l ∧ zI τ 25 24 (zVal w) = σ') ∧ (n = 102 → x = l ∧ ((¬ yPlc (yPl τ) ∧ ¬ yB σ' = 0) ∨ (yPlc (yPl τ) ∧ zI (yStd τ (yPl τ) w) 25 24 (yPl τ + 1) = σ'))) ∧ (n = 103 → x = l ∧ yDi3 τ w σ')
abbrev yDiC (τ : zS) (n l x : Int32) (σ' : zS) : Prop := (yWs τ 0 (yP τ) = none ∧ ¬ yB σ' = 0) ∨ ∃ w q, yWs τ 0 (yP τ) = some (w, q) ∧ ((¬ q = yE τ ∧ ¬ yB σ' = 0) ∨ (q = yE τ ∧ yDiW (zPb2 τ q 0) n l w x σ'))
abbrev yDiR (τ : zS) (n l : Int32) : zCs := fun o σ' => ∃ x, o = .inl (some (.int x)) ∧ yFr τ σ' ∧ (¬ yB τ = 0 → ¬ yB σ' = 0) ∧ (yB τ = 0 → yBnd τ → yDiC τ n l x σ')
abbrev sp104 (as : List Value) (σ : zS) : Option zCs := match as with
  | [.ref 183, .int n, .int l] => some (yDiR σ n l)
  | _ => none
section RF
variable {c0 : mH} {v5 : Value}
theorem z104_f (h0 : zC0 c0) {d k m : Nat} {r : mO × mH} {τ : zS} {n l w : Int32} (hx : zF v5 d k 104 m 108 [(3, .int w), (0, .ref 183), (1, .int n), (2, .int l)] [] (zH c0 τ) = some r) : ∃ x, r = zOut c0 (.inl (some (.int x))) τ ∧ (n = 100 → x = w) ∧ (¬ n = 100 → x = l) := by
  rcases zTr (C := nC104) (tb := []) h0 rfl rfl trivial (fun _ => false) 60 hx with ⟨h1, hx⟩ | ⟨h1, hx⟩
  · exact ⟨_, hx, fun h => absurd h (cNeT h1), fun _ => rfl⟩
  · exact ⟨_, hx, fun _ => rfl, fun h => absurd (cNeF h1) h⟩
theorem z104_3 (h0 : zC0 c0) {d k m : Nat} {r : mO × mH} {τ : zS} {n l w : Int32} (hx : zF v5 d k 104 m 68 [(3, .int w), (0, .ref 183), (1, .int n), (2, .int l)] [] (zH c0 τ) = some r) : ∃ x σ', r = zOut c0 (.inl (some (.int x))) σ' ∧ yFr τ σ' ∧ (¬ yB τ = 0 → ¬ yB σ' = 0) ∧ (n = 100 → x = w) ∧ (¬ n = 100 → x = l) ∧ (¬ n = 103 → τ = σ') ∧ (yB τ = 0 → n = 103 → yDi3 τ w σ') := by
  replace hx := zTr (C := nC104) (tb := [(74, sp74), (46, sp46), (40, sp40), (153, sp153)]) h0 rfl rfl ⟨z74 h0, z46 h0, z40 h0, z153 h0, trivial⟩ (fun pc => pc.beq 108) 60 hx
  rcases hx with ⟨h1, m1, hm1, hx⟩ | ⟨h1, _, _, ⟨rfl, rfl⟩, _, _, ⟨h2, rfl, rfl⟩ | ⟨h2, rfl, rfl⟩, hx⟩
  · obtain ⟨x, g1, g2, g3⟩ := z104_f h0 hx
    exact ⟨x, τ, g1, yFr_refl _, fun h => h, g2, g3, fun _ => rfl, fun _ h => absurd h (cNeT h1)⟩
  · have h1 : n = 103 := cNeF h1
    rcases hx with ⟨-, hx⟩ | ⟨h, -⟩
    · rcases hx with ⟨h3, m1, hm1, hx⟩ | ⟨h3, _, σ1, ⟨rfl, g1, g2, g3⟩, m1, hm1, hx⟩
      · obtain ⟨x, e1, e2, e3⟩ := z104_f h0 hx
        exact ⟨x, _, e1, yFr_I (yFr_refl _) rfl, fun h => h, e2, e3, fun h => absurd h1 h, fun h => absurd h (show ¬ yB τ = 0 from cNeT h3)⟩
      · obtain ⟨x, e1, e2, e3⟩ := z104_f h0 hx
        exact ⟨x, _, e1, yFr_trans (yFr_I (yFr_refl _) rfl) g1, g2, e2, e3, fun h => absurd h1 h, fun h _ => Or.inr ⟨h2, rfl, g1, g2, g3⟩⟩
    · exact absurd (cNeF h) (by decide)
  · have h1 : n = 103 := cNeF h1
    rcases hx with ⟨h, -⟩ | ⟨-, _, _, ⟨rfl, rfl⟩, hx⟩
    · exact absurd rfl (cNeT h)
    · rcases hx with ⟨h3, m1, hm1, hx⟩ | ⟨h3, -⟩
      · obtain ⟨x, e1, e2, e3⟩ := z104_f h0 hx
        have B : ¬ yB (zI (zI τ 25 25 (zVal w)) 25 23 1) = 0 := by show ¬ (1 : Int32) = 0; decide
        exact ⟨x, _, e1, yFr_I (yFr_I (yFr_refl _) rfl) rfl, fun h => B, e2, e3, fun h => absurd h1 h, fun _ _ => Or.inl ⟨h2, B⟩⟩
      · exact absurd (cNeF h3) (by show ¬ (1 : Int32) = 0; decide)
theorem z104_1 (h0 : zC0 c0) {d k m : Nat} {r : mO × mH} {τ : zS} {n l w : Int32} (hb : yB τ = 0) (hx : zF v5 d k 104 m 29 [(3, .int w), (0, .ref 183), (1, .int n), (2, .int l)] [] (zH c0 τ) = some r) : ∃ x σ', r = zOut c0 (.inl (some (.int x))) σ' ∧ yFr τ σ' ∧ yDiW τ n l w x σ' := by
  replace hx := zTr (C := nC104) (tb := [(74, sp74), (151, sp151)]) h0 rfl rfl ⟨z74 h0, z151 h0, trivial⟩ (fun pc => pc.beq 68) 60 hx
  rcases hx with ⟨h1, ⟨h2, m1, hm1, hx⟩ | ⟨h2, _, _, ⟨h3, rfl, rfl⟩ | ⟨h3, rfl, rfl⟩, m1, hm1, hx⟩⟩ | ⟨h1, _, _, ⟨rfl, rfl⟩, ⟨h2, m1, hm1, hx⟩ | ⟨h2, hx⟩⟩
  · have h1 : ¬ n = 101 := cNeT h1
    have h2 : ¬ n = 102 := cNeT h2
    obtain ⟨x, σ', e1, e2, e3, e4, e5, e6, e7⟩ := z104_3 h0 hx
    refine ⟨x, σ', e1, e2, fun h => ⟨e4 h, e6 (by rw [h]; decide)⟩, fun h => absurd h h1, fun h => absurd h h2, fun h => ⟨e5 (by rw [h]; decide), e7 hb h⟩⟩
  · have h1 : ¬ n = 101 := cNeT h1
    have h2 : n = 102 := cNeF h2
    obtain ⟨x, σ', e1, e2, e3, e4, e5, e6, e7⟩ := z104_3 h0 hx
    refine ⟨x, σ', e1, yFr_trans (yFr_I (yFr_I (yFr_refl _) rfl) rfl) e2, fun h => absurd (h.symm.trans h2) (by decide), fun h => absurd h h1, fun h => ⟨e5 (by rw [h]; decide), Or.inl ⟨h3, e3 (by show ¬ (1 : Int32) = 0; decide)⟩⟩, fun h => absurd (h.symm.trans h2) (by decide)⟩
  · have h1 : ¬ n = 101 := cNeT h1
    have h2 : n = 102 := cNeF h2
    obtain ⟨x, σ', e1, e2, e3, e4, e5, e6, e7⟩ := z104_3 h0 hx
    refine ⟨x, σ', e1, yFr_trans (yFr_I (yFr_S (yFr_refl _)) rfl) e2, fun h => absurd (h.symm.trans h2) (by decide), fun h => absurd h h1, fun h => ⟨e5 (by rw [h]; decide), Or.inr ⟨h3, e6 (by rw [h]; decide)⟩⟩, fun h => absurd (h.symm.trans h2) (by decide)⟩
  · have h1 : n = 101 := cNeF h1
    obtain ⟨x, σ', e1, e2, e3, e4, e5, e6, e7⟩ := z104_3 h0 hx
    refine ⟨x, σ', e1, yFr_trans (yFr_I (yFr_refl _) rfl) e2, fun h => absurd (h.symm.trans h1) (by decide), fun h => ⟨e5 (by rw [h]; decide), e6 (by rw [h]; decide)⟩, fun h => absurd (h.symm.trans h1) (by decide), fun h => absurd (h.symm.trans h1) (by decide)⟩
  · exact absurd ((cNeF h1).symm.trans (cNeF h2)) (by decide)
theorem z104 (h0 : zC0 c0) : zSp c0 v5 104 sp104 := by
  intro d k as σ cs r hs hx
  unfold sp104 at hs
  split at hs
  · rename_i n l
    cases hs
    obtain ⟨d', hx⟩ := zGo hx
    replace hx := zTr (C := nC104) (tb := [(152, sp152), (40, sp40)]) h0 rfl rfl ⟨z152 h0, z40 h0, trivial⟩ (fun pc => pc.beq 29) 60 hx
    obtain ⟨_, _, ⟨w, q, b, rfl, rfl, g1, g2⟩, hx⟩ := hx
    rcases hx with ⟨h1, hx⟩ | ⟨h1, _, _, ⟨rfl, rfl⟩, hx⟩
    · have h1 : q = yE σ := cEqT h1
      rcases hx with ⟨h2, m1, hm1, hx⟩ | ⟨h2, hx⟩
      · have h2 : b = 0 := cEqT h2
        obtain ⟨x, σ', e1, e2, e3⟩ := z104_1 h0 (show yB (zPb2 σ q b) = 0 from h2) hx
        refine ⟨_, _, ⟨x, rfl, yFr_trans (yFr_P (yFr_refl _)) e2, fun h => absurd h2 (g1 h), fun hb hp => ?_⟩, e1⟩
        rcases g2 hb hp with ⟨_, k2⟩ | ⟨k1, _⟩
        · rw [h2] at e3
          exact Or.inr ⟨w, q, k2, Or.inr ⟨h1, e3⟩⟩
        · exact absurd h2 k1
      · have h2 : ¬ b = 0 := cEqF h2
        refine ⟨_, _, ⟨_, rfl, yFr_P (yFr_refl _), fun _ => h2, fun hb hp => ?_⟩, hx⟩
        rcases g2 hb hp with ⟨k1, _⟩ | ⟨_, k2⟩
        · exact absurd k1 h2
        · exact Or.inl ⟨k2, h2⟩
    · have h1 : ¬ q = yE σ := cEqF h1
      have B : ¬ yB (zI (zPb2 σ q b) 25 23 1) = 0 := by show ¬ (1 : Int32) = 0; decide
      rcases hx with ⟨h2, -⟩ | ⟨h2, hx⟩
      · exact absurd (cEqT h2) B
      · refine ⟨_, _, ⟨_, rfl, yFr_I (yFr_P (yFr_refl _)) rfl, fun _ => B, fun hb hp => ?_⟩, hx⟩
        rcases g2 hb hp with ⟨_, k2⟩ | ⟨_, k2⟩
        · exact Or.inr ⟨w, q, k2, Or.inl ⟨h1, B⟩⟩
        · exact Or.inl ⟨k2, B⟩
  · cases hs
end RF
