/-! THE REFERENCE: A-parts that are names -/
/-- a symbol that waits: found without a value, or new -/
abbrev ySyC (τ : zS) (q : Int32) (nm : Int64) (σ' : zS) : Prop := (¬ yFd τ nm < 0 ∧ ((yWt τ = 60 ∧ ¬ yB σ' = 0) ∨ (¬ yWt τ = 60 ∧ zI (yAdd τ 0 (yFd τ nm)) 25 21 q = σ'))) ∨ (yFd τ nm < 0 ∧ yCn τ = 30 ∧ ¬ yB σ' = 0) ∨ (yFd τ nm < 0 ∧ ¬ yCn τ = 30 ∧ (0 ≤ (yCn τ).toInt ∧ (yCn τ).toInt < 30) ∧ ((yWt τ = 60 ∧ ¬ yB σ' = 0) ∨ (¬ yWt τ = 60 ∧ zI (yAdd (yNew τ nm) 0 (yCn τ)) 25 21 q = σ')))
/-- the cases of a name or an expression -/
abbrev yApN (τ : zS) (x : Int32) (σ' : zS) : Prop := (yAlo τ ∧ zLoc (yT τ) (yP τ) (yQ τ) 70 ∧ ((yWt τ = 60 ∧ ¬ yB σ' = 0) ∨ (¬ yWt τ = 60 ∧ x = 0 ∧ zI (yAdd τ 1 (yT τ (yP τ).toNatClampNeg - 48)) 25 21 (yQ τ) = σ'))) ∨ (yAlo τ ∧ ¬ zLoc (yT τ) (yP τ) (yQ τ) 70 ∧ yUn τ (yQ τ) (yNm τ (yP τ) (yQ τ)) ∧ x = 0 ∧ ySyC τ (yQ τ) (yNm τ (yP τ) (yQ τ)) σ') ∨ (¬ (yAlo τ ∧ (zLoc (yT τ) (yP τ) (yQ τ) 70 ∨ yUn τ (yQ τ) (yNm τ (yP τ) (yQ τ)))) ∧ yApE τ x σ')
section RF
variable {c0 : mH} {v5 : Value}
theorem z147_y (h0 : zC0 c0) {d n m : Nat} {r : mO × mH} {τ : zS} {q a2 a3 : Int32} (hx : zF v5 d n 147 m 275 [(3, .int a3), (2, .int a2), (1, .int q), (0, .ref 183)] [] (zH c0 τ) = some r) : ∃ σ', r = zOut c0 (.inl (some (.int 0))) σ' ∧ yFr τ σ' ∧ (¬ yB τ = 0 → ¬ yB σ' = 0) ∧ (yB τ = 0 → (yP τ).toInt ≤ 1000 → ySyC τ q (yNm τ (yP τ) q) σ') := by
  replace hx := zTr (C := nC147) (tb := [(100, sp100), (193, sp193)]) h0 rfl rfl ⟨z100 h0, z193 h0, trivial⟩ (fun _ => false) 60 hx
  obtain ⟨_, _, ⟨nm, h1, ⟨h2, rfl, rfl⟩ | ⟨h2, h3, rfl, rfl⟩ | ⟨h2, h3, h4, nm', h5, rfl, rfl⟩⟩, hx⟩ := hx
  · rcases hx with ⟨g1, hx⟩ | ⟨g1, hx⟩
    · exact ⟨_, hx, yFr_I (yFr_refl _) rfl, fun h => h, fun h => absurd h (cNeT g1)⟩
    · obtain ⟨_, _, ⟨k1, rfl, rfl⟩ | ⟨k1, k2, rfl, rfl⟩, hx⟩ := hx
      · refine ⟨_, hx, yFr_I (yFr_I (yFr_refl _) rfl) rfl, fun _ => (by show ¬ (1 : Int32) = 0; decide), fun hb hp => ?_⟩
        rw [← h1 hp]
        exact Or.inl ⟨h2, Or.inl ⟨k1, by show ¬ (1 : Int32) = 0; decide⟩⟩
      · refine ⟨_, hx, yFr_I (yFr_W (yFr_refl _)) rfl, fun h => h, fun hb hp => ?_⟩
        rw [← h1 hp]
        exact Or.inl ⟨h2, Or.inr ⟨k1, rfl⟩⟩
  · rcases hx with ⟨g1, hx⟩ | ⟨g1, -⟩
    · refine ⟨_, hx, yFr_I (yFr_I (yFr_refl _) rfl) rfl, fun _ => (by show ¬ (1 : Int32) = 0; decide), fun hb hp => ?_⟩
      rw [← h1 hp]
      exact Or.inr (Or.inl ⟨h2, h3, by show ¬ (1 : Int32) = 0; decide⟩)
    · exact absurd (show (1 : Int32) = 0 from cNeF g1) (by decide)
  · rcases hx with ⟨g1, hx⟩ | ⟨g1, hx⟩
    · exact ⟨_, hx, yFr_I (yFr_N (yFr_refl _)) rfl, fun h => h, fun h => absurd h (cNeT g1)⟩
    · obtain ⟨_, _, ⟨k1, rfl, rfl⟩ | ⟨k1, k2, rfl, rfl⟩, hx⟩ := hx
      · refine ⟨_, hx, yFr_I (yFr_I (yFr_N (yFr_refl _)) rfl) rfl, fun _ => (by show ¬ (1 : Int32) = 0; decide), fun hb hp => ?_⟩
        rw [← h1 hp]
        exact Or.inr (Or.inr ⟨h2, h3, h4, Or.inl ⟨k1, by show ¬ (1 : Int32) = 0; decide⟩⟩)
      · refine ⟨_, hx, yFr_I (yFr_W (yFr_N (yFr_refl _))) rfl, fun h => h, fun hb hp => ?_⟩
        rw [← h1 hp]
        have e := h5 hp
        subst e
        exact Or.inr (Or.inr ⟨h2, h3, h4, Or.inr ⟨k1, rfl⟩⟩)
theorem z147_n (h0 : zC0 c0) {d n m : Nat} {r : mO × mH} {τ : zS} {q al : Int32} (hq : q = yQ τ) (hal : (al = 1 ∧ yAlo τ) ∨ (al = 0 ∧ ¬ yAlo τ)) (hx : zF v5 d n 147 m 170 [(2, .int al), (1, .int q), (0, .ref 183)] [] (zH c0 τ) = some r) : ∃ x σ', r = zOut c0 (.inl (some (.int x))) σ' ∧ yFr τ σ' ∧ (¬ yB τ = 0 → ¬ yB σ' = 0) ∧ (yB τ = 0 → (yP τ).toInt ≤ 1000 ∧ (yE τ).toInt ≤ 240 → yApN τ x σ') := by
  replace hx := zTr (C := nC147) (tb := [(97, sp97), (193, sp193)]) h0 rfl rfl ⟨z97 h0, z193 h0, trivial⟩ (fun pc => pc.beq 212) 60 hx
  have ex : ∀ (m' : Nat) (a3 : Int32), ((yP τ).toInt ≤ 1000 → ¬ (yAlo τ ∧ (zLoc (yT τ) (yP τ) q 70 ∨ yUn τ q (yNm τ (yP τ) q)))) → zF v5 d n 147 m' 305 [(3, .int a3), (2, .int al), (1, .int q), (0, .ref 183)] [] (zH c0 τ) = some r → ∃ x σ', r = zOut c0 (.inl (some (.int x))) σ' ∧ yFr τ σ' ∧ (¬ yB τ = 0 → ¬ yB σ' = 0) ∧ (yB τ = 0 → (yP τ).toInt ≤ 1000 ∧ (yE τ).toInt ≤ 240 → yApN τ x σ') := by
    intro m' a3 hn hx
    obtain ⟨x, σ', g1, g2, g3, g4⟩ := z147_e h0 hx
    rw [hq] at hn
    exact ⟨x, σ', g1, g2, g3, fun hb hp => Or.inr (Or.inr ⟨hn hp.1, g4 hb hp⟩)⟩
  -- from 212 on, where it is no digit and F
  have rest : ∀ (m' : Nat), ¬ (yAlo τ ∧ zLoc (yT τ) (yP τ) q 70) → zF v5 d n 147 m' 212 [(2, .int al), (1, .int q), (0, .ref 183)] [] (zH c0 τ) = some r → ∃ x σ', r = zOut c0 (.inl (some (.int x))) σ' ∧ yFr τ σ' ∧ (¬ yB τ = 0 → ¬ yB σ' = 0) ∧ (yB τ = 0 → (yP τ).toInt ≤ 1000 ∧ (yE τ).toInt ≤ 240 → yApN τ x σ') := by
    intro m' hno hx
    replace hx := zTr (C := nC147) (tb := [(99, sp99), (140, sp140), (145, sp145)]) h0 rfl rfl ⟨z99 h0, z140 h0, z145 h0, trivial⟩ (fun pc => pc.beq 275 || pc.beq 305) 60 hx
    rcases hal with ⟨e1, ha⟩ | ⟨e1, ha⟩
    · rw [e1] at hx
      rcases hx with ⟨h, -⟩ | ⟨-, _, _, ⟨h2, rfl, rfl⟩ | ⟨h2, rfl, rfl⟩, hx⟩
      · exact absurd (cEqT h) (by decide)
      · rcases hx with ⟨h, -⟩ | ⟨-, _, _, ⟨nm, h3, rfl, rfl⟩, _, _, ⟨rfl, rfl⟩, hx⟩
        · exact absurd (cEqT h) (by decide)
        · rcases hx with ⟨h, -⟩ | ⟨-, _, _, ⟨-, rfl, rfl⟩ | ⟨h4, -⟩, hx⟩
          · exact absurd (cEqT h) (by decide)
          · have sym : ∀ (m2 : Nat) (a3 : Int32), (yFd τ nm < 0 ∨ ¬ yHas τ (yFd τ nm)) → zF v5 d n 147 m2 275 [(3, .int a3), (2, .int 1), (1, .int q), (0, .ref 183)] [] (zH c0 τ) = some r → ∃ x σ', r = zOut c0 (.inl (some (.int x))) σ' ∧ yFr τ σ' ∧ (¬ yB τ = 0 → ¬ yB σ' = 0) ∧ (yB τ = 0 → (yP τ).toInt ≤ 1000 ∧ (yE τ).toInt ≤ 240 → yApN τ x σ') := by
              intro m2 a3 hu hx
              obtain ⟨σ', g1, g2, g3, g4⟩ := z147_y h0 hx
              refine ⟨0, σ', g1, g2, g3, fun hb hp => Or.inr (Or.inl ⟨ha, ?_, ?_, rfl, ?_⟩)⟩
              · rw [← hq]; exact fun h => hno ⟨ha, h⟩
              · rw [← hq, ← h3 hp.1]; exact ⟨h2, hu⟩
              · rw [← hq]; exact g4 hb hp.1
            have noU : ¬ (yFd τ nm < 0 ∨ ¬ yHas τ (yFd τ nm)) → (yP τ).toInt ≤ 1000 → ¬ (yAlo τ ∧ (zLoc (yT τ) (yP τ) q 70 ∨ yUn τ q (yNm τ (yP τ) q))) := by
              intro hn hp h
              rcases h.2 with h | h
              · exact hno ⟨ha, h⟩
              · rw [← h3 hp] at h
                exact hn h.2
            rcases hx with ⟨h, -⟩ | ⟨-, ⟨g1, m2, hm2, hx⟩ | ⟨g1, -, ⟨g2, m2, hm2, hx⟩ | ⟨g2, m2, hm2, hx⟩⟩⟩
            · exact absurd (cEqT h) (by decide)
            · exact sym m2 _ (Or.inl (cLtT g1)) hx
            · exact ex m2 _ (noU (fun h => h.elim (cLtF g1) (fun h => h (cNeT g2)))) (by rw [e1]; exact hx)
            · exact sym m2 _ (Or.inr (fun h => h (cNeF g2))) hx
          · exact absurd h2 h4
      · have noI : (yP τ).toInt ≤ 1000 → ¬ (yAlo τ ∧ (zLoc (yT τ) (yP τ) q 70 ∨ yUn τ q (yNm τ (yP τ) q))) := fun _ h => h.2.elim (fun h' => hno ⟨ha, h'⟩) (fun h' => h2 h'.1)
        rcases hx with ⟨-, hx⟩ | ⟨h, -⟩
        · rcases hx with ⟨h, -⟩ | ⟨-, _, _, ⟨h4, -⟩ | ⟨-, rfl, rfl⟩, hx⟩
          · exact absurd (cEqT h) (by decide)
          · exact absurd h4 h2
          · rcases hx with ⟨-, m2, hm2, hx⟩ | ⟨h, -⟩
            · exact ex m2 _ noI (by rw [e1]; exact hx)
            · exact absurd rfl (cEqF h)
        · exact absurd rfl (cEqF h)
    · rw [e1] at hx
      rcases hx with ⟨-, hx⟩ | ⟨h, -⟩
      · rcases hx with ⟨-, m2, hm2, hx⟩ | ⟨h, -⟩
        · exact ex m2 _ (fun _ h => ha h.1) (by rw [e1]; exact hx)
        · exact absurd rfl (cEqF h)
      · exact absurd rfl (cEqF h)
  rcases hal with ⟨e1, ha⟩ | ⟨e1, ha⟩
  · rcases hx with ⟨h, -⟩ | ⟨-, _, _, ⟨h2, rfl, rfl⟩ | ⟨h2, rfl, rfl⟩, hx⟩
    · exact absurd (show al = 0 from cEqT h) (by rw [e1]; decide)
    · rcases hx with ⟨h, -⟩ | ⟨-, -, _, _, ⟨k1, rfl, rfl⟩ | ⟨k1, k2, rfl, rfl⟩, hx⟩
      · exact absurd (cEqT h) (by decide)
      · refine ⟨_, _, hx, yFr_I (yFr_I (yFr_refl _) rfl) rfl, fun _ => (by show ¬ (1 : Int32) = 0; decide), fun hb hp => Or.inl ⟨ha, ?_, Or.inl ⟨k1, by show ¬ (1 : Int32) = 0; decide⟩⟩⟩
        rw [← hq]; exact h2
      · refine ⟨_, _, hx, yFr_I (yFr_W (yFr_refl _)) rfl, fun h => h, fun hb hp => Or.inl ⟨ha, ?_, Or.inr ⟨k1, rfl, ?_⟩⟩⟩
        · rw [← hq]; exact h2
        · rw [← hq]
          rfl
    · rcases hx with ⟨-, m', hm, hx⟩ | ⟨h, -⟩
      · exact rest m' (fun h => h2 h.2) hx
      · exact absurd rfl (cEqF h)
  · rcases hx with ⟨-, m', hm, hx⟩ | ⟨h, -⟩
    · exact rest m' (fun h => ha h.1) hx
    · exact absurd e1 (cEqF h)
end RF
