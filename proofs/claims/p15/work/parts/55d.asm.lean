/-! THE CLASS'S ASSEMBLING, TURN BY TURN -/
/-- what is laid down at the end -/
abbrev zDone (σ : zS) (V : Nat → Int32) (pl : Int32) (W G : Nat → Int32) : zS := zI (zI (zA (zI (zCopy (zAs σ V pl W G)) 11 11 (-1)) 1 (zCw W (σ.2.2.1 1) 200)) 7 5 (σ.1 11 9)) 7 6 0
section AS
variable {c0 : mH} {v5 : Value}
theorem z38_b (h0 : zC0 c0) {d n : Nat} {r : mO × mH} {σ : zS} (hx : evM 158 nDflt (mP' (nCodw v5)) nHn nMxx' d n 38 [.ref 158] (zH c0 σ) = some r) : ∃ d' m', zF v5 d' n 38 m' 9 [(1, .int 0), (0, .ref 158)] [] (zH c0 (zBeg σ)) = some r := by
  obtain ⟨d', hx⟩ := zGo hx
  obtain ⟨_, _, ⟨rfl, rfl⟩, m', hm, hx⟩ := zTr (C := nC38) (tb := [(58, sp58)]) h0 rfl rfl ⟨z58 h0, trivial⟩ (fun pc => pc.beq 9) 60 hx
  exact ⟨d', m', hx⟩
theorem z38_t (h0 : zC0 c0) {d n m : Nat} {r : mO × mH} {σ : zS} {i : Int32} (hx : zF v5 d n 38 m 9 [(1, .int i), (0, .ref 158)] [] (zH c0 σ) = some r) : ((240 < i ∨ ¬ xWant σ) ∧ ∃ m', zF v5 d n 38 m' 39 [(1, .int i), (0, .ref 158)] [] (zH c0 σ) = some r) ∨ (¬ 240 < i ∧ xWant σ ∧ ∃ o1 σ1, zLnR σ o1 σ1 ∧ ((o1 = .inr 0 ∧ r = zOut c0 (.inr 0) σ1) ∨ (o1 = .inl none ∧ ∃ m', m' < m ∧ zF v5 d n 38 m' 9 [(1, .int (i + 1)), (0, .ref 158)] [] (zH c0 σ1) = some r))) := by
  replace hx := zTr (C := nC38) (tb := [(59, sp59), (60, sp60)]) h0 rfl rfl ⟨z59 h0, z60 h0, trivial⟩ (fun pc => pc.beq 9 || pc.beq 39) 60 hx
  rcases hx with ⟨h1, m', hm, hx⟩ | ⟨h1, _, _, ⟨h2, rfl, rfl⟩ | ⟨h2, rfl, rfl⟩, hx⟩
  · exact Or.inl ⟨Or.inl (cGtT h1), m', hx⟩
  · rcases hx with ⟨h, -⟩ | ⟨-, o1, σ1, h3, hx⟩
    · exact absurd (cEqT h) (by decide)
    · refine Or.inr ⟨cGtF h1, h2, o1, σ1, h3, ?_⟩
      have ho : o1 = .inr 0 ∨ o1 = .inl none := by
        rcases h3 with ⟨-, rfl, -⟩ | ⟨-, o, τ, g1, g2⟩
        · exact Or.inr rfl
        · rcases g2 with ⟨-, rfl, -⟩ | ⟨-, o2, τ2, g3, ⟨-, rfl, -⟩ | ⟨-, o3, τ3, g4, ⟨-, rfl, -⟩ | ⟨-, g5⟩⟩⟩
          · exact Or.inl rfl
          · exact Or.inl rfl
          · exact Or.inl rfl
          · have five : ∀ {τ : zS} {v : Int32} {o : zO} {σ' : zS}, zL5 τ v o σ' → o = .inr 0 ∨ o = .inl none := by
              intro τ v o σ' h
              rcases h with ⟨-, rfl, -⟩ | ⟨-, _, _, -, ⟨-, rfl, -⟩ | ⟨-, -, rfl, -⟩⟩
              · exact Or.inr rfl
              · exact Or.inl rfl
              · exact Or.inr rfl
            have four : ∀ {τ : zS} {v : Int32} {o : zO} {σ' : zS}, zL4 τ v o σ' → o = .inr 0 ∨ o = .inl none := by
              intro τ v o σ' h
              rcases h with ⟨-, _, _, -, ⟨-, rfl, -⟩ | ⟨-, h⟩⟩ | ⟨-, _, _, -, ⟨-, rfl, -⟩ | ⟨w, -, ⟨-, h⟩ | ⟨-, h⟩⟩⟩
              · exact Or.inl rfl
              · exact five h
              · exact Or.inl rfl
              · exact five h
              · exact five h
            rcases g5 with ⟨-, _, _, -, ⟨-, rfl, -⟩ | ⟨-, h⟩⟩ | ⟨-, h⟩
            · exact Or.inl rfl
            · exact four h
            · exact four h
      rcases ho with rfl | rfl
      · exact Or.inl ⟨rfl, hx⟩
      · obtain ⟨m', hm, hx⟩ := hx
        exact Or.inr ⟨rfl, m', by omega, hx⟩
  · rcases hx with ⟨-, m', hm, hx⟩ | ⟨h, -⟩
    · exact Or.inl ⟨Or.inr h2, m', hx⟩
    · exact absurd rfl (cEqF h)
theorem z38_e (h0 : zC0 c0) {d n m : Nat} {r : mO × mH} {σ : zS} {i : Int32} (hx : zF v5 d n 38 m 39 [(1, .int i), (0, .ref 158)] [] (zH c0 σ) = some r) : (xFin σ = none ∧ ∃ σ', zFr σ σ' ∧ r = zOut c0 (.inr 0) σ') ∨ (∃ V pl W G, xFin σ = some (V, pl, W, G) ∧ r = zOut c0 (.inl (some (.int (σ.1 11 9)))) (zDone σ V pl W G)) := by
  replace hx := zTr (C := nC38) (tb := [(61, sp61), (62, sp62), (63, sp63)]) h0 rfl rfl ⟨z61 h0, z62 h0, z63 h0, trivial⟩ (fun _ => false) 60 hx
  obtain ⟨_, _, ⟨h1, rfl, h2⟩ | ⟨V, pl, W, G, h1, rfl, rfl⟩, hx⟩ := hx
  · exact Or.inl ⟨h1, _, h2, hx⟩
  · obtain ⟨_, _, ⟨rfl, rfl⟩, _, _, ⟨rfl, rfl⟩, hx⟩ := hx
    exact Or.inr ⟨V, pl, W, G, h1, hx⟩
end AS
