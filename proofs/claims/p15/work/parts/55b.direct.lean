/-! DIRECTIVES -/
abbrev xOp (σ : zS) : Nat := σ.2.2.2.2.1
abbrev xLKd (σ : zS) : Int32 := σ.1 11 12
abbrev xLsy (σ : zS) : Int32 := σ.1 11 13
/-- what EQU, ORIG, CON, END do with their word -/
abbrev zDiP (τ : zS) (w : Int32) : zCs := fun o σ' => (xOp τ = 48 ∧ ((¬ xLKd τ = 2 ∧ zR τ w o σ') ∨ (xLKd τ = 2 ∧ (0 ≤ (xLsy τ).toInt ∧ (xLsy τ).toInt < 30) ∧ ((xFill τ (xLsy τ) w = none ∧ zFl τ o σ') ∨ (∃ W G, xFill τ (xLsy τ) w = some (W, G) ∧ zR (zWG (zGv τ (xLsy τ) w) W G) w o σ'))))) ∨ (¬ xOp τ = 48 ∧ xOp τ = 49 ∧ zR (zI τ 11 8 (zVal w)) w o σ') ∨ (¬ xOp τ = 48 ∧ ¬ xOp τ = 49 ∧ xOp τ = 50 ∧ ((¬ zPlc (xPl τ) ∧ zFl τ o σ') ∨ (zPlc (xPl τ) ∧ zR (zPut τ w) w o σ'))) ∨ (¬ xOp τ = 48 ∧ ¬ xOp τ = 49 ∧ ¬ xOp τ = 50 ∧ ((¬ zPlc (zVal w) ∧ zFl τ o σ') ∨ (zPlc (zVal w) ∧ zR (zI (zI τ 11 9 (zVal w)) 11 10 1) w o σ')))
abbrev zDiR (σ : zS) : zCs := fun o σ' => (xW σ = none ∧ zFl σ o σ') ∨ (∃ w q, xW σ = some (w, q) ∧ ((q < xPe σ ∧ zFl σ o σ') ∨ (¬ q < xPe σ ∧ ∃ nm ln cp nu, zDiP (zTs σ q nm ln cp nu) w o σ')))
abbrev sp90 (as : List Value) (σ : zS) : Option zCs := match as with
  | [.ref 169] => some (zDiR σ)
  | _ => none
theorem zDi_out {σ σ' : zS} {o : zO} (h : zDiR σ o σ') : (o = .inr 0 ∨ ∃ a, o = .inl (some (.int a))) ∧ zFr σ σ' := by
  rcases h with ⟨-, rfl, h⟩ | ⟨w, q, -, ⟨-, rfl, h⟩ | ⟨-, nm, ln, cp, nu, h⟩⟩
  · exact ⟨Or.inl rfl, h⟩
  · exact ⟨Or.inl rfl, h⟩
  · have f0 : zFr σ (zTs σ q nm ln cp nu) := zFr_T (zFr_refl _)
    rcases h with ⟨-, ⟨-, rfl, rfl⟩ | ⟨-, -, ⟨-, rfl, h⟩ | ⟨W, G, -, rfl, rfl⟩⟩⟩ | ⟨-, -, rfl, rfl⟩ | ⟨-, -, -, ⟨-, rfl, h⟩ | ⟨-, rfl, rfl⟩⟩ | ⟨-, -, -, ⟨-, rfl, h⟩ | ⟨-, rfl, rfl⟩⟩
    · exact ⟨Or.inr ⟨_, rfl⟩, f0⟩
    · exact ⟨Or.inl rfl, zFr_trans f0 h⟩
    · exact ⟨Or.inr ⟨_, rfl⟩, zFr_A (zFr_A (zFr_A f0 rfl) rfl) rfl⟩
    · exact ⟨Or.inr ⟨_, rfl⟩, zFr_I f0 rfl⟩
    · exact ⟨Or.inl rfl, zFr_trans f0 h⟩
    · exact ⟨Or.inr ⟨_, rfl⟩, zFr_I (zFr_A f0 rfl) rfl⟩
    · exact ⟨Or.inl rfl, zFr_trans f0 h⟩
    · exact ⟨Or.inr ⟨_, rfl⟩, zFr_I (zFr_I f0 rfl) rfl⟩
section DI
variable {c0 : mH} {v5 : Value}
theorem z90 (h0 : zC0 c0) : zSp c0 v5 90 sp90 := by
  intro d n as σ cs r hs hx
  unfold sp90 at hs
  split at hs
  · cases hs
    obtain ⟨d', hx⟩ := zGo hx
    replace hx := zTr (C := nC90) (tb := [(134, sp134), (119, sp119)]) h0 rfl rfl ⟨z134 h0, z119 h0, trivial⟩ (fun pc => pc.beq 25) 60 hx
    obtain ⟨_, _, ⟨hb, rfl, q, nm, ln, cp, nu, rfl⟩ | ⟨w, q, hb, rfl, nm, ln, cp, nu, rfl⟩, hx⟩ := hx
    · exact ⟨_, _, Or.inl ⟨hb, rfl, zFr_X (zFr_T (zFr_refl _))⟩, hx⟩
    · obtain ⟨_, _, ⟨h2, rfl, rfl⟩ | ⟨h2, rfl, rfl⟩, hx⟩ := hx
      · rcases hx with ⟨-, m', hm, hx⟩ | ⟨h, -⟩
        · suffices hs : ∃ o σ', zDiP (zTs σ q nm ln cp nu) w o σ' ∧ r = zOut c0 o σ' by
            obtain ⟨o, σ', g1, g2⟩ := hs
            exact ⟨o, σ', Or.inr ⟨w, q, hb, Or.inr ⟨h2, nm, ln, cp, nu, g1⟩⟩, g2⟩
          have hx : zF v5 d' n 90 m' 25 [(1, .int w), (0, .ref 169)] [] (zH c0 (zTs σ q nm ln cp nu)) = some r := hx
          generalize zTs σ q nm ln cp nu = τ at hx ⊢
          replace hx := zTr (C := nC90) (tb := [(135, sp135), (136, sp136), (132, sp132), (137, sp137)]) h0 rfl rfl ⟨z135 h0, z136 h0, z132 h0, z137 h0, trivial⟩ (fun _ => false) 60 hx
          rcases hx with ⟨h3, hx⟩ | ⟨h3, hx⟩
          · have h3 : ¬ xOp τ = 48 := of_decide_eq_true h3
            rcases hx with ⟨h4, hx⟩ | ⟨h4, hx⟩
            · have h4 : ¬ xOp τ = 49 := of_decide_eq_true h4
              rcases hx with ⟨h5, hx⟩ | ⟨h5, hx⟩
              · have h5 : ¬ xOp τ = 50 := of_decide_eq_true h5
                obtain ⟨_, _, ⟨h6, rfl, h7⟩ | ⟨h6, rfl, rfl⟩, hx⟩ := hx
                · exact ⟨_, _, Or.inr (Or.inr (Or.inr ⟨h3, h4, h5, Or.inl ⟨h6, rfl, h7⟩⟩)), hx⟩
                · exact ⟨_, _, Or.inr (Or.inr (Or.inr ⟨h3, h4, h5, Or.inr ⟨h6, rfl, rfl⟩⟩)), hx⟩
              · have h5 : xOp τ = 50 := Decidable.not_not.mp (of_decide_eq_false h5)
                obtain ⟨_, _, ⟨h6, rfl, rfl⟩ | ⟨h6, rfl, rfl⟩, hx⟩ := hx
                · exact ⟨_, _, Or.inr (Or.inr (Or.inl ⟨h3, h4, h5, Or.inl ⟨h6, rfl, zFr_X (zFr_refl _)⟩⟩)), hx⟩
                · exact ⟨_, _, Or.inr (Or.inr (Or.inl ⟨h3, h4, h5, Or.inr ⟨h6, rfl, rfl⟩⟩)), hx⟩
            · have h4 : xOp τ = 49 := Decidable.not_not.mp (of_decide_eq_false h4)
              obtain ⟨_, _, ⟨rfl, rfl⟩, hx⟩ := hx
              exact ⟨_, _, Or.inr (Or.inl ⟨h3, h4, rfl, rfl⟩), hx⟩
          · have h3 : xOp τ = 48 := Decidable.not_not.mp (of_decide_eq_false h3)
            obtain ⟨_, _, ⟨h4, rfl, rfl⟩ | ⟨h4, h5, ⟨h6, rfl, h7⟩ | ⟨W, G, h6, rfl, rfl⟩⟩, hx⟩ := hx
            · exact ⟨_, _, Or.inl ⟨h3, Or.inl ⟨h4, rfl, rfl⟩⟩, hx⟩
            · exact ⟨_, _, Or.inl ⟨h3, Or.inr ⟨h4, h5, Or.inl ⟨h6, rfl, h7⟩⟩⟩, hx⟩
            · exact ⟨_, _, Or.inl ⟨h3, Or.inr ⟨h4, h5, Or.inr ⟨W, G, h6, rfl, rfl⟩⟩⟩, hx⟩
        · exact absurd (cNeF h) (by decide)
      · rcases hx with ⟨h, -⟩ | ⟨-, hx⟩
        · exact absurd rfl (cNeT h)
        · exact ⟨_, _, Or.inr ⟨w, q, hb, Or.inl ⟨h2, rfl, zFr_X (zFr_T (zFr_refl _))⟩⟩, hx⟩
  · cases hs
end DI
