/-! A-PARTS -/
abbrev xK (σ : zS) : Int32 := zKf (xNm σ) (σ.1 9 7) (σ.1 9 8)
abbrev xAw (σ : zS) : Int32 := σ.1 11 17
abbrev sp188 (as : List Value) (σ : zS) : Option zCs := match as with
  | [.ref 169] => some (fun o σ' => (xK σ = 5 ∧ ((100 + zD0 (xNm σ) = -1 ∧ zR (zI σ 11 17 (100 + zD0 (xNm σ))) 0 o σ') ∨ (¬ 100 + zD0 (xNm σ) = -1 ∧ zR (zI σ 11 17 (100 + zD0 (xNm σ))) 1 o σ'))) ∨ (¬ xK σ = 5 ∧ xK σ = 2 ∧ xL σ (xNm σ) = -1 ∧ ((zSyF σ (xNm σ) ∧ zFl σ o σ') ∨ zSyR σ (xNm σ) (fun x τ => zR (zI τ 11 17 x) 1 o σ'))) ∨ (¬ xK σ = 5 ∧ ¬ (xK σ = 2 ∧ xL σ (xNm σ) = -1) ∧ ((xAw σ = -1 ∧ zR σ 0 o σ') ∨ (¬ xAw σ = -1 ∧ zR σ 1 o σ'))))
  | _ => none
section AP
variable {c0 : mH} {v5 : Value}
theorem z188_t (h0 : zC0 c0) {d n m : Nat} {r : mO × mH} {σ : zS} {k : Int32} (hx : zF v5 d n 188 m 61 [(1, .int k), (0, .ref 169)] [] (zH c0 σ) = some r) : (xAw σ = -1 ∧ r = zOut c0 (.inl (some (.int 0))) σ) ∨ (¬ xAw σ = -1 ∧ r = zOut c0 (.inl (some (.int 1))) σ) := by
  replace hx := zTr (C := nC188) (tb := []) h0 rfl rfl trivial (fun _ => false) 40 hx
  rcases hx with ⟨h, hx⟩ | ⟨h, hx⟩
  · exact Or.inl ⟨cEqT h, hx⟩
  · exact Or.inr ⟨cEqF h, hx⟩
theorem z188 (h0 : zC0 c0) : zSp c0 v5 188 sp188 := by
  intro d n as σ cs r hs hx
  unfold sp188 at hs
  split at hs
  · cases hs
    obtain ⟨d', hx⟩ := zGo hx
    replace hx := zTr (C := nC188) (tb := [(121, sp121), (122, sp122), (68, sp68), (123, sp123)]) h0 rfl rfl ⟨z121 h0, z122 h0, z68 h0, z123 h0, trivial⟩ (fun pc => pc.beq 61) 60 hx
    obtain ⟨_, _, ⟨rfl, rfl⟩, hx⟩ := hx
    rcases hx with ⟨h1, hx⟩ | ⟨h1, hx⟩
    · rcases hx with ⟨h2, m', hm, hx⟩ | ⟨h2, hx⟩
      · rcases z188_t h0 hx with ⟨h3, hx⟩ | ⟨h3, hx⟩
        · exact ⟨_, _, Or.inr (Or.inr ⟨cNeT h1, fun h => cNeT h2 h.1, Or.inl ⟨h3, rfl, rfl⟩⟩), hx⟩
        · exact ⟨_, _, Or.inr (Or.inr ⟨cNeT h1, fun h => cNeT h2 h.1, Or.inr ⟨h3, rfl, rfl⟩⟩), hx⟩
      · obtain ⟨_, _, ⟨rfl, rfl⟩, hx⟩ := hx
        rcases hx with ⟨h3, m', hm, hx⟩ | ⟨h3, hx⟩
        · rcases z188_t h0 hx with ⟨h4, hx⟩ | ⟨h4, hx⟩
          · exact ⟨_, _, Or.inr (Or.inr ⟨cNeT h1, fun h => cNeT h3 h.2, Or.inl ⟨h4, rfl, rfl⟩⟩), hx⟩
          · exact ⟨_, _, Or.inr (Or.inr ⟨cNeT h1, fun h => cNeT h3 h.2, Or.inr ⟨h4, rfl, rfl⟩⟩), hx⟩
        · obtain ⟨_, _, ⟨h4, rfl, rfl⟩ | ⟨h4, h5, rfl, rfl⟩ | ⟨h4, h5, h6, h7, rfl, rfl⟩, hx⟩ := hx
          · exact ⟨_, _, Or.inr (Or.inl ⟨cNeT h1, cNeF h2, cNeF h3, Or.inl ⟨h4, rfl, zFr_X (zFr_refl _)⟩⟩), hx⟩
          · obtain ⟨m', hm, hx⟩ := hx
            rcases z188_t h0 hx with ⟨h6, hx⟩ | ⟨h6, hx⟩
            · exact absurd h6 h5
            · exact ⟨_, _, Or.inr (Or.inl ⟨cNeT h1, cNeF h2, cNeF h3, Or.inr (Or.inl ⟨h4, h5, rfl, rfl⟩)⟩), hx⟩
          · obtain ⟨m', hm, hx⟩ := hx
            rcases z188_t h0 hx with ⟨h8, hx⟩ | ⟨h8, hx⟩
            · exact absurd h8 h7
            · exact ⟨_, _, Or.inr (Or.inl ⟨cNeT h1, cNeF h2, cNeF h3, Or.inr (Or.inr ⟨h4, h5, h6, h7, rfl, rfl⟩)⟩), hx⟩
    · obtain ⟨_, _, ⟨rfl, rfl⟩, m', hm, hx⟩ := hx
      rcases z188_t h0 hx with ⟨h3, hx⟩ | ⟨h3, hx⟩
      · exact ⟨_, _, Or.inl ⟨cNeF h1, Or.inl ⟨h3, rfl, rfl⟩⟩, hx⟩
      · exact ⟨_, _, Or.inl ⟨cNeF h1, Or.inr ⟨h3, rfl, rfl⟩⟩, hx⟩
  · cases hs
end AP
/-- what an A-part comes to: where it begins with "=" -/
abbrev zApL (σ : zS) : zCs := fun o σ' => (sWF (xE σ) (xT σ) (xPe σ) 240 0 (xAt σ + 1) = none ∧ zFl σ o σ') ∨ (∃ w q, sWF (xE σ) (xT σ) (xPe σ) 240 0 (xAt σ + 1) = some (w, q) ∧ ((¬ ((q < xPe σ ∧ xT σ q.toNatClampNeg = 61) ∧ xLc σ < 20) ∧ zFl σ o σ') ∨ (((q < xPe σ ∧ xT σ q.toNatClampNeg = 61) ∧ xLc σ < 20 ∧ 0 ≤ (xLc σ).toInt) ∧ ∃ nm ln cp nu, zR (zLit (zTs (zI σ 11 17 (-1)) (q + 1) nm ln cp nu) w) 0 o σ')))
/-- an expression -/
abbrev zApE (σ : zS) : zCs := fun o σ' => (xE σ (xAt σ) = none ∧ zFl σ o σ') ∨ (∃ v q, xE σ (xAt σ) = some (v, q) ∧ ((¬ (-4096 < v.toInt ∧ v.toInt < 4096) ∧ zFl σ o σ') ∨ ((-4096 < v.toInt ∧ v.toInt < 4096) ∧ ∃ nm ln cp nu, zR (zTs (zI σ 11 17 (-1)) q nm ln cp nu) (zOfL v) o σ')))
abbrev xQ (σ : zS) : Int32 := zRun (xT σ) (xPe σ) (xAt σ)
abbrev xN (σ : zS) : Nat := zDn (xAt σ) (xQ σ)
abbrev xNp (σ : zS) : Int64 := zPk (xT σ) (xAt σ) (min (xN σ) 6)
abbrev xKn (σ : zS) : Int32 := zKn (xT σ) (xAt σ) (xN σ)
abbrev xAlo (σ : zS) : Prop := xQ σ < xPe σ → xT σ (xQ σ).toNatClampNeg = 44 ∨ xT σ (xQ σ).toNatClampNeg = 40
/-- a name, or else an expression -/
abbrev zApN (σ : zS) : zCs := fun o σ' => (xAlo σ ∧ xKn σ = 5 ∧ ¬ 100 + zD0 (xNp σ) = -1 ∧ ∃ nm ln cp nu, zR (zI (zTs (zI σ 11 17 (-1)) (xQ σ) nm ln cp nu) 11 17 (100 + zD0 (xNp σ))) 0 o σ') ∨ (xAlo σ ∧ xKn σ = 2 ∧ xL σ (xNp σ) = -1 ∧ ((zSyF σ (xNp σ) ∧ zFl σ o σ') ∨ ∃ nm ln cp nu, zSyR (zTs (zI σ 11 17 (-1)) (xQ σ) nm ln cp nu) (xNp σ) (fun x τ => zR (zI τ 11 17 x) 0 o σ'))) ∨ (¬ (xAlo σ ∧ ((xKn σ = 5 ∧ ¬ 100 + zD0 (xNp σ) = -1) ∨ (xKn σ = 2 ∧ xL σ (xNp σ) = -1))) ∧ zApE σ o σ')
abbrev zApR (σ : zS) : zCs := fun o σ' => ((xAt σ < xPe σ → xH σ 44 ∨ xH σ 40) ∧ zR (zI σ 11 17 (-1)) 0 o σ') ∨ ((xAt σ < xPe σ ∧ ¬ xH σ 44 ∧ ¬ xH σ 40) ∧ ((xH σ 61 ∧ zApL σ o σ') ∨ (¬ xH σ 61 ∧ zApN σ o σ')))
abbrev sp126 (as : List Value) (σ : zS) : Option zCs := match as with
  | [.ref 169] => some (zApR σ)
  | _ => none
