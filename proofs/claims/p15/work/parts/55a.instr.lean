/-! INSTRUCTIONS -/
def sIx (E : Int32 → Option (Int64 × Int32)) (T : Nat → Int32) (e p : Int32) : Option (Int32 × Int32) := if p < e ∧ T p.toNatClampNeg = 44 then sUp (E (p + 1)) 6 else some (0, p)
def sFx (E : Int32 → Option (Int64 × Int32)) (T : Nat → Int32) (e c f p : Int32) : Option (Int32 × Int32) := if ¬ zTel c ∧ p < e ∧ T p.toNatClampNeg = 40 then (match sUp (E (p + 1)) 63 with
  | none => none
  | some y => if y.2 < e ∧ T y.2.toNatClampNeg = 41 then some (y.1, y.2 + 1) else none) else some (f, p)
/-- index and F, to the part's end -/
def sIF (E : Int32 → Option (Int64 × Int32)) (T : Nat → Int32) (e c f p : Int32) : Option (Int32 × Int32) := match sIx E T e p with
  | none => none
  | some i => match sFx E T e c f i.2 with
    | none => none
    | some y => if y.2 < e then none else some (i.1, y.1)
abbrev zFf (q : Nat) : Int32 := (nOp (q - 2)).2.2.2
abbrev xIF (σ : zS) : Option (Int32 × Int32) := sIF (xE σ) (xT σ) (xPe σ) (zCd σ.2.2.2.2.1) (zFf σ.2.2.2.2.1) (xAt σ)
def zWd (i f c a : Int32) : Int32 := zSto ((((i <<< (12 &&& 31)) ||| (f <<< (6 &&& 31))) ||| c) * 2 + 0) 2 a
abbrev zInP (σ : zS) (a : Int32) : zCs := fun o σ' => (xIF σ = none ∧ zFl σ o σ') ∨ (∃ i f, xIF σ = some (i, f) ∧ ((¬ zPlc (xPl σ) ∧ zFl σ o σ') ∨ (zPlc (xPl σ) ∧ ((xAw σ = -1 ∧ ∃ q nm ln cp nu, zN (zPut (zTs σ q nm ln cp nu) (zWd i f (σ.1 11 16) a)) o σ') ∨ (¬ xAw σ = -1 ∧ ((¬ xWc σ < 60 ∧ zFl σ o σ') ∨ ((xWc σ < 60 ∧ 0 ≤ (xWc σ).toInt) ∧ ∃ q nm ln cp nu, zN (zAdd (zPut (zTs σ q nm ln cp nu) (zWd i f (σ.1 11 16) a)) (xAw σ) (xPl σ) (σ.1 11 11)) o σ')))))))
abbrev zInR (σ : zS) : zCs := fun o σ' => ∃ o1 σ1, zApR σ o1 σ1 ∧ ((o1 = .inr 0 ∧ o = .inr 0 ∧ σ1 = σ') ∨ ∃ a, o1 = .inl (some (.int a)) ∧ zInP σ1 a o σ')
abbrev sp89 (as : List Value) (σ : zS) : Option zCs := match as with
  | [.ref 169] => some (zInR σ)
  | _ => none
theorem zAp_out {σ σ' : zS} {o : zO} (h : zApR σ o σ') : (o = .inr 0 ∨ ∃ a, o = .inl (some (.int a))) ∧ zFr σ σ' := by
  have f0 : zFr σ (zI σ 11 17 (-1)) := zFr_I (zFr_refl _) rfl
  rcases h with ⟨-, rfl, rfl⟩ | ⟨-, ⟨-, h⟩ | ⟨-, h⟩⟩
  · exact ⟨Or.inr ⟨_, rfl⟩, f0⟩
  · rcases h with ⟨-, rfl, h⟩ | ⟨w, q, -, ⟨-, rfl, h⟩ | ⟨-, nm, ln, cp, nu, rfl, rfl⟩⟩
    · exact ⟨Or.inl rfl, h⟩
    · exact ⟨Or.inl rfl, h⟩
    · exact ⟨Or.inr ⟨_, rfl⟩, zFr_I (zFr_I (zFr_A (zFr_T f0) rfl) rfl) rfl⟩
  · rcases h with ⟨-, -, -, nm, ln, cp, nu, rfl, rfl⟩ | ⟨-, -, -, ⟨-, rfl, h⟩ | ⟨nm, ln, cp, nu, ⟨-, -, rfl, rfl⟩ | ⟨-, -, -, -, rfl, rfl⟩⟩⟩ | ⟨-, h⟩
    · exact ⟨Or.inr ⟨_, rfl⟩, zFr_I (zFr_T f0) rfl⟩
    · exact ⟨Or.inl rfl, h⟩
    · exact ⟨Or.inr ⟨_, rfl⟩, zFr_I (zFr_T f0) rfl⟩
    · exact ⟨Or.inr ⟨_, rfl⟩, zFr_I (zFr_N (zFr_T f0)) rfl⟩
    · rcases h with ⟨-, rfl, h⟩ | ⟨v, q, -, ⟨-, rfl, h⟩ | ⟨-, nm, ln, cp, nu, rfl, rfl⟩⟩
      · exact ⟨Or.inl rfl, h⟩
      · exact ⟨Or.inl rfl, h⟩
      · exact ⟨Or.inr ⟨_, rfl⟩, zFr_T f0⟩
section IN
variable {c0 : mH} {v5 : Value}
theorem z89_p (h0 : zC0 c0) {d n m : Nat} {r : mO × mH} {σ : zS} {a i f : Int32} {q : Int32} {nm : Int64} {ln cp nu : Int32} (hx : zF v5 d n 89 m 87 [(3, .int f), (2, .int i), (1, .int a), (0, .ref 169)] [] (zH c0 (zTs σ q nm ln cp nu)) = some r) : ∃ o σ', ((q < xPe σ ∧ zFl σ o σ') ∨ (¬ q < xPe σ ∧ ((¬ zPlc (xPl σ) ∧ zFl σ o σ') ∨ (zPlc (xPl σ) ∧ ((xAw σ = -1 ∧ ∃ q nm ln cp nu, zN (zPut (zTs σ q nm ln cp nu) (zWd i f (σ.1 11 16) a)) o σ') ∨ (¬ xAw σ = -1 ∧ ((¬ xWc σ < 60 ∧ zFl σ o σ') ∨ ((xWc σ < 60 ∧ 0 ≤ (xWc σ).toInt) ∧ ∃ q nm ln cp nu, zN (zAdd (zPut (zTs σ q nm ln cp nu) (zWd i f (σ.1 11 16) a)) (xAw σ) (xPl σ) (σ.1 11 11)) o σ')))))))) ∧ r = zOut c0 o σ' := by
  replace hx := zTr (C := nC89) (tb := [(119, sp119), (130, sp130), (131, sp131), (132, sp132), (133, sp133)]) h0 rfl rfl ⟨z119 h0, z130 h0, z131 h0, z132 h0, z133 h0, trivial⟩ (fun _ => false) 60 hx
  have f0 : zFr σ (zTs σ q nm ln cp nu) := zFr_T (zFr_refl _)
  obtain ⟨_, _, ⟨h1, rfl, rfl⟩ | ⟨h1, rfl, rfl⟩, hx⟩ := hx
  · rcases hx with ⟨-, hx⟩ | ⟨h, -⟩
    · obtain ⟨_, _, ⟨rfl, rfl⟩, _, _, ⟨rfl, rfl⟩, _, _, ⟨h2, rfl, rfl⟩ | ⟨h2, rfl, rfl⟩, hx⟩ := hx
      · exact ⟨_, _, Or.inr ⟨h1, Or.inl ⟨h2, rfl, zFr_X f0⟩⟩, hx⟩
      · rcases hx with ⟨h3, hx⟩ | ⟨h3, hx⟩
        · exact ⟨_, _, Or.inr ⟨h1, Or.inr ⟨h2, Or.inl ⟨cEqT h3, q, nm, ln, cp, nu, rfl, rfl⟩⟩⟩, hx⟩
        · obtain ⟨_, _, ⟨h4, rfl, rfl⟩ | ⟨h4, h5, rfl, rfl⟩, hx⟩ := hx
          · rcases hx with ⟨h, -⟩ | ⟨-, hx⟩
            · exact absurd rfl (cNeT h)
            · exact ⟨_, _, Or.inr ⟨h1, Or.inr ⟨h2, Or.inr ⟨cEqF h3, Or.inl ⟨h4, rfl, zFr_X (zFr_I (zFr_A f0 rfl) rfl)⟩⟩⟩⟩, hx⟩
          · rcases hx with ⟨-, hx⟩ | ⟨h, -⟩
            · exact ⟨_, _, Or.inr ⟨h1, Or.inr ⟨h2, Or.inr ⟨cEqF h3, Or.inr ⟨⟨h4, h5⟩, q, nm, ln, cp, nu, rfl, rfl⟩⟩⟩⟩, hx⟩
            · exact absurd (cNeF h) (by decide)
    · exact absurd (cNeF h) (by decide)
  · rcases hx with ⟨h, -⟩ | ⟨-, hx⟩
    · exact absurd rfl (cNeT h)
    · exact ⟨_, _, Or.inl ⟨h1, rfl, zFr_X f0⟩, hx⟩
theorem z89_f (h0 : zC0 c0) {d n m : Nat} {r : mO × mH} {σ : zS} {a i : Int32} {q : Int32} {nm : Int64} {ln cp nu : Int32} (hx : zF v5 d n 89 m 28 [(2, .int i), (1, .int a), (0, .ref 169)] [] (zH c0 (zTs σ q nm ln cp nu)) = some r) : ∃ o σ', ((sFx (xE σ) (xT σ) (xPe σ) (zCd σ.2.2.2.2.1) (zFf σ.2.2.2.2.1) q = none ∧ zFl σ o σ') ∨ (∃ f q', sFx (xE σ) (xT σ) (xPe σ) (zCd σ.2.2.2.2.1) (zFf σ.2.2.2.2.1) q = some (f, q') ∧ ((q' < xPe σ ∧ zFl σ o σ') ∨ (¬ q' < xPe σ ∧ ((¬ zPlc (xPl σ) ∧ zFl σ o σ') ∨ (zPlc (xPl σ) ∧ ((xAw σ = -1 ∧ ∃ q nm ln cp nu, zN (zPut (zTs σ q nm ln cp nu) (zWd i f (σ.1 11 16) a)) o σ') ∨ (¬ xAw σ = -1 ∧ ((¬ xWc σ < 60 ∧ zFl σ o σ') ∨ ((xWc σ < 60 ∧ 0 ≤ (xWc σ).toInt) ∧ ∃ q nm ln cp nu, zN (zAdd (zPut (zTs σ q nm ln cp nu) (zWd i f (σ.1 11 16) a)) (xAw σ) (xPl σ) (σ.1 11 11)) o σ')))))))))) ∧ r = zOut c0 o σ' := by
  replace hx := zTr (C := nC89) (tb := [(129, sp129), (127, sp127), (128, sp128)]) h0 rfl rfl ⟨z129 h0, z127 h0, z128 h0, trivial⟩ (fun pc => pc.beq 87) 60 hx
  have f0 : zFr σ (zTs σ q nm ln cp nu) := zFr_T (zFr_refl _)
  obtain ⟨-, _, _, ⟨h1, rfl, rfl⟩ | ⟨h1, rfl, rfl⟩, hx⟩ := hx
  · rcases hx with ⟨-, m', hm, hx⟩ | ⟨h, -⟩
    · obtain ⟨o, σ', g1, g2⟩ := z89_p h0 hx
      refine ⟨o, σ', Or.inr ⟨zFf σ.2.2.2.2.1, q, ?_, g1⟩, g2⟩
      unfold sFx
      rw [if_neg (fun h => h.1 h1)]
    · exact absurd (cNeF h) (by decide)
  · rcases hx with ⟨h, -⟩ | ⟨-, hx⟩
    · exact absurd rfl (cNeT h)
    · obtain ⟨_, _, ⟨h2, rfl, rfl⟩ | ⟨h2, rfl, rfl⟩, hx⟩ := hx
      · rcases hx with ⟨-, m', hm, hx⟩ | ⟨h, -⟩
        · obtain ⟨o, σ', g1, g2⟩ := z89_p h0 hx
          refine ⟨o, σ', Or.inr ⟨zFf σ.2.2.2.2.1, q, ?_, g1⟩, g2⟩
          unfold sFx
          rw [if_neg (fun h => h2 h.2)]
        · exact absurd rfl (cEqF h)
      · rcases hx with ⟨h, -⟩ | ⟨-, hx⟩
        · exact absurd (cEqT h) (by decide)
        · have eF : sFx (xE σ) (xT σ) (xPe σ) (zCd σ.2.2.2.2.1) (zFf σ.2.2.2.2.1) q = (match sUp (xE σ (q + 1)) 63 with
            | none => none
            | some y => if y.2 < xPe σ ∧ xT σ y.2.toNatClampNeg = 41 then some (y.1, y.2 + 1) else none) := by
            unfold sFx
            exact if_pos ⟨h1, h2⟩
          rw [eF]
          obtain ⟨_, _, ⟨hb, rfl, q', nm', ln', cp', nu', rfl⟩ | ⟨y, q', hb, rfl, nm', ln', cp', nu', rfl⟩, hx⟩ := hx
          · rw [show sUp (xE σ (q + 1)) 63 = none from hb]
            exact ⟨_, _, Or.inl ⟨rfl, rfl, zFr_X (zFr_T (zFr_I f0 rfl))⟩, hx⟩
          · rw [show sUp (xE σ (q + 1)) 63 = some (y, q') from hb]
            dsimp only
            obtain ⟨_, _, ⟨h3, rfl, rfl⟩ | ⟨h3, rfl, rfl⟩, hx⟩ := hx
            · rcases hx with ⟨h, -⟩ | ⟨-, hx⟩
              · exact absurd rfl (cNeT h)
              · rw [if_neg (show ¬ (q' < xPe σ ∧ xT σ q'.toNatClampNeg = 41) from h3)]
                exact ⟨_, _, Or.inl ⟨rfl, rfl, zFr_X (zFr_T (zFr_I f0 rfl))⟩, hx⟩
            · rcases hx with ⟨-, m', hm, hx⟩ | ⟨h, -⟩
              · rw [if_pos (show q' < xPe σ ∧ xT σ q'.toNatClampNeg = 41 from h3)]
                have hx : zF v5 d n 89 m' 87 [(3, .int y), (2, .int i), (1, .int a), (0, .ref 169)] [] (zH c0 (zI (zTs (zI (zTs σ q nm ln cp nu) 9 2 (q + 1)) q' nm' ln' cp' nu') 9 2 (q' + 1))) = some r := hx
                rw [zTs_2 (zTs σ q nm ln cp nu), zTs_zTs, zTs_zTs, zTs_2 (zTs σ q' nm' ln' cp' nu'), zTs_zTs] at hx
                obtain ⟨o, σ', g1, g2⟩ := z89_p h0 hx
                exact ⟨o, σ', Or.inr ⟨y, q' + 1, rfl, g1⟩, g2⟩
              · exact absurd (cNeF h) (by decide)
theorem z89 (h0 : zC0 c0) : zSp c0 v5 89 sp89 := by
  intro d n as σ cs r hs hx
  unfold sp89 at hs
  split at hs
  · cases hs
    obtain ⟨d', hx⟩ := zGo hx
    replace hx := zTr (C := nC89) (tb := [(126, sp126), (127, sp127), (128, sp128)]) h0 rfl rfl ⟨z126 h0, z127 h0, z128 h0, trivial⟩ (fun pc => pc.beq 28) 60 hx
    obtain ⟨o1, σ1, ha, hx⟩ := hx
    obtain ⟨ho, hf⟩ := zAp_out ha
    rcases ho with rfl | ⟨a, rfl⟩
    · exact ⟨_, _, ⟨_, _, ha, Or.inl ⟨rfl, rfl, rfl⟩⟩, hx⟩
    · suffices hs : ∃ o σ', zInP σ1 a o σ' ∧ r = zOut c0 o σ' by
        obtain ⟨o, σ', g1, g2⟩ := hs
        exact ⟨o, σ', ⟨_, _, ha, Or.inr ⟨a, rfl, g1⟩⟩, g2⟩
      have self : zTs σ1 (xAt σ1) (σ1.2.1 9 6) (σ1.1 9 7) (σ1.1 9 8) (σ1.1 9 9) = σ1 := by rw [← zTs_2, zI_self]
      have fin : ∀ (m' : Nat) (i q : Int32) (nm : Int64) (ln cp nu : Int32), sIx (xE σ1) (xT σ1) (xPe σ1) (xAt σ1) = some (i, q) → zF v5 d' n 89 m' 28 [(2, .int i), (1, .int a), (0, .ref 169)] [] (zH c0 (zTs σ1 q nm ln cp nu)) = some r → ∃ o σ', zInP σ1 a o σ' ∧ r = zOut c0 o σ' := by
        intro m' i q nm ln cp nu hi hx
        obtain ⟨o, σ', g1, g2⟩ := z89_f h0 hx
        refine ⟨o, σ', ?_, g2⟩
        unfold zInP xIF sIF
        rw [hi]
        dsimp only
        rcases g1 with ⟨g1, g3⟩ | ⟨f, q', g1, g3⟩
        · rw [g1]
          exact Or.inl ⟨rfl, g3⟩
        · rw [g1]
          dsimp only
          rcases g3 with ⟨g3, g4⟩ | ⟨g3, g4⟩
          · rw [if_pos g3]
            exact Or.inl ⟨rfl, g4⟩
          · rw [if_neg g3]
            exact Or.inr ⟨i, f, rfl, g4⟩
      obtain ⟨_, _, ⟨h2, rfl, rfl⟩ | ⟨h2, rfl, rfl⟩, hx⟩ := hx
      · rcases hx with ⟨-, m', hm, hx⟩ | ⟨h, -⟩
        · refine fin m' 0 (xAt σ1) (σ1.2.1 9 6) (σ1.1 9 7) (σ1.1 9 8) (σ1.1 9 9) ?_ ?_
          · unfold sIx
            exact if_neg h2
          · rw [self]
            exact hx
        · exact absurd rfl (cEqF h)
      · rcases hx with ⟨h, -⟩ | ⟨-, hx⟩
        · exact absurd (cEqT h) (by decide)
        · have eI : sIx (xE σ1) (xT σ1) (xPe σ1) (xAt σ1) = sUp (xE σ1 (xAt σ1 + 1)) 6 := by
            unfold sIx
            exact if_pos h2
          obtain ⟨_, _, ⟨hb, rfl, q', nm', ln', cp', nu', rfl⟩ | ⟨y, q', hb, rfl, nm', ln', cp', nu', rfl⟩, hx⟩ := hx
          · refine ⟨_, _, Or.inl ⟨?_, rfl, zFr_X (zFr_T (zFr_I (zFr_refl _) rfl))⟩, hx⟩
            unfold xIF sIF
            rw [eI, show sUp (xE σ1 (xAt σ1 + 1)) 6 = none from hb]
          · obtain ⟨m', hm, hx⟩ := hx
            have hx : zF v5 d' n 89 m' 28 [(2, .int y), (1, .int a), (0, .ref 169)] [] (zH c0 (zTs (zI σ1 9 2 (xAt σ1 + 1)) q' nm' ln' cp' nu')) = some r := hx
            rw [zTs_2 σ1, zTs_zTs] at hx
            exact fin m' y q' nm' ln' cp' nu' (eI.trans hb) hx
  · cases hs
end IN
