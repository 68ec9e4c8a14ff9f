/-! THE REFERENCE: finish() -/
/-- a symbol gets the place -/
abbrev yPs1 (τ : zS) (i : Nat) (x : (Nat → Int32) × (Nat → Int32)) : zS := zI (yStd (zOI (yDef τ (Int32.ofNat i) (yOf (yPl τ))) x.2 x.1 0) (yPl τ) 0) 25 24 (yPl τ + 1)
def yPsF : Nat → Nat → zS → Option zS
  | 0, _, τ => some τ
  | k + 1, i, τ => if τ.2.2.1 36 i = 0 then (match ySet (yDef τ (Int32.ofNat i) (yOf (yPl τ))) 0 (Int32.ofNat i) (yOf (yPl τ)) (yWt τ) with
    | none => none
    | some x => if yPlc (yPl τ) then yPsF k (i + 1) (yPs1 τ i x) else none) else yPsF k (i + 1) τ
section RF
variable {c0 : mH} {v5 : Value}
theorem z153_s (h0 : zC0 c0) {d n : Nat} {r : mO × mH} : ∀ (m i : Nat) (τ : zS), i ≤ 30 → zF v5 d n 153 m 2 [(1, .int (Int32.ofNat i)), (0, .ref 183)] [] (zH c0 τ) = some r → ∃ m' k τ', zF v5 d n 153 m' 63 [(1, .int k), (0, .ref 183)] [] (zH c0 τ') = some r ∧ yFr τ τ' ∧ (¬ yB τ = 0 → ¬ yB τ' = 0) ∧ (yB τ = 0 → (yB τ' = 0 ∧ yPsF ((yCn τ).toInt - i).toNat i τ = some τ') ∨ (¬ yB τ' = 0 ∧ yPsF ((yCn τ).toInt - i).toNat i τ = none)) := by
  intro m
  induction m using Nat.strongRecOn with
  | ind m ih =>
    intro i τ hi hx
    have hI : (Int32.ofNat i).toInt = i := zOfI (by omega)
    have hn : (Int32.ofNat i).toNatClampNeg = i := by
      have e : (Int32.ofNat i).toNatClampNeg = (Int32.ofNat i).toInt.toNat := rfl
      rw [e, hI]
      omega
    replace hx := zTr (C := nC153) (tb := [(101, sp101), (102, sp102), (151, sp151)]) h0 rfl rfl ⟨z101 h0, z102 h0, z151 h0, trivial⟩ (fun pc => pc.beq 2 || pc.beq 63) 80 hx
    rcases hx with ⟨h1, m1, hm1, hx⟩ | ⟨h1, ⟨h2, m1, hm1, hx⟩ | ⟨h2, h3, hx⟩⟩
    · have h1 : ¬ (i : Int) < (yCn τ).toInt := fun h' => cGeT h1 (Int32.lt_iff_toInt_lt.mpr (by rw [hI]; exact h'))
      refine ⟨m1, _, τ, hx, yFr_refl _, fun h => h, fun h => Or.inl ⟨h, ?_⟩⟩
      rw [show ((yCn τ).toInt - i).toNat = 0 by omega]
      rfl
    · have h2 : ¬ yB τ = 0 := cNeT h2
      exact ⟨m1, _, τ, hx, yFr_refl _, fun h => h, fun h => absurd h h2⟩
    · have h1 : (i : Int) < (yCn τ).toInt := by
        have := Int32.lt_iff_toInt_lt.mp (cGeF h1)
        rw [hI] at this
        exact this
      have h2 : yB τ = 0 := cNeF h2
      have h3 := zIn h3
      rw [hI] at h3
      rw [show ((yCn τ).toInt - i).toNat = ((yCn τ).toInt - (i + 1 : Nat)).toNat + 1 by omega]
      unfold yPsF
      rcases hx with ⟨h4, m1, hm1, hx⟩ | ⟨h4, hx⟩
      · have h4 : ¬ τ.2.2.1 36 (Int32.ofNat i).toNatClampNeg = 0 := cNeT h4
        rw [hn] at h4
        rw [if_neg h4]
        have hx : zF v5 d n 153 m1 2 [(1, .int (Int32.ofNat i + 1)), (0, .ref 183)] [] (zH c0 τ) = some r := hx
        rw [← zOfS] at hx
        exact ih m1 (by omega) (i + 1) τ (by omega) hx
      · have h4 : τ.2.2.1 36 (Int32.ofNat i).toNatClampNeg = 0 := cNeF h4
        rw [hn] at h4
        rw [if_pos h4]
        obtain ⟨_, _, ⟨rfl, rfl⟩, _, _, ⟨-, rfl, I, O, b, rfl, g2, g3⟩, hx⟩ := hx
        have g3 := g3 h2
        have nx : ∀ (m2 : Nat) (τ1 : zS), m2 < m → yFr τ τ1 → zF v5 d n 153 m2 2 [(1, .int (Int32.ofNat i + 1)), (0, .ref 183)] [] (zH c0 τ1) = some r → ∃ m' k τ', zF v5 d n 153 m' 63 [(1, .int k), (0, .ref 183)] [] (zH c0 τ') = some r ∧ yFr τ τ' ∧ (¬ yB τ1 = 0 → ¬ yB τ' = 0) ∧ (yB τ1 = 0 → (yB τ' = 0 ∧ yPsF ((yCn τ1).toInt - (i + 1 : Nat)).toNat (i + 1) τ1 = some τ') ∨ (¬ yB τ' = 0 ∧ yPsF ((yCn τ1).toInt - (i + 1 : Nat)).toNat (i + 1) τ1 = none)) := by
          intro m2 τ1 hm hf hx
          rw [← zOfS] at hx
          obtain ⟨m', k, τ', k1, k2, k3, k4⟩ := ih m2 hm (i + 1) τ1 (by omega) hx
          exact ⟨m', k, τ', k1, yFr_trans hf k2, k3, k4⟩
        obtain ⟨_, _, ⟨l1, rfl, rfl⟩ | ⟨l1, rfl, rfl⟩, m1, hm1, hx⟩ := hx
        · have l1 : ¬ yPlc (yPl τ) := l1
          obtain ⟨m', k, τ', k1, k2, k3, -⟩ := nx m1 _ (by omega) (yFr_I (yFr_I (yFr_O (yFr_D (yFr_refl _))) rfl) rfl) hx
          refine ⟨m', k, τ', k1, k2, fun h => absurd h2 h, fun _ => Or.inr ⟨k3 (by show ¬ (1 : Int32) = 0; decide), ?_⟩⟩
          split
          · rfl
          · rw [if_neg l1]
        · have l2 : yPlc (yPl τ) := l1
          obtain ⟨m', k, τ', k1, k2, k3, k4⟩ := nx m1 _ (by omega) (yFr_I (yFr_S (yFr_O (yFr_D (yFr_refl _)))) rfl) hx
          refine ⟨m', k, τ', k1, k2, fun h => absurd h2 h, fun _ => ?_⟩
          rcases g3 with ⟨e, k⟩ | ⟨e, k⟩
          · subst e
            rw [k]
            dsimp only
            rw [if_pos l2]
            exact k4 rfl
          · rw [k]
            exact Or.inr ⟨k3 e, rfl⟩
end RF
