/-! TEXT: its small methods -/
abbrev xT (σ : zS) : Nat → Int32 := σ.2.2.1 10
abbrev xAt (σ : zS) : Int32 := σ.1 9 2
abbrev xPe (σ : zS) : Int32 := σ.1 9 5
abbrev xLe (σ : zS) : Int32 := σ.1 9 4
/-- the next character is c -/
abbrev xH (σ : zS) (c : Int32) : Prop := xAt σ < xPe σ ∧ xT σ (xAt σ).toNatClampNeg = c
abbrev zN (σ : zS) : zCs := fun o σ' => o = .inl none ∧ σ = σ'
abbrev zR (σ : zS) (x : Int32) : zCs := fun o σ' => o = .inl (some (.int x)) ∧ σ = σ'
/-- an operator -/
abbrev zOpr (c : Int32) : Prop := c = 43 ∨ c = 45 ∨ c = 42 ∨ c = 47 ∨ c = 58
abbrev sp127 (as : List Value) (σ : zS) : Option zCs := match as with
  | [.ref 167, .int c] => some (fun o σ' => (¬ xH σ c ∧ zR σ 0 o σ') ∨ (xH σ c ∧ zR (zI σ 9 2 (xAt σ + 1)) 1 o σ'))
  | _ => none
abbrev sp119 (as : List Value) (σ : zS) : Option zCs := match as with
  | [.ref 167] => some (fun o σ' => (¬ xAt σ < xPe σ ∧ zR σ 1 o σ') ∨ (xAt σ < xPe σ ∧ zR σ 0 o σ'))
  | _ => none
abbrev sp186 (as : List Value) (σ : zS) : Option zCs := match as with
  | [.ref 167] => some (fun o σ' => ((xAt σ < xPe σ → xH σ 44 ∨ xH σ 40) ∧ zR σ 1 o σ') ∨ (xAt σ < xPe σ ∧ ¬ xH σ 44 ∧ ¬ xH σ 40 ∧ zR σ 0 o σ'))
  | _ => none
abbrev sp222 (as : List Value) (σ : zS) : Option zCs := match as with
  | [.ref 167] => some (fun o σ' => ((xAt σ < xPe σ → ¬ zOpr (xT σ (xAt σ).toNatClampNeg)) ∧ zR σ 32 o σ') ∨ (xAt σ < xPe σ ∧ zOpr (xT σ (xAt σ).toNatClampNeg) ∧ zR (zI σ 9 2 (xAt σ + 1)) (xT σ (xAt σ).toNatClampNeg) o σ'))
  | _ => none
abbrev sp122 (as : List Value) (σ : zS) : Option zCs := match as with
  | [.ref 167] => some (zR σ ((σ.2.1 9 6 &&& 255).toInt32 - 48))
  | _ => none
abbrev sp124 (as : List Value) (σ : zS) : Option zCs := match as with
  | [.ref 167] => some (zN (zI σ 9 2 (zSc (fun k => decide (xT σ k.toNatClampNeg = 32)) (xLe σ) (xAt σ))))
  | _ => none
abbrev sp118 (as : List Value) (σ : zS) : Option zCs := match as with
  | [.ref 167] => some (zN (zI σ 9 5 (zSc (fun k => !decide (xT σ k.toNatClampNeg = 32)) (xLe σ) (xAt σ))))
  | _ => none
abbrev zEol (σ : zS) : Int32 := zSc (fun k => !decide (xT σ k.toNatClampNeg = 10)) (σ.1 9 1) (σ.1 9 3)
abbrev sp81 (as : List Value) (σ : zS) : Option zCs := match as with
  | [.ref 167] => some (zN (zI (zI (zI σ 9 2 (σ.1 9 3)) 9 4 (zEol σ)) 9 3 (zEol σ + 1)))
  | _ => none
abbrev zNth (σ : zS) : Prop := (xAt σ < xLe σ ∧ xT σ (xAt σ).toNatClampNeg = 42) ∨ ¬ zSc (fun k => decide (xT σ k.toNatClampNeg = 32)) (xLe σ) (xAt σ) < xLe σ
abbrev sp82 (as : List Value) (σ : zS) : Option zCs := match as with
  | [.ref 167] => some (fun o σ' => (zNth σ ∧ zR σ 1 o σ') ∨ (¬ zNth σ ∧ zR σ 0 o σ'))
  | _ => none
section CN
variable {x y : Int32}
theorem cLtT (h : mCnd .lt x y = true) : x < y := of_decide_eq_true h
theorem cLtF (h : mCnd .lt x y = false) : ¬ x < y := of_decide_eq_false h
theorem cGeT (h : mCnd .ge x y = true) : ¬ x < y := Int32.not_lt.mpr (of_decide_eq_true h)
theorem cGeF (h : mCnd .ge x y = false) : x < y := Int32.not_le.mp (of_decide_eq_false h)
theorem cGtT (h : mCnd .gt x y = true) : y < x := of_decide_eq_true h
theorem cGtF (h : mCnd .gt x y = false) : ¬ y < x := of_decide_eq_false h
theorem cLeT (h : mCnd .le x y = true) : ¬ y < x := Int32.not_lt.mpr (of_decide_eq_true h)
theorem cLeF (h : mCnd .le x y = false) : y < x := Int32.not_le.mp (of_decide_eq_false h)
theorem cEqT (h : mCnd .eq x y = true) : x = y := of_decide_eq_true h
theorem cEqF (h : mCnd .eq x y = false) : ¬ x = y := of_decide_eq_false h
theorem cNeT (h : mCnd .ne x y = true) : ¬ x = y := of_decide_eq_true h
theorem cNeF (h : mCnd .ne x y = false) : x = y := Decidable.not_not.mp (of_decide_eq_false h)
end CN
section TX
variable {c0 : mH} {v5 : Value}
theorem z127 (h0 : zC0 c0) : zSp c0 v5 127 sp127 := by
  intro d n as σ cs r hs hx
  unfold sp127 at hs
  split at hs
  · rename_i c
    cases hs
    obtain ⟨d', hx⟩ := zGo hx
    have hx := zTr (C := nC127) (tb := []) h0 rfl rfl trivial (fun _ => false) 40 hx
    rcases hx with ⟨h1, hx⟩ | ⟨h1, h2, ⟨h3, hx⟩ | ⟨h3, hx⟩⟩
    · exact ⟨_, _, Or.inl ⟨fun h => cGeT h1 h.1, rfl, rfl⟩, hx⟩
    · exact ⟨_, _, Or.inr ⟨⟨cGeF h1, cEqT h3⟩, rfl, rfl⟩, hx⟩
    · exact ⟨_, _, Or.inl ⟨fun h => cEqF h3 h.2, rfl, rfl⟩, hx⟩
  · cases hs
theorem z119 (h0 : zC0 c0) : zSp c0 v5 119 sp119 := by
  intro d n as σ cs r hs hx
  unfold sp119 at hs
  split at hs
  · cases hs
    obtain ⟨d', hx⟩ := zGo hx
    have hx := zTr (C := nC119) (tb := []) h0 rfl rfl trivial (fun _ => false) 40 hx
    rcases hx with ⟨h1, hx⟩ | ⟨h1, hx⟩
    · exact ⟨_, _, Or.inr ⟨cLtT h1, rfl, rfl⟩, hx⟩
    · exact ⟨_, _, Or.inl ⟨cLtF h1, rfl, rfl⟩, hx⟩
  · cases hs
theorem z186 (h0 : zC0 c0) : zSp c0 v5 186 sp186 := by
  intro d n as σ cs r hs hx
  unfold sp186 at hs
  split at hs
  · cases hs
    obtain ⟨d', hx⟩ := zGo hx
    have hx := zTr (C := nC186) (tb := []) h0 rfl rfl trivial (fun _ => false) 40 hx
    rcases hx with ⟨h1, hx⟩ | ⟨h1, h2, ⟨h3, hx⟩ | ⟨h3, h4, ⟨h5, hx⟩ | ⟨h5, hx⟩⟩⟩
    · exact ⟨_, _, Or.inl ⟨fun h => absurd h (cGeT h1), rfl, rfl⟩, hx⟩
    · exact ⟨_, _, Or.inl ⟨fun h => Or.inl ⟨h, cEqT h3⟩, rfl, rfl⟩, hx⟩
    · exact ⟨_, _, Or.inr ⟨cGeF h1, fun h => cEqF h3 h.2, fun h => cNeT h5 h.2, rfl, rfl⟩, hx⟩
    · exact ⟨_, _, Or.inl ⟨fun h => Or.inr ⟨h, cNeF h5⟩, rfl, rfl⟩, hx⟩
  · cases hs
theorem z222 (h0 : zC0 c0) : zSp c0 v5 222 sp222 := by
  intro d n as σ cs r hs hx
  unfold sp222 at hs
  split at hs
  · cases hs
    obtain ⟨d', hx⟩ := zGo hx
    have hx := zTr (C := nC222) (tb := []) h0 rfl rfl trivial (fun _ => false) 40 hx
    rcases hx with ⟨h1, h2, hx⟩ | ⟨h1, hx⟩
    · rcases hx with ⟨h3, hx⟩ | ⟨h3, ⟨h4, hx⟩ | ⟨h4, ⟨h5, hx⟩ | ⟨h5, ⟨h6, hx⟩ | ⟨h6, ⟨h7, hx⟩ | ⟨h7, hx⟩⟩⟩⟩⟩
      · exact ⟨_, _, Or.inr ⟨cLtT h1, Or.inl (cEqT h3), rfl, rfl⟩, hx⟩
      · exact ⟨_, _, Or.inr ⟨cLtT h1, Or.inr (Or.inl (cEqT h4)), rfl, rfl⟩, hx⟩
      · exact ⟨_, _, Or.inr ⟨cLtT h1, Or.inr (Or.inr (Or.inl (cEqT h5))), rfl, rfl⟩, hx⟩
      · exact ⟨_, _, Or.inr ⟨cLtT h1, Or.inr (Or.inr (Or.inr (Or.inl (cEqT h6)))), rfl, rfl⟩, hx⟩
      · exact ⟨_, _, Or.inr ⟨cLtT h1, Or.inr (Or.inr (Or.inr (Or.inr (cEqT h7)))), rfl, rfl⟩, hx⟩
      · refine ⟨_, _, Or.inl ⟨fun _ h => ?_, rfl, rfl⟩, hx⟩
        rcases h with h | h | h | h | h
        · exact cEqF h3 h
        · exact cEqF h4 h
        · exact cEqF h5 h
        · exact cEqF h6 h
        · exact cEqF h7 h
    · exact ⟨_, _, Or.inl ⟨fun h => absurd h (cLtF h1), rfl, rfl⟩, hx⟩
  · cases hs
theorem z122 (h0 : zC0 c0) : zSp c0 v5 122 sp122 := by
  intro d n as σ cs r hs hx
  unfold sp122 at hs
  split at hs
  · cases hs
    obtain ⟨d', hx⟩ := zGo hx
    have hx := zTr (C := nC122) (tb := []) h0 rfl rfl trivial (fun _ => false) 40 hx
    exact ⟨_, _, ⟨rfl, rfl⟩, hx⟩
  · cases hs
theorem z124_l (h0 : zC0 c0) {d n : Nat} {r : mO × mH} : ∀ (m : Nat) (σ : zS), zF v5 d n 124 m 0 [(0, .ref 167)] [] (zH c0 σ) = some r → r = zOut c0 (.inl none) (zI σ 9 2 (zSc (fun k => decide (xT σ k.toNatClampNeg = 32)) (xLe σ) (xAt σ))) := by
  intro m
  induction m using Nat.strongRecOn with
  | ind m ih =>
    intro σ hx
    have hx := zTr (C := nC124) (tb := []) h0 rfl rfl trivial (fun pc => pc.beq 0) 40 hx
    rw [zSc_step]
    rcases hx with ⟨h1, hx⟩ | ⟨h1, h2, ⟨h3, hx⟩ | ⟨h3, m', hm, hx⟩⟩
    · rw [if_neg (fun h => cGeT h1 h.1), zI_self]
      exact hx
    · rw [if_neg (fun h => cNeT h3 (of_decide_eq_true h.2)), zI_self]
      exact hx
    · rw [if_pos ⟨cGeF h1, decide_eq_true (cNeF h3)⟩]
      have := ih m' (by omega) (zI σ 9 2 (xAt σ + 1)) hx
      rw [zI_zI] at this
      exact this
theorem z124 (h0 : zC0 c0) : zSp c0 v5 124 sp124 := by
  intro d n as σ cs r hs hx
  unfold sp124 at hs
  split at hs
  · cases hs
    obtain ⟨d', hx⟩ := zGo hx
    exact ⟨_, _, ⟨rfl, rfl⟩, z124_l h0 n σ hx⟩
  · cases hs
end TX
