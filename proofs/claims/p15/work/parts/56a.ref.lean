/-! THE REFERENCE: its small methods -/
abbrev yT (τ : zS) : Nat → Int32 := τ.2.2.1 32
abbrev yP (τ : zS) : Int32 := τ.1 25 21
abbrev yE (τ : zS) : Int32 := τ.1 25 22
abbrev yB (τ : zS) : Int32 := τ.1 25 23
abbrev yPl (τ : zS) : Int32 := τ.1 25 24
abbrev yCn (τ : zS) : Int32 := τ.1 25 29
/-- the reference's place in the text, and whether it is wrong -/
abbrev zPb2 (τ : zS) (p b : Int32) : zS := zI (zI τ 25 21 p) 25 23 b
abbrev sp36 (as : List Value) (σ : zS) : Option zCs := match as with
  | [.int v, .int lo, .int hi] => some (fun o σ' => ((¬ v < lo ∧ ¬ hi < v) ∧ zR σ 1 o σ') ∨ (¬ (¬ v < lo ∧ ¬ hi < v) ∧ zR σ 0 o σ'))
  | _ => none
abbrev sp139 (as : List Value) (σ : zS) : Option zCs := match as with
  | [.int c] => some (fun o σ' => (zDig c ∧ zR σ 1 o σ') ∨ (¬ zDig c ∧ zR σ 0 o σ'))
  | _ => none
abbrev sp96 (as : List Value) (σ : zS) : Option zCs := match as with
  | [.int c] => some (fun o σ' => (zPb c = true ∧ zR σ 1 o σ') ∨ (zPb c = false ∧ zR σ 0 o σ'))
  | _ => none
abbrev yHr (τ : zS) : Int32 := if yP τ < yE τ then yT τ (yP τ).toNatClampNeg else -1
abbrev sp148 (as : List Value) (σ : zS) : Option zCs := match as with
  | [.ref 183] => some (zR σ (yHr σ))
  | _ => none
abbrev sp66 (as : List Value) (σ : zS) : Option zCs := match as with
  | [.ref 183, .int p] => some (zR σ (zRun (yT σ) (yE σ) p))
  | _ => none
abbrev sp64 (as : List Value) (σ : zS) : Option zCs := match as with
  | [.ref 183, .int p, .int e] => some (zR σ (zSkip (yT σ) e p))
  | _ => none
abbrev sp65 (as : List Value) (σ : zS) : Option zCs := match as with
  | [.ref 183, .int p, .int e] => some (zR σ (zStop (yT σ) e p))
  | _ => none
abbrev zLoc (T : Nat → Int32) (p q l : Int32) : Prop := q - p = 2 ∧ zDig (T p.toNatClampNeg) ∧ T (p + 1).toNatClampNeg = l
abbrev sp97 (as : List Value) (σ : zS) : Option zCs := match as with
  | [.ref 183, .int p, .int q, .int l] => some (fun o σ' => (zLoc (yT σ) p q l ∧ zR σ 1 o σ') ∨ (¬ zLoc (yT σ) p q l ∧ zR σ 0 o σ'))
  | _ => none
abbrev sp40 (as : List Value) (σ : zS) : Option zCs := match as with
  | [.ref 183] => some (zN (zI σ 25 23 1))
  | _ => none
abbrev sp46 (as : List Value) (σ : zS) : Option zCs := match as with
  | [.ref 183, .int x] => some (fun o σ' => ((¬ x < 0 ∧ ¬ 199 < x) ∧ zR σ 1 o σ') ∨ (¬ (¬ x < 0 ∧ ¬ 199 < x) ∧ zR σ 0 o σ'))
  | _ => none
abbrev sp70 (as : List Value) (σ : zS) : Option zCs := match as with
  | [.int w] => some (zR σ (zMag w))
  | _ => none
abbrev sp73 (as : List Value) (σ : zS) : Option zCs := match as with
  | [.int w] => some (fun o σ' => (w &&& 1 = 1 ∧ zR σ 1 o σ') ∨ (¬ w &&& 1 = 1 ∧ zR σ 0 o σ'))
  | _ => none
abbrev sp74 (as : List Value) (σ : zS) : Option zCs := match as with
  | [.int w] => some (zR σ (zVal w))
  | _ => none
abbrev sp195 (as : List Value) (σ : zS) : Option zCs := match as with
  | [.int c] => some (fun o σ' => (zOpr c ∧ zR σ 1 o σ') ∨ (¬ zOpr c ∧ zR σ 0 o σ'))
  | _ => none
abbrev sp196 (as : List Value) (σ : zS) : Option zCs := match as with
  | [.ref 183, .long v] => some (fun o σ' => (yB σ = 0 ∧ -1073741824 < v.toInt ∧ v.toInt < 1073741824 ∧ zR σ v.toInt32 o σ') ∨ (¬ (yB σ = 0 ∧ -1073741824 < v.toInt ∧ v.toInt < 1073741824) ∧ ∃ b, ¬ b = 0 ∧ zR (zI σ 25 23 b) 0 o σ'))
  | _ => none
section RF
variable {c0 : mH} {v5 : Value}
theorem z36 (h0 : zC0 c0) : zSp c0 v5 36 sp36 := by
  intro d n as σ cs r hs hx
  unfold sp36 at hs
  split at hs
  · cases hs
    obtain ⟨d', hx⟩ := zGo hx
    replace hx := zTr (C := nC36) (tb := []) h0 rfl rfl trivial (fun _ => false) 40 hx
    rcases hx with ⟨h1, hx⟩ | ⟨h1, ⟨h2, hx⟩ | ⟨h2, hx⟩⟩
    · exact ⟨_, _, Or.inr ⟨fun h => h.1 (cLtT h1), rfl, rfl⟩, hx⟩
    · exact ⟨_, _, Or.inr ⟨fun h => h.2 (cGtT h2), rfl, rfl⟩, hx⟩
    · exact ⟨_, _, Or.inl ⟨⟨cLtF h1, cGtF h2⟩, rfl, rfl⟩, hx⟩
  · cases hs
theorem z139 (h0 : zC0 c0) : zSp c0 v5 139 sp139 := by
  intro d n as σ cs r hs hx
  unfold sp139 at hs
  split at hs
  · cases hs
    obtain ⟨d', hx⟩ := zGo hx
    obtain ⟨_, _, ⟨h1, rfl, rfl⟩ | ⟨h1, rfl, rfl⟩, hx⟩ := zTr (C := nC139) (tb := [(36, sp36)]) h0 rfl rfl ⟨z36 h0, trivial⟩ (fun _ => false) 40 hx
    · exact ⟨_, _, Or.inl ⟨h1, rfl, rfl⟩, hx⟩
    · exact ⟨_, _, Or.inr ⟨h1, rfl, rfl⟩, hx⟩
  · cases hs
theorem z96 (h0 : zC0 c0) : zSp c0 v5 96 sp96 := by
  intro d n as σ cs r hs hx
  unfold sp96 at hs
  split at hs
  · cases hs
    obtain ⟨d', hx⟩ := zGo hx
    obtain ⟨_, _, ⟨h1, rfl, rfl⟩ | ⟨h1, rfl, rfl⟩, hx⟩ := zTr (C := nC96) (tb := [(139, sp139), (36, sp36)]) h0 rfl rfl ⟨z139 h0, z36 h0, trivial⟩ (fun _ => false) 40 hx
    · rcases hx with ⟨-, hx⟩ | ⟨h, -⟩
      · exact ⟨_, _, Or.inl ⟨decide_eq_true (Or.inr h1), rfl, rfl⟩, hx⟩
      · exact absurd (cNeF h) (by decide)
    · rcases hx with ⟨h, -⟩ | ⟨-, _, _, ⟨h2, rfl, rfl⟩ | ⟨h2, rfl, rfl⟩, hx⟩
      · exact absurd rfl (cNeT h)
      · rcases hx with ⟨h, -⟩ | ⟨-, hx⟩
        · exact absurd (cEqT h) (by decide)
        · exact ⟨_, _, Or.inl ⟨decide_eq_true (Or.inl h2), rfl, rfl⟩, hx⟩
      · rcases hx with ⟨-, hx⟩ | ⟨h, -⟩
        · exact ⟨_, _, Or.inr ⟨decide_eq_false (fun h => h.elim h2 h1), rfl, rfl⟩, hx⟩
        · exact absurd rfl (cEqF h)
  · cases hs
theorem z148 (h0 : zC0 c0) : zSp c0 v5 148 sp148 := by
  intro d n as σ cs r hs hx
  unfold sp148 at hs
  split at hs
  · cases hs
    obtain ⟨d', hx⟩ := zGo hx
    refine ⟨_, _, ⟨rfl, rfl⟩, ?_⟩
    rcases zTr (C := nC148) (tb := []) h0 rfl rfl trivial (fun _ => false) 40 hx with ⟨h1, hx⟩ | ⟨h1, -, hx⟩
    · unfold yHr
      rw [if_neg (show ¬ yP σ < yE σ from cGeT h1)]
      exact hx
    · unfold yHr
      rw [if_pos (show yP σ < yE σ from cGeF h1)]
      exact hx
  · cases hs
theorem z66_l (h0 : zC0 c0) {d n : Nat} {r : mO × mH} {σ : zS} {p : Int32} : ∀ (m : Nat) (i : Int32), zF v5 d n 66 m 2 [(2, .int i), (0, .ref 183), (1, .int p)] [] (zH c0 σ) = some r → r = zOut c0 (.inl (some (.int (zRun (yT σ) (yE σ) i)))) σ := by
  intro m
  induction m using Nat.strongRecOn with
  | ind m ih =>
    intro i hx
    unfold zRun
    replace hx := zTr (C := nC66) (tb := [(96, sp96)]) h0 rfl rfl ⟨z96 h0, trivial⟩ (fun pc => pc.beq 2) 40 hx
    rcases hx with ⟨h1, hx⟩ | ⟨h1, h2, _, _, ⟨h3, rfl, rfl⟩ | ⟨h3, rfl, rfl⟩, hx⟩
    · rw [zSc_stop (fun h => cGeT h1 h.1)]
      exact hx
    · rcases hx with ⟨h, -⟩ | ⟨-, m', hm, hx⟩
      · exact absurd (cEqT h) (by decide)
      · rw [zSc_go (cGeF h1) h3]
        exact ih m' (by omega) _ hx
    · rcases hx with ⟨-, hx⟩ | ⟨h, -⟩
      · have h3 : zPb (yT σ i.toNatClampNeg) = false := h3
        rw [zSc_stop (p := fun k => zPb (yT σ k.toNatClampNeg)) (e := yE σ) (a := i) (fun h => Bool.noConfusion (h3.symm.trans h.2))]
        exact hx
      · exact absurd rfl (cEqF h)
theorem z66 (h0 : zC0 c0) : zSp c0 v5 66 sp66 := by
  intro d n as σ cs r hs hx
  unfold sp66 at hs
  split at hs
  · cases hs
    obtain ⟨d', hx⟩ := zGo hx
    obtain ⟨m', hm, hx⟩ := zTr (C := nC66) (tb := []) h0 rfl rfl trivial (fun pc => pc.beq 2) 40 hx
    exact ⟨_, _, ⟨rfl, rfl⟩, z66_l h0 m' _ hx⟩
  · cases hs
theorem z40 (h0 : zC0 c0) : zSp c0 v5 40 sp40 := by
  intro d n as σ cs r hs hx
  unfold sp40 at hs
  split at hs
  · cases hs
    obtain ⟨d', hx⟩ := zGo hx
    obtain ⟨-, hx⟩ := zTr (C := nC40) (tb := []) h0 rfl rfl trivial (fun _ => false) 40 hx
    exact ⟨_, _, ⟨rfl, rfl⟩, hx⟩
  · cases hs
theorem z46 (h0 : zC0 c0) : zSp c0 v5 46 sp46 := by
  intro d n as σ cs r hs hx
  unfold sp46 at hs
  split at hs
  · cases hs
    obtain ⟨d', hx⟩ := zGo hx
    obtain ⟨_, _, ⟨h1, rfl, rfl⟩ | ⟨h1, rfl, rfl⟩, hx⟩ := zTr (C := nC46) (tb := [(36, sp36)]) h0 rfl rfl ⟨z36 h0, trivial⟩ (fun _ => false) 40 hx
    · exact ⟨_, _, Or.inl ⟨h1, rfl, rfl⟩, hx⟩
    · exact ⟨_, _, Or.inr ⟨h1, rfl, rfl⟩, hx⟩
  · cases hs
theorem z70 (h0 : zC0 c0) : zSp c0 v5 70 sp70 := by
  intro d n as σ cs r hs hx
  unfold sp70 at hs
  split at hs
  · cases hs
    obtain ⟨d', hx⟩ := zGo hx
    exact ⟨_, _, ⟨rfl, rfl⟩, zTr (C := nC70) (tb := []) h0 rfl rfl trivial (fun _ => false) 40 hx⟩
  · cases hs
theorem z73 (h0 : zC0 c0) : zSp c0 v5 73 sp73 := by
  intro d n as σ cs r hs hx
  unfold sp73 at hs
  split at hs
  · cases hs
    obtain ⟨d', hx⟩ := zGo hx
    rcases zTr (C := nC73) (tb := []) h0 rfl rfl trivial (fun _ => false) 40 hx with ⟨h1, hx⟩ | ⟨h1, hx⟩
    · exact ⟨_, _, Or.inr ⟨cNeT h1, rfl, rfl⟩, hx⟩
    · exact ⟨_, _, Or.inl ⟨cNeF h1, rfl, rfl⟩, hx⟩
  · cases hs
theorem z74 (h0 : zC0 c0) : zSp c0 v5 74 sp74 := by
  intro d n as σ cs r hs hx
  unfold sp74 at hs
  split at hs
  · rename_i w
    cases hs
    obtain ⟨d', hx⟩ := zGo hx
    refine ⟨_, _, ⟨rfl, rfl⟩, ?_⟩
    unfold zVal
    obtain ⟨_, _, ⟨h1, rfl, rfl⟩ | ⟨h1, rfl, rfl⟩, hx⟩ := zTr (C := nC74) (tb := [(73, sp73), (70, sp70)]) h0 rfl rfl ⟨z73 h0, z70 h0, trivial⟩ (fun _ => false) 40 hx
    · rw [if_pos h1]
      rcases hx with ⟨h, -⟩ | ⟨-, _, _, ⟨rfl, rfl⟩, hx⟩
      · exact absurd (cEqT h) (by decide)
      · exact hx
    · rw [if_neg h1]
      rcases hx with ⟨-, _, _, ⟨rfl, rfl⟩, hx⟩ | ⟨h, -⟩
      · exact hx
      · exact absurd rfl (cEqF h)
  · cases hs
theorem z195 (h0 : zC0 c0) : zSp c0 v5 195 sp195 := by
  intro d n as σ cs r hs hx
  unfold sp195 at hs
  split at hs
  · cases hs
    obtain ⟨d', hx⟩ := zGo hx
    rcases zTr (C := nC195) (tb := []) h0 rfl rfl trivial (fun _ => false) 40 hx with ⟨h3, hx⟩ | ⟨h3, ⟨h4, hx⟩ | ⟨h4, ⟨h5, hx⟩ | ⟨h5, ⟨h6, hx⟩ | ⟨h6, ⟨h7, hx⟩ | ⟨h7, hx⟩⟩⟩⟩⟩
    · exact ⟨_, _, Or.inl ⟨Or.inl (cEqT h3), rfl, rfl⟩, hx⟩
    · exact ⟨_, _, Or.inl ⟨Or.inr (Or.inl (cEqT h4)), rfl, rfl⟩, hx⟩
    · exact ⟨_, _, Or.inl ⟨Or.inr (Or.inr (Or.inl (cEqT h5))), rfl, rfl⟩, hx⟩
    · exact ⟨_, _, Or.inl ⟨Or.inr (Or.inr (Or.inr (Or.inl (cEqT h6)))), rfl, rfl⟩, hx⟩
    · refine ⟨_, _, Or.inr ⟨fun h => ?_, rfl, rfl⟩, hx⟩
      rcases h with h | h | h | h | h
      · exact cEqF h3 h
      · exact cEqF h4 h
      · exact cEqF h5 h
      · exact cEqF h6 h
      · exact cNeT h7 h
    · exact ⟨_, _, Or.inl ⟨Or.inr (Or.inr (Or.inr (Or.inr (cNeF h7)))), rfl, rfl⟩, hx⟩
  · cases hs
theorem z97 (h0 : zC0 c0) : zSp c0 v5 97 sp97 := by
  intro d n as σ cs r hs hx
  unfold sp97 at hs
  split at hs
  · cases hs
    obtain ⟨d', hx⟩ := zGo hx
    rcases zTr (C := nC97) (tb := [(139, sp139)]) h0 rfl rfl ⟨z139 h0, trivial⟩ (fun _ => false) 40 hx with ⟨h1, hx⟩ | ⟨h1, -, _, _, ⟨h2, rfl, rfl⟩ | ⟨h2, rfl, rfl⟩, hx⟩
    · exact ⟨_, _, Or.inr ⟨fun h => cNeT h1 h.1, rfl, rfl⟩, hx⟩
    · rcases hx with ⟨h, -⟩ | ⟨-, -, ⟨h3, hx⟩ | ⟨h3, hx⟩⟩
      · exact absurd (cEqT h) (by decide)
      · exact ⟨_, _, Or.inr ⟨fun h => cNeT h3 h.2.2, rfl, rfl⟩, hx⟩
      · exact ⟨_, _, Or.inl ⟨⟨cNeF h1, h2, cNeF h3⟩, rfl, rfl⟩, hx⟩
    · rcases hx with ⟨-, hx⟩ | ⟨h, -⟩
      · exact ⟨_, _, Or.inr ⟨fun h => h2 h.2.1, rfl, rfl⟩, hx⟩
      · exact absurd rfl (cEqF h)
  · cases hs
theorem z196 (h0 : zC0 c0) : zSp c0 v5 196 sp196 := by
  intro d n as σ cs r hs hx
  unfold sp196 at hs
  split at hs
  · rename_i v
    cases hs
    obtain ⟨d', hx⟩ := zGo hx
    have bad : ∀ (m' : Nat), ¬ (yB σ = 0 ∧ -1073741824 < v.toInt ∧ v.toInt < 1073741824) → zF v5 d' n 196 m' 16 [(0, .ref 183), (1, .long v)] [] (zH c0 σ) = some r → ∃ o σ', ((yB σ = 0 ∧ -1073741824 < v.toInt ∧ v.toInt < 1073741824 ∧ zR σ v.toInt32 o σ') ∨ (¬ (yB σ = 0 ∧ -1073741824 < v.toInt ∧ v.toInt < 1073741824) ∧ ∃ b, ¬ b = 0 ∧ zR (zI σ 25 23 b) 0 o σ')) ∧ r = zOut c0 o σ' := by
      intro m' hn hx
      obtain ⟨_, _, ⟨rfl, rfl⟩, ⟨h, -⟩ | ⟨-, hx⟩⟩ := zTr (C := nC196) (tb := [(40, sp40)]) h0 rfl rfl ⟨z40 h0, trivial⟩ (fun _ => false) 40 hx
      · exact absurd (show (1 : Int32) = 0 from cEqT h) (by decide)
      · exact ⟨_, _, Or.inr ⟨hn, 1, by decide, rfl, rfl⟩, hx⟩
    rcases zTr (C := nC196) (tb := []) h0 rfl rfl trivial (fun pc => pc.beq 16) 40 hx with ⟨h1, m', hm, hx⟩ | ⟨h1, ⟨h2, hx⟩ | ⟨h2, m', hm, hx⟩⟩
    · exact bad m' (fun h => lGeT h1 h.2.2) hx
    · rcases hx with ⟨h3, hx⟩ | ⟨h3, hx⟩
      · exact ⟨_, _, Or.inl ⟨cEqT h3, Int.not_le.mp (lGtT h2), lGeF h1, rfl, rfl⟩, hx⟩
      · refine ⟨_, _, Or.inr ⟨fun h => cEqF h3 h.1, yB σ, cEqF h3, rfl, zI_self 25 23⟩, hx⟩
    · exact bad m' (fun h => absurd (lGtF h2) (Int.not_le.mpr h.2.1)) hx
  · cases hs
end RF
