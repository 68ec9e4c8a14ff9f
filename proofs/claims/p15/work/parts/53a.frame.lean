/-! WHAT AN ASSEMBLING MAY CHANGE, AND ITS SMALL METHODS -/
def zOkI (k i : Nat) : Bool := (k.beq 9 && !(i.beq 1)) || (k.beq 11 || (k.beq 12 || k.beq 18))
def zOkA (k : Nat) : Bool := k.beq 14 || (k.beq 19 || (k.beq 20 || (k.beq 21 || (k.beq 22 || (k.beq 23 || k.beq 24)))))
def zFr (σ τ : zS) : Prop := (∀ k i, zOkI k i = false → τ.1 k i = σ.1 k i) ∧ (∀ k i, k.beq 9 = false → τ.2.1 k i = σ.2.1 k i) ∧ (∀ k, zOkA k = false → τ.2.2.1 k = σ.2.2.1 k) ∧ (∀ k, k.beq 13 = false → τ.2.2.2.1 k = σ.2.2.2.1 k)
section FR
variable {σ τ ρ : zS}
theorem zFr_refl (σ : zS) : zFr σ σ := ⟨fun _ _ _ => rfl, fun _ _ _ => rfl, fun _ _ => rfl, fun _ _ => rfl⟩
theorem zFr_trans (h1 : zFr σ τ) (h2 : zFr τ ρ) : zFr σ ρ := ⟨fun k i h => (h2.1 k i h).trans (h1.1 k i h), fun k i h => (h2.2.1 k i h).trans (h1.2.1 k i h), fun k h => (h2.2.2.1 k h).trans (h1.2.2.1 k h), fun k h => (h2.2.2.2 k h).trans (h1.2.2.2 k h)⟩
theorem zFr_I {k i : Nat} {x : Int32} (h : zFr σ τ) (hk : zOkI k i = true) : zFr σ (zI τ k i x) := by
  refine zFr_trans h ⟨fun k' i' h' => ?_, fun _ _ _ => rfl, fun _ _ => rfl, fun _ _ => rfl⟩
  refine u2_ne _ _ (fun e => ?_)
  rw [e.1, e.2, hk] at h'
  cases h'
theorem zFr_L {i : Nat} {x : Int64} (h : zFr σ τ) : zFr σ (zL τ 9 i x) := by
  refine zFr_trans h ⟨fun _ _ _ => rfl, fun k' i' h' => ?_, fun _ _ => rfl, fun _ _ => rfl⟩
  refine u2_ne _ _ (fun e => ?_)
  rw [e.1] at h'
  cases h'
theorem zFr_A {k : Nat} {f : Nat → Int32} (h : zFr σ τ) (hk : zOkA k = true) : zFr σ (zA τ k f) := by
  refine zFr_trans h ⟨fun _ _ _ => rfl, fun _ _ _ => rfl, fun k' h' => ?_, fun _ _ => rfl⟩
  refine u1_ne _ _ (fun e => ?_)
  rw [e, hk] at h'
  cases h'
theorem zFr_B {f : Nat → Int64} (h : zFr σ τ) : zFr σ (zB τ 13 f) := by
  refine zFr_trans h ⟨fun _ _ _ => rfl, fun _ _ _ => rfl, fun _ _ => rfl, fun k' h' => ?_⟩
  refine u1_ne _ _ (fun e => ?_)
  rw [e] at h'
  cases h'
theorem zFr_Q {q : Nat} (h : zFr σ τ) : zFr σ (zQ τ q) := h
theorem zFr_X {x : Nat} (h : zFr σ τ) : zFr σ (zX τ x) := h
theorem zFr_T {q : Int32} {nm : Int64} {ln cp nu : Int32} (h : zFr σ τ) : zFr σ (zTs τ q nm ln cp nu) := zFr_I (zFr_I (zFr_I (zFr_I (zFr_L h) rfl) rfl) rfl) rfl
theorem zFr_N {nm : Int64} (h : zFr σ τ) : zFr σ (zNew τ nm) := zFr_I (zFr_A (zFr_B h) rfl) rfl
end FR
/-- thrown, and nothing but the assembler's own has changed -/
abbrev zFl (σ : zS) : zCs := fun o σ' => o = .inr 0 ∧ zFr σ σ'
abbrev xNm (σ : zS) : Int64 := σ.2.1 9 6
abbrev xCn (σ : zS) : Int32 := σ.1 12 2
/-- where the name at hand is among the symbols -/
abbrev xIx (σ : zS) (nm : Int64) : Int32 := zFi (σ.2.2.2.1 13) nm (xCn σ) 0
/-- the symbol's index: found, or new -/
abbrev zSyR (σ : zS) (nm : Int64) (K : Int32 → zS → Prop) : Prop := (xIx σ nm < xCn σ ∧ ¬ xIx σ nm = -1 ∧ K (xIx σ nm) σ) ∨ (¬ xIx σ nm < xCn σ ∧ xCn σ < 30 ∧ 0 ≤ (xCn σ).toInt ∧ ¬ xCn σ = -1 ∧ K (xCn σ) (zNew σ nm))
abbrev zSyF (σ : zS) (nm : Int64) : Prop := ¬ xIx σ nm < xCn σ ∧ ¬ xCn σ < 30
abbrev sp123 (as : List Value) (σ : zS) : Option zCs := match as with
  | [.ref 169] => some (fun o σ' => (zSyF σ (xNm σ) ∧ zW σ o σ') ∨ zSyR σ (xNm σ) (fun x τ => zR τ x o σ'))
  | _ => none
abbrev zAdd (σ : zS) (t p l : Int32) : zS := zI (zA (zA (zA σ 19 (upd (σ.2.2.1 19) (σ.1 18 3).toNatClampNeg t)) 20 (upd (σ.2.2.1 20) (σ.1 18 3).toNatClampNeg p)) 21 (upd (σ.2.2.1 21) (σ.1 18 3).toNatClampNeg l)) 18 3 (σ.1 18 3 + 1)
abbrev sp133 (as : List Value) (σ : zS) : Option zCs := match as with
  | [.ref 176, .int t, .int p, .int l] => some (fun o σ' => (¬ σ.1 18 3 < 60 ∧ zR σ 0 o σ') ∨ (σ.1 18 3 < 60 ∧ 0 ≤ (σ.1 18 3).toInt ∧ zR (zAdd σ t p l) 1 o σ'))
  | _ => none
abbrev zPut (σ : zS) (w : Int32) : zS := zI (zA σ 22 (upd (σ.2.2.1 22) (xPl σ).toNatClampNeg w)) 11 8 (xPl σ + 1)
abbrev sp132 (as : List Value) (σ : zS) : Option zCs := match as with
  | [.ref 169, .int w] => some (fun o σ' => (¬ zPlc (xPl σ) ∧ zW σ o σ') ∨ (zPlc (xPl σ) ∧ zN (zPut σ w) o σ'))
  | _ => none
def sUp (x : Option (Int64 × Int32)) (most : Int32) : Option (Int32 × Int32) := match x with
  | none => none
  | some y => if ¬ y.1.toInt < 0 ∧ y.1.toInt ≤ most.toInt then some (y.1.toInt32, y.2) else none
abbrev sp128 (as : List Value) (σ : zS) : Option zCs := match as with
  | [.ref 169, .int most] => some (zWx σ (sUp (xExpr σ) most))
  | _ => none
abbrev xLc (σ : zS) : Int32 := σ.1 11 7
abbrev zLit (σ : zS) (w : Int32) : zS := zI (zI (zA σ 23 (upd (σ.2.2.1 23) (xLc σ).toNatClampNeg w)) 11 17 (200 + xLc σ)) 11 7 (xLc σ + 1)
abbrev sp187 (as : List Value) (σ : zS) : Option zCs := match as with
  | [.ref 169, .int w] => some (fun o σ' => (¬ (xH σ 61 ∧ xLc σ < 20) ∧ zFl σ o σ') ∨ ((xH σ 61 ∧ xLc σ < 20 ∧ 0 ≤ (xLc σ).toInt) ∧ zN (zLit (zI σ 9 2 (xAt σ + 1)) w) o σ'))
  | _ => none
section AS
variable {c0 : mH} {v5 : Value}
theorem zM1 {x : Int32} (h : 0 ≤ x.toInt) : ¬ x = -1 := by
  rintro rfl
  exact absurd h (by decide)
theorem zFi_0 (N : Nat → Int64) (nm : Int64) (e : Int32) : 0 ≤ (zFi N nm e 0).toInt := (zSc_le _ e 0).1
theorem z123 (h0 : zC0 c0) : zSp c0 v5 123 sp123 := by
  intro d n as σ cs r hs hx
  unfold sp123 at hs
  split at hs
  · cases hs
    obtain ⟨d', hx⟩ := zGo hx
    replace hx := zTr (C := nC123) (tb := [(182, sp182)]) h0 rfl rfl ⟨z182 h0, trivial⟩ (fun _ => false) 40 hx
    obtain ⟨_, _, ⟨h1, rfl, rfl⟩ | ⟨h1, h2, rfl, rfl⟩ | ⟨h1, h2, h3, rfl, rfl⟩, hx⟩ := hx
    · rcases hx with ⟨h, hx⟩ | ⟨h, hx⟩
      · exact ⟨_, _, Or.inr (Or.inl ⟨h1, cNeT h, rfl, rfl⟩), hx⟩
      · exact absurd (cNeF h) (zM1 (zFi_0 _ _ _))
    · rcases hx with ⟨h, hx⟩ | ⟨h, hx⟩
      · exact absurd rfl (cNeT h)
      · exact ⟨_, _, Or.inl ⟨⟨h1, h2⟩, rfl, rfl⟩, hx⟩
    · rcases hx with ⟨h, hx⟩ | ⟨h, hx⟩
      · exact ⟨_, _, Or.inr (Or.inr ⟨h1, h2, h3, zM1 h3, rfl, rfl⟩), hx⟩
      · exact absurd (cNeF h) (zM1 h3)
  · cases hs
theorem z133 (h0 : zC0 c0) : zSp c0 v5 133 sp133 := by
  intro d n as σ cs r hs hx
  unfold sp133 at hs
  split at hs
  · cases hs
    obtain ⟨d', hx⟩ := zGo hx
    replace hx := zTr (C := nC133) (tb := []) h0 rfl rfl trivial (fun _ => false) 40 hx
    rcases hx with ⟨h1, h2, h3, h4, hx⟩ | ⟨h1, hx⟩
    · exact ⟨_, _, Or.inr ⟨cLtT h1, (zIn' h2).1, rfl, rfl⟩, hx⟩
    · exact ⟨_, _, Or.inl ⟨cLtF h1, rfl, rfl⟩, hx⟩
  · cases hs
theorem z132 (h0 : zC0 c0) : zSp c0 v5 132 sp132 := by
  intro d n as σ cs r hs hx
  unfold sp132 at hs
  split at hs
  · cases hs
    obtain ⟨d', hx⟩ := zGo hx
    replace hx := zTr (C := nC132) (tb := [(76, sp76)]) h0 rfl rfl ⟨z76 h0, trivial⟩ (fun _ => false) 40 hx
    obtain ⟨_, _, ⟨h1, rfl, rfl⟩ | ⟨h1, rfl, rfl⟩, hx⟩ := hx
    · rcases hx with ⟨-, h2, hx⟩ | ⟨h, -⟩
      · exact ⟨_, _, Or.inr ⟨h1, rfl, rfl⟩, hx⟩
      · exact absurd (cNeF h) (by decide)
    · rcases hx with ⟨h, -⟩ | ⟨-, hx⟩
      · exact absurd rfl (cNeT h)
      · exact ⟨_, _, Or.inl ⟨h1, rfl, rfl⟩, hx⟩
  · cases hs
theorem z128 (h0 : zC0 c0) : zSp c0 v5 128 sp128 := by
  intro d n as σ cs r hs hx
  unfold sp128 at hs
  split at hs
  · rename_i most
    cases hs
    obtain ⟨d', hx⟩ := zGo hx
    replace hx := zTr (C := nC128) (tb := [(189, sp189)]) h0 rfl rfl ⟨z189 h0, trivial⟩ (fun _ => false) 40 hx
    unfold sUp
    obtain ⟨_, _, ⟨ha, rfl, q, nm, ln, cp, nu, rfl⟩ | ⟨x, q, ha, rfl, nm, ln, cp, nu, rfl⟩, hx⟩ := hx
    · rw [ha]
      exact ⟨_, _, Or.inl ⟨rfl, rfl, q, nm, ln, cp, nu, rfl⟩, hx⟩
    · rw [ha]
      dsimp only
      rcases hx with ⟨h1, hx⟩ | ⟨h1, ⟨h2, hx⟩ | ⟨h2, hx⟩⟩
      · rw [if_neg (show ¬ (¬ x.toInt < 0 ∧ x.toInt ≤ most.toInt) from fun h => h.1 (lLtT h1))]
        exact ⟨_, _, Or.inl ⟨rfl, rfl, q, nm, ln, cp, nu, rfl⟩, hx⟩
      · have h2 := lLeT h2
        rw [Int32.toInt_toInt64] at h2
        rw [if_pos (show ¬ x.toInt < 0 ∧ x.toInt ≤ most.toInt from ⟨lLtF h1, h2⟩)]
        exact ⟨_, _, Or.inr ⟨_, _, rfl, rfl, nm, ln, cp, nu, rfl⟩, hx⟩
      · have h2 := lLeF h2
        rw [Int32.toInt_toInt64] at h2
        rw [if_neg (show ¬ (¬ x.toInt < 0 ∧ x.toInt ≤ most.toInt) from fun h => h2 h.2)]
        exact ⟨_, _, Or.inl ⟨rfl, rfl, q, nm, ln, cp, nu, rfl⟩, hx⟩
  · cases hs
theorem z187 (h0 : zC0 c0) : zSp c0 v5 187 sp187 := by
  intro d n as σ cs r hs hx
  unfold sp187 at hs
  split at hs
  · cases hs
    obtain ⟨d', hx⟩ := zGo hx
    replace hx := zTr (C := nC187) (tb := [(127, sp127)]) h0 rfl rfl ⟨z127 h0, trivial⟩ (fun _ => false) 40 hx
    obtain ⟨_, _, ⟨h1, rfl, rfl⟩ | ⟨h1, rfl, rfl⟩, hx⟩ := hx
    · rcases hx with ⟨-, hx⟩ | ⟨h, -⟩
      · exact ⟨_, _, Or.inl ⟨fun h => h1 h.1, rfl, zFr_X (zFr_refl _)⟩, hx⟩
      · exact absurd rfl (cEqF h)
    · rcases hx with ⟨h, -⟩ | ⟨-, ⟨h2, h3, hx⟩ | ⟨h2, hx⟩⟩
      · exact absurd (cEqT h) (by decide)
      · exact ⟨_, _, Or.inr ⟨⟨h1, cLtT h2, (zIn' h3).1⟩, rfl, rfl⟩, hx⟩
      · exact ⟨_, _, Or.inl ⟨fun h => cLtF h2 h.2, rfl, zFr_X (zFr_I (zFr_refl _) rfl)⟩, hx⟩
  · cases hs
end AS
