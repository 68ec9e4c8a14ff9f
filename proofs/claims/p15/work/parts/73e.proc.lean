/-! THE PROCESSOR, the class's: shifts, moves, units -/
abbrev i5 (m : Int32) : Int32 := 6 * (if 5 < m then 5 else m)
abbrev i10 (m : Int32) : Int32 := 6 * (if 10 < m then 10 else m)
abbrev iR (m : Int32) : Int32 := 6 * (m - m / 10 * 10)
def rShf (R : Nat → Int32) (f m : Int32) : Nat → Int32 :=
  if f = 0 then rSM R 0 (((zMag (R 0)).toInt64 <<< ((i5 m).toInt64 &&& 63)) &&& 1073741823).toInt32
  else if f = 1 then rSM R 0 ((zMag (R 0)).toInt64 >>> ((i5 m).toInt64 &&& 63)).toInt32
  else if f = 2 then rSB R ((zTen R <<< ((i10 m).toInt64 &&& 63)) &&& 1152921504606846975)
  else if f = 3 then rSB R (zTen R >>> ((i10 m).toInt64 &&& 63))
  else if f = 4 then rSB R (((zTen R <<< ((iR m).toInt64 &&& 63)) ||| (zTen R >>> ((60 - iR m).toInt64 &&& 63))) &&& 1152921504606846975)
  else rSB R (((zTen R >>> ((iR m).toInt64 &&& 63)) ||| (zTen R <<< ((60 - iR m).toInt64 &&& 63))) &&& 1152921504606846975)
def cShf (σ : zS) : Option zS := if pA σ < 0 ∨ 5 < pF σ then none else some (zA σ 8 (rShf (pR σ) (pF σ) (pA σ)))
abbrev sp159 (as : List Value) (σ : zS) : Option zCs := match as with
  | [.ref 165] => some (zOp σ (cShf σ))
  | _ => none
/-- words moved one by one -/
def mMv (M : Nat → Int32) (a b : Int32) : Nat → Nat → Int32
  | 0 => M
  | k + 1 => upd (mMv M a b k) (b + Int32.ofNat k).toNatClampNeg (mMv M a b k (a + Int32.ofNat k).toNatClampNeg)
def cMov (σ : zS) : Option zS := if pF σ = 0 then some σ else if zArp (pA σ) (pF σ) ∧ zArp (zVal (pR σ 1)) (pF σ) then some (cAdd (zA σ 1 (mMv (pM σ) (pA σ) (zVal (pR σ 1)) (pF σ).toNatClampNeg)) 1 (pF σ)) else none
abbrev sp160 (as : List Value) (σ : zS) : Option zCs := match as with
  | [.ref 165] => some (fun o σ' => 0 ≤ (pF σ).toInt → (pF σ).toInt ≤ 63 → zOp σ (cMov σ) o σ')
  | _ => none
abbrev uB (σ : zS) : Int32 := σ.1 2 5
abbrev sp228 (as : List Value) (σ : zS) : Option zCs := match as with
  | [.ref 160, .int s, .int m] => some (fun o σ' => (s = 0 ∧ zR (zI σ 2 5 (if m = 0 then 0 else if 0 < (if uB σ + m < 6 then uB σ + m else 6) then (if uB σ + m < 6 then uB σ + m else 6) else 0)) 1 o σ') ∨ (s = 1 ∧ zR σ 0 o σ') ∨ (¬ s = 0 ∧ ¬ s = 1 ∧ zR σ 1 o σ'))
  | _ => none
section PE
variable {c0 : mH} {v5 : Value}
theorem z159 (h0 : zC0 c0) : zSp c0 v5 159 sp159 := by
  intro d n as σ cs r hs hx
  unfold sp159 at hs
  split at hs
  · cases hs
    obtain ⟨d', hx⟩ := zGo hx
    replace hx := zTr (C := nC159) (tb := [(138, sp138), (203, sp203), (204, sp204), (205, sp205)]) h0 rfl rfl ⟨z138 h0, z203 h0, z204 h0, z205 h0, trivial⟩ (fun pc => pc.beq 17) 80 hx
    unfold cShf
    rcases hx with ⟨h1, hx⟩ | ⟨h1, ⟨h2, m', hm, hx⟩ | ⟨h2, hx⟩⟩
    · rw [if_pos (.inl (cLtT h1))]
      exact ⟨_, _, .inr ⟨rfl, rfl, rfl⟩, hx⟩
    · rw [if_neg (fun q => q.elim (cLtF h1) (fun q => cLeT h2 q))]
      replace hx := zTr (C := nC159) (tb := [(138, sp138), (203, sp203), (204, sp204), (205, sp205)]) h0 rfl rfl ⟨z138 h0, z203 h0, z204 h0, z205 h0, trivial⟩ (fun _ => false) 80 hx
      obtain ⟨_, _, _, _, ⟨rfl, rfl⟩, _, _, ⟨rfl, rfl⟩, hx⟩ := hx
      have fin : ∀ R', rShf (pR σ) (pF σ) (pA σ) = R' → r = zOut c0 (.inl (some (.int 1))) (zA σ 8 R') → ∃ o σ', zOp σ (some (zA σ 8 (rShf (pR σ) (pF σ) (pA σ)))) o σ' ∧ r = zOut c0 o σ' := fun R' e hr => ⟨_, _, .inl ⟨_, rfl, rfl, rfl⟩, by rw [e]; exact hr⟩
      rcases hx with ⟨k1, _, _, ⟨rfl, rfl⟩, hx⟩ | ⟨k1, ⟨k2, _, _, ⟨rfl, rfl⟩, hx⟩ | ⟨k2, ⟨k3, _, _, ⟨rfl, rfl⟩, hx⟩ | ⟨k3, ⟨k4, _, _, ⟨rfl, rfl⟩, hx⟩ | ⟨k4, ⟨k5, _, _, ⟨rfl, rfl⟩, hx⟩ | ⟨k5, _, _, ⟨rfl, rfl⟩, hx⟩⟩⟩⟩⟩
      · refine ⟨_, _, .inl ⟨_, rfl, rfl, rfl⟩, ?_⟩
        unfold rShf
        rw [if_pos ((kEq _ 0).mpr k1)]
        exact hx
      · refine ⟨_, _, .inl ⟨_, rfl, rfl, rfl⟩, ?_⟩
        unfold rShf
        rw [if_neg (fun e => k1 ((kEq _ 0).mp e)), if_pos ((kEq _ 1).mpr k2)]
        exact hx
      · refine ⟨_, _, .inl ⟨_, rfl, rfl, rfl⟩, ?_⟩
        unfold rShf
        rw [if_neg (fun e => k1 ((kEq _ 0).mp e)), if_neg (fun e => k2 ((kEq _ 1).mp e)), if_pos ((kEq _ 2).mpr k3)]
        exact hx
      · refine ⟨_, _, .inl ⟨_, rfl, rfl, rfl⟩, ?_⟩
        unfold rShf
        rw [if_neg (fun e => k1 ((kEq _ 0).mp e)), if_neg (fun e => k2 ((kEq _ 1).mp e)), if_neg (fun e => k3 ((kEq _ 2).mp e)), if_pos ((kEq _ 3).mpr k4)]
        exact hx
      · refine ⟨_, _, .inl ⟨_, rfl, rfl, rfl⟩, ?_⟩
        unfold rShf
        rw [if_neg (fun e => k1 ((kEq _ 0).mp e)), if_neg (fun e => k2 ((kEq _ 1).mp e)), if_neg (fun e => k3 ((kEq _ 2).mp e)), if_neg (fun e => k4 ((kEq _ 3).mp e)), if_pos ((kEq _ 4).mpr k5)]
        exact hx
      · refine ⟨_, _, .inl ⟨_, rfl, rfl, rfl⟩, ?_⟩
        unfold rShf
        rw [if_neg (fun e => k1 ((kEq _ 0).mp e)), if_neg (fun e => k2 ((kEq _ 1).mp e)), if_neg (fun e => k3 ((kEq _ 2).mp e)), if_neg (fun e => k4 ((kEq _ 3).mp e)), if_neg (fun e => k5 ((kEq _ 4).mp e))]
        exact hx
    · rw [if_pos (.inr (cLeF h2))]
      exact ⟨_, _, .inr ⟨rfl, rfl, rfl⟩, hx⟩
  · cases hs
end PE
