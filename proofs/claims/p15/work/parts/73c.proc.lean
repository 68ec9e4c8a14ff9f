/-! THE PROCESSOR, the class's: instructions -/
/-- done, or stuck with nothing changed -/
abbrev zOp (σ : zS) (x : Option zS) : zCs := fun o σ' => (∃ τ, x = some τ ∧ zR τ 1 o σ') ∨ (x = none ∧ zR σ 0 o σ')
abbrev pV (σ : zS) : Int32 := zFo (pM σ (pA σ).toNatClampNeg) (pF σ)
def cCalc (σ : zS) : zS := if pO σ = 1 then cAdd σ 0 (zVal (pV σ)) else if pO σ = 2 then cAdd σ 0 (-(zVal (pV σ))) else if pO σ = 3 then zA σ 8 (rMu (pR σ) (pV σ)) else if dvB (pR σ) (pV σ) then zI σ 7 3 1 else zA σ 8 (rDv (pR σ) (pV σ))
abbrev sp157 (as : List Value) (σ : zS) : Option zCs := match as with
  | [.ref 165] => some (zOp σ (if zHas σ then some (cCalc σ) else none))
  | _ => none
/-- the decimal number of ten bytes: so many steps from the left -/
def dN (T : Int64) : Nat → Int64
  | 0 => 0
  | k + 1 => dN T k * 10 + (((T >>> ((Int32.ofInt (54 - 6 * (k : Int))).toInt64 &&& 63)) &&& 63) - ((T >>> ((Int32.ofInt (54 - 6 * (k : Int))).toInt64 &&& 63)) &&& 63) / 10 * 10)
abbrev sp201 (as : List Value) (σ : zS) : Option zCs := match as with
  | [.ref 165] => some (zN (zA σ 8 (rSM (pR σ) 0 (dN (zTen (pR σ)) 10 &&& 1073741823).toInt32)))
  | _ => none
/-- the characters of a number -/
def dQ (w : Int32) : Nat → Int32
  | 0 => w
  | k + 1 => dQ w k / 10
def dC (w : Int32) : Nat → Int64
  | 0 => 0
  | k + 1 => dC w k ||| ((30 + (dQ w k - dQ w k / 10 * 10)).toInt64 <<< ((Int32.ofInt (6 * (k : Int))).toInt64 &&& 63))
abbrev sp202 (as : List Value) (σ : zS) : Option zCs := match as with
  | [.ref 165] => some (zN (zA σ 8 (rSB (pR σ) (dC (zMag (pR σ 0)) 10))))
  | _ => none
def cConv (σ : zS) : Option zS := if pF σ = 0 then some (zA σ 8 (rSM (pR σ) 0 (dN (zTen (pR σ)) 10 &&& 1073741823).toInt32)) else if pF σ = 1 then some (zA σ 8 (rSB (pR σ) (dC (zMag (pR σ 0)) 10))) else if pF σ = 2 then some (zI σ 7 6 1) else none
abbrev sp158 (as : List Value) (σ : zS) : Option zCs := match as with
  | [.ref 165] => some (zOp σ (cConv σ))
  | _ => none
def cLoad (σ : zS) : Option zS := if zHas σ then some (zA σ 8 (upd (pR σ) (pO σ &&& 7).toNatClampNeg (zEnW (pO σ &&& 7) (if pO σ < 16 then pV σ else pV σ ^^^ 1)))) else none
abbrev sp161 (as : List Value) (σ : zS) : Option zCs := match as with
  | [.ref 165] => some (zOp σ (cLoad σ))
  | _ => none
def cStor (σ : zS) : Option zS := if zHas σ then some (zA σ 1 (upd (pM σ) (pA σ).toNatClampNeg (zSto (pM σ (pA σ).toNatClampNeg) (pF σ) (if ¬ 8 < pO σ - 24 then pR σ (pO σ - 24).toNatClampNeg else 0)))) else none
abbrev sp162 (as : List Value) (σ : zS) : Option zCs := match as with
  | [.ref 165] => some (zOp σ (cStor σ))
  | _ => none
/-- a jump with a question -/
def cJif (σ : zS) (t : Prop) [Decidable t] : Option zS := if t then (if zPlc (pA σ) then some (zJm σ) else none) else some σ
noncomputable def cJump (σ : zS) : Option zS := if pF σ = 0 then cJif σ True else if pF σ = 1 then (if zPlc (pA σ) then some (zJk σ) else none) else if pF σ = 2 then (cJif σ (σ.1 7 3 = 1)).map (fun τ => zI τ 7 3 0) else if pF σ = 3 then (cJif σ (σ.1 7 3 = 0)).map (fun τ => zI τ 7 3 0) else if ¬ 9 < pF σ then @cJif σ (zHo (pF σ - 4) (σ.1 7 4)) (Classical.propDecidable _) else none
abbrev sp164 (as : List Value) (σ : zS) : Option zCs := match as with
  | [.ref 165] => some (zOp σ (cJump σ))
  | _ => none
noncomputable def cJreg (σ : zS) : Option zS := if ¬ 5 < pF σ then @cJif σ (zHo (pF σ) (zVal (pR σ (pO σ - 40).toNatClampNeg))) (Classical.propDecidable _) else none
abbrev sp165 (as : List Value) (σ : zS) : Option zCs := match as with
  | [.ref 165] => some (zOp σ (cJreg σ))
  | _ => none
def cChg (σ : zS) : Option zS := if pF σ = 0 then some (cAdd σ (pO σ - 48) (pA σ)) else if pF σ = 1 then some (cAdd σ (pO σ - 48) (-(pA σ))) else if pF σ = 2 then some (zA σ 8 (upd (pR σ) (pO σ - 48).toNatClampNeg (zEnW (pO σ - 48) (σ.1 7 14)))) else if pF σ = 3 then some (zA σ 8 (upd (pR σ) (pO σ - 48).toNatClampNeg (zEnW (pO σ - 48) (σ.1 7 14 ^^^ 1)))) else none
abbrev sp166 (as : List Value) (σ : zS) : Option zCs := match as with
  | [.ref 165] => some (zOp σ (cChg σ))
  | _ => none
def cCmp (σ : zS) : Option zS := if zHas σ then some (zI σ 7 4 (zCm (zVal (zFo (pR σ (pO σ - 56).toNatClampNeg) (pF σ))) (zVal (pV σ)))) else none
abbrev sp167 (as : List Value) (σ : zS) : Option zCs := match as with
  | [.ref 165] => some (zOp σ (cCmp σ))
  | _ => none
section PC
variable {c0 : mH} {v5 : Value}
theorem kEq (x k : Int32) : x = k ↔ k.toInt = x.toInt := ⟨fun h => by rw [h], fun h => (Int32.toInt_inj.mp h).symm⟩
theorem z157 (h0 : zC0 c0) : zSp c0 v5 157 sp157 := by
  intro d n as σ cs r hs hx
  unfold sp157 at hs
  split at hs
  · cases hs
    obtain ⟨d', hx⟩ := zGo hx
    replace hx := zTr (C := nC157) (tb := [(197, sp197), (154, sp154), (136, sp136), (198, sp198), (199, sp199), (200, sp200)]) h0 rfl rfl ⟨z197 h0, z154 h0, z136 h0, z198 h0, z199 h0, z200 h0, trivial⟩ (fun _ => false) 80 hx
    obtain ⟨_, _, (⟨p1, rfl, rfl⟩ | ⟨p1, rfl, rfl⟩), hx⟩ := hx
    · rw [if_pos p1]
      rcases hx with ⟨h1, hx⟩ | ⟨h1, hx⟩
      · obtain ⟨_, _, _, ⟨rfl, rfl⟩, hx⟩ := hx
        have fin : ∀ τ, cCalc σ = τ → r = zOut c0 (.inl (some (.int 1))) τ → ∃ o σ', zOp σ (some (cCalc σ)) o σ' ∧ r = zOut c0 o σ' := fun τ e hr => ⟨_, _, .inl ⟨_, rfl, rfl, rfl⟩, by rw [e]; exact hr⟩
        rcases hx with ⟨k1, _, _, ⟨rfl, rfl⟩, _, _, ⟨rfl, rfl⟩, hx⟩ | ⟨k1, ⟨k2, _, _, ⟨rfl, rfl⟩, _, _, ⟨rfl, rfl⟩, hx⟩ | ⟨k2, ⟨k3, _, _, ⟨rfl, rfl⟩, hx⟩ | ⟨k3, _, _, (⟨q, rfl, rfl⟩ | ⟨q, rfl, rfl⟩), hx⟩⟩⟩
        · refine ⟨_, _, .inl ⟨_, rfl, rfl, rfl⟩, ?_⟩
          unfold cCalc
          rw [if_pos ((kEq _ 1).mpr k1)]
          exact hx
        · refine ⟨_, _, .inl ⟨_, rfl, rfl, rfl⟩, ?_⟩
          unfold cCalc
          rw [if_neg (fun e => k1 ((kEq _ 1).mp e)), if_pos ((kEq _ 2).mpr k2)]
          exact hx
        · refine ⟨_, _, .inl ⟨_, rfl, rfl, rfl⟩, ?_⟩
          unfold cCalc
          rw [if_neg (fun e => k1 ((kEq _ 1).mp e)), if_neg (fun e => k2 ((kEq _ 2).mp e)), if_pos ((kEq _ 3).mpr k3)]
          exact hx
        · refine ⟨_, _, .inl ⟨_, rfl, rfl, rfl⟩, ?_⟩
          unfold cCalc
          rw [if_neg (fun e => k1 ((kEq _ 1).mp e)), if_neg (fun e => k2 ((kEq _ 2).mp e)), if_neg (fun e => k3 ((kEq _ 3).mp e)), if_pos q]
          exact hx
        · refine ⟨_, _, .inl ⟨_, rfl, rfl, rfl⟩, ?_⟩
          unfold cCalc
          rw [if_neg (fun e => k1 ((kEq _ 1).mp e)), if_neg (fun e => k2 ((kEq _ 2).mp e)), if_neg (fun e => k3 ((kEq _ 3).mp e)), if_neg q]
          exact hx
      · exact absurd (cNeF h1) (by decide)
    · rw [if_neg p1]
      rcases hx with ⟨h1, hx⟩ | ⟨h1, hx⟩
      · exact absurd rfl (cNeT h1)
      · exact ⟨_, _, .inr ⟨rfl, rfl, rfl⟩, hx⟩
  · cases hs
theorem z201 (h0 : zC0 c0) : zSp c0 v5 201 sp201 := by
  intro d n as σ cs r hs hx
  unfold sp201 at hs
  split at hs
  · cases hs
    obtain ⟨d', hx⟩ := zGo hx
    refine ⟨_, _, ⟨rfl, rfl⟩, ?_⟩
    have turn : ∀ (m k : Nat), k < 10 → zF v5 d' n 201 m 11 [(5, .int (Int32.ofInt (54 - 6 * (k : Int)))), (3, .long (dN (zTen (pR σ)) k)), (1, .long (zTen (pR σ))), (0, .ref 165)] [] (zH c0 σ) = some r → ∃ m', zF v5 d' n 201 m' 11 [(5, .int (Int32.ofInt (54 - 6 * ((k + 1 : Nat) : Int)))), (3, .long (dN (zTen (pR σ)) (k + 1))), (1, .long (zTen (pR σ))), (0, .ref 165)] [] (zH c0 σ) = some r := by
      intro m k hk hx
      replace hx := zTr (C := nC201) (tb := []) h0 rfl rfl trivial (fun pc => pc.beq 11 || pc.beq 41) 60 hx
      have e : Int32.ofInt (54 - 6 * (k : Int)) + Int32.ofInt (-6) = Int32.ofInt (54 - 6 * ((k + 1 : Nat) : Int)) := by
        rw [← Int32.ofInt_add]
        congr 1
        omega
      rcases hx with ⟨h1, hx⟩ | ⟨h1, _, m', hm, hx⟩
      · exfalso
        have := Int32.lt_iff_toInt_lt.mp (cLtT h1)
        rw [rInt (by unfold rI0; omega) (by unfold rI1; omega)] at this
        rw [show (0 : Int32).toInt = 0 from rfl] at this
        omega
      · rw [e] at hx
        exact ⟨m', hx⟩
    obtain ⟨_, _, ⟨rfl, rfl⟩, m0, hm0, hx⟩ := zTr (C := nC201) (tb := [(203, sp203)]) h0 rfl rfl ⟨z203 h0, trivial⟩ (fun pc => pc.beq 11) 60 hx
    have all : ∀ k : Nat, k ≤ 10 → ∃ m', zF v5 d' n 201 m' 11 [(5, .int (Int32.ofInt (54 - 6 * (k : Int)))), (3, .long (dN (zTen (pR σ)) k)), (1, .long (zTen (pR σ))), (0, .ref 165)] [] (zH c0 σ) = some r := by
      intro k
      induction k with
      | zero => exact fun _ => ⟨m0, hx⟩
      | succ k ih =>
        intro hk
        obtain ⟨m', h'⟩ := ih (by omega)
        exact turn m' k (by omega) h'
    obtain ⟨m', hx⟩ := all 10 (by omega)
    replace hx := zTr (C := nC201) (tb := [(204, sp204)]) h0 rfl rfl ⟨z204 h0, trivial⟩ (fun pc => pc.beq 11) 60 hx
    rcases hx with ⟨h1, _, _, ⟨rfl, rfl⟩, hx⟩ | ⟨h1, _⟩
    · exact hx
    · exact absurd (by decide) (cLtF h1)
  · cases hs
theorem z202 (h0 : zC0 c0) : zSp c0 v5 202 sp202 := by
  intro d n as σ cs r hs hx
  unfold sp202 at hs
  split at hs
  · cases hs
    obtain ⟨d', hx⟩ := zGo hx
    refine ⟨_, _, ⟨rfl, rfl⟩, ?_⟩
    have turn : ∀ (m k : Nat), k < 10 → zF v5 d' n 202 m 15 [(4, .int (Int32.ofInt (6 * (k : Int)))), (1, .int (dQ (zMag (pR σ 0)) k)), (2, .long (dC (zMag (pR σ 0)) k)), (0, .ref 165)] [] (zH c0 σ) = some r → ∃ m', zF v5 d' n 202 m' 15 [(4, .int (Int32.ofInt (6 * ((k + 1 : Nat) : Int)))), (1, .int (dQ (zMag (pR σ 0)) (k + 1))), (2, .long (dC (zMag (pR σ 0)) (k + 1))), (0, .ref 165)] [] (zH c0 σ) = some r := by
      intro m k hk hx
      replace hx := zTr (C := nC202) (tb := []) h0 rfl rfl trivial (fun pc => pc.beq 15 || pc.beq 47) 60 hx
      have e : Int32.ofInt (6 * (k : Int)) + Int32.ofInt 6 = Int32.ofInt (6 * ((k + 1 : Nat) : Int)) := by
        rw [← Int32.ofInt_add]
        congr 1
      rcases hx with ⟨h1, hx⟩ | ⟨h1, _, _, m', hm, hx⟩
      · exfalso
        have := fun q => cGeT h1 (Int32.lt_iff_toInt_lt.mpr q)
        apply this
        rw [rInt (by unfold rI0; omega) (by unfold rI1; omega)]
        show 6 * (k : Int) < 60
        omega
      · rw [e] at hx
        exact ⟨m', hx⟩
    obtain ⟨_, _, _, ⟨rfl, rfl⟩, m0, hm0, hx⟩ := zTr (C := nC202) (tb := [(138, sp138)]) h0 rfl rfl ⟨z138 h0, trivial⟩ (fun pc => pc.beq 15) 60 hx
    have hx1 : zF v5 d' n 202 m0 15 [(4, .int (Int32.ofInt (6 * ((0 : Nat) : Int)))), (2, .long (dC (zMag (pR σ 0)) 0)), (1, .int (dQ (zMag (pR σ 0)) 0)), (0, .ref 165)] [] (zH c0 σ) = some r := hx
    have hx0 : zF v5 d' n 202 m0 15 [(4, .int (Int32.ofInt (6 * ((0 : Nat) : Int)))), (1, .int (dQ (zMag (pR σ 0)) 0)), (2, .long (dC (zMag (pR σ 0)) 0)), (0, .ref 165)] [] (zH c0 σ) = some r := zF_lv (by
      intro q hq
      simp only [List.mem_cons, List.not_mem_nil, or_false] at hq
      rcases hq with rfl | rfl | rfl | rfl <;> rfl) hx1
    have all : ∀ k : Nat, k ≤ 10 → ∃ m', zF v5 d' n 202 m' 15 [(4, .int (Int32.ofInt (6 * (k : Int)))), (1, .int (dQ (zMag (pR σ 0)) k)), (2, .long (dC (zMag (pR σ 0)) k)), (0, .ref 165)] [] (zH c0 σ) = some r := by
      intro k
      induction k with
      | zero => exact fun _ => ⟨m0, hx0⟩
      | succ k ih =>
        intro hk
        obtain ⟨m', h'⟩ := ih (by omega)
        exact turn m' k (by omega) h'
    obtain ⟨m', hx⟩ := all 10 (by omega)
    replace hx := zTr (C := nC202) (tb := [(205, sp205)]) h0 rfl rfl ⟨z205 h0, trivial⟩ (fun pc => pc.beq 15) 60 hx
    rcases hx with ⟨h1, _, _, ⟨rfl, rfl⟩, hx⟩ | ⟨h1, _⟩
    · exact hx
    · exact absurd (cGeF h1) (by decide)
  · cases hs
theorem z158 (h0 : zC0 c0) : zSp c0 v5 158 sp158 := by
  intro d n as σ cs r hs hx
  unfold sp158 at hs
  split at hs
  · cases hs
    obtain ⟨d', hx⟩ := zGo hx
    replace hx := zTr (C := nC158) (tb := [(201, sp201), (202, sp202)]) h0 rfl rfl ⟨z201 h0, z202 h0, trivial⟩ (fun _ => false) 80 hx
    unfold cConv
    rcases hx with ⟨k1, _, _, ⟨rfl, rfl⟩, hx⟩ | ⟨k1, ⟨k2, _, _, ⟨rfl, rfl⟩, hx⟩ | ⟨k2, ⟨k3, hx⟩ | ⟨k3, hx⟩⟩⟩
    · rw [if_pos ((kEq _ 0).mpr k1)]
      exact ⟨_, _, .inl ⟨_, rfl, rfl, rfl⟩, hx⟩
    · rw [if_neg (fun e => k1 ((kEq _ 0).mp e)), if_pos ((kEq _ 1).mpr k2)]
      exact ⟨_, _, .inl ⟨_, rfl, rfl, rfl⟩, hx⟩
    · rw [if_neg (fun e => k1 ((kEq _ 0).mp e)), if_neg (fun e => k2 ((kEq _ 1).mp e)), if_pos ((kEq _ 2).mpr k3)]
      exact ⟨_, _, .inl ⟨_, rfl, rfl, rfl⟩, hx⟩
    · rw [if_neg (fun e => k1 ((kEq _ 0).mp e)), if_neg (fun e => k2 ((kEq _ 1).mp e)), if_neg (fun e => k3 ((kEq _ 2).mp e))]
      exact ⟨_, _, .inr ⟨rfl, rfl, rfl⟩, hx⟩
  · cases hs
end PC
