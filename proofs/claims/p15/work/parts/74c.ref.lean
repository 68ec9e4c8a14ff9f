/-! THE PROCESSOR, the reference's: instructions -/
/-- the decimal number, and the characters of a number -/
def eN (R : Nat → Int32) : Nat → Int64
  | 0 => 0
  | k + 1 => 10 * eN R k + (yByt (if (Int32.ofNat k) < 5 then R 0 else R 7) (Int32.ofNat k - Int32.ofNat k / 5 * 5) - yByt (if (Int32.ofNat k) < 5 then R 0 else R 7) (Int32.ofNat k - Int32.ofNat k / 5 * 5) / 10 * 10).toInt64
def eQ (w : Int64) : Nat → Int64
  | 0 => w
  | k + 1 => eQ w k / 10
def eC (w : Int64) : Nat → Int64
  | 0 => 0
  | k + 1 => eC w k ||| ((eQ w k - eQ w k / 10 * 10 + 30) <<< ((6 * Int32.ofNat k).toInt64 &&& 63))
/-- both registers' magnitudes -/
def qSM (R : Nat → Int32) (r : Nat) (x : Int32) : Nat → Int32 := upd R r (2 * x + (if R r &&& 1 = 1 then 1 else 0))
def qSB (R : Nat → Int32) (t : Int64) : Nat → Int32 := qSM (qSM R 0 (t >>> ((Int8.ofInt 30).toInt32.toInt64 &&& 63)).toInt32) 7 (t &&& 1073741823).toInt32
abbrev sp175 (as : List Value) (σ : zS) : Option zCs := match as with
  | [.ref 183] => some (zN (zA σ 27 (qSB (qR σ) (eC (zMag (qR σ 0)).toInt64 10))))
  | _ => none
def ySpc (τ : zS) (f : Int32) : zS := if ¬ yS τ = 0 ∨ ¬ f < 3 then zI τ 25 4 1 else if f = 0 then zA (zI τ 25 4 0) 27 (qSM (qR τ) 0 (eN (qR τ) 10 - eN (qR τ) 10 / 1073741824 * 1073741824).toInt32) else if f = 1 then zA (zI τ 25 4 0) 27 (qSB (qR τ) (eC (zMag (qR τ 0)).toInt64 10)) else zI (zI τ 25 4 0) 25 10 1
abbrev sp110 (as : List Value) (σ : zS) : Option zCs := match as with
  | [.ref 183, .int f] => some (zN (ySpc σ f))
  | _ => none
def yCmp (τ : zS) (r f w : Int32) : zS := zI τ 25 5 (if zVal (yPart (qR τ r.toNatClampNeg) f) < zVal (yPart w f) then -1 else if zVal (yPart w f) < zVal (yPart (qR τ r.toNatClampNeg) f) then 1 else 0)
abbrev sp173 (as : List Value) (σ : zS) : Option zCs := match as with
  | [.ref 183, .int r, .int f, .int w] => some (zN (yCmp σ r f w))
  | _ => none
abbrev r8 (c : Int32) : Int32 := c - c / 8 * 8
def yTch (τ : zS) (c f m : Int32) : zS := if ¬ yS τ = 0 ∨ ¬ (yFd5 f ∧ qPlc m) then zI τ 25 4 1 else
  if c < 5 then yAri (zI τ 25 4 0) c (yPart (qM τ m.toNatClampNeg) f)
  else if c < 16 then zA (zI τ 25 4 0) 27 (upd (qR τ) (r8 c).toNatClampNeg (yEnW (r8 c) (yPart (qM τ m.toNatClampNeg) f)))
  else if c < 24 then zA (zI τ 25 4 0) 27 (upd (qR τ) (r8 c).toNatClampNeg (yEnW (r8 c) (yPart (qM τ m.toNatClampNeg) f ^^^ 1)))
  else if c < 34 then zA (zI τ 25 4 0) 26 (upd (qM τ) m.toNatClampNeg (yPut (qM τ m.toNatClampNeg) f (if c < 32 then qR τ (r8 c).toNatClampNeg else if c = 32 then qR τ 8 else 0)))
  else yCmp (zI τ 25 4 0) (r8 c) f (qM τ m.toNatClampNeg)
abbrev sp109 (as : List Value) (σ : zS) : Option zCs := match as with
  | [.ref 183, .int c, .int f, .int m] => some (zN (yTch σ c f m))
  | _ => none
section RC
variable {c0 : mH} {v5 : Value}
theorem z216 (h0 : zC0 c0) : zSp c0 v5 216 sp216 := by
  intro d n as σ cs r hs hx
  unfold sp216 at hs
  split at hs
  · rename_i v
    cases hs
    obtain ⟨d', hx⟩ := zGo hx
    refine ⟨_, _, ⟨rfl, rfl⟩, ?_⟩
    unfold yDiv
    replace hx := zTr (C := nC216) (tb := [(70, sp70), (73, sp73), (146, sp146)]) h0 rfl rfl ⟨z70 h0, z73 h0, z146 h0, trivial⟩ (fun pc => pc.beq 85) 60 hx
    have fin : ∀ (m' : Nat) (g w : Int32), (g = if qR σ 0 &&& 1 = 1 ↔ v &&& 1 = 1 then 0 else 1) → (w = if qR σ 0 &&& 1 = 1 then 1 else 0) → zF v5 d' n 216 m' 85 [(5, .int w), (3, .long (zTen (qR σ))), (2, .int (zMag v)), (0, .ref 183), (1, .int v)] [.int g, .int (zTen (qR σ) / (zMag v).toInt64).toInt32, .int 0, .ref 185] (zH c0 σ) = some r → r = zOut c0 (.inl none) (zA σ 27 (qDv (qR σ) v)) := by
      intro m' g w hg hw hx
      replace hx := zTr (C := nC216) (tb := [(146, sp146)]) h0 rfl rfl ⟨z146 h0, trivial⟩ (fun _ => false) 60 hx
      obtain ⟨_, _, ⟨rfl, rfl⟩, _, _, _, _, ⟨rfl, rfl⟩, _, hx⟩ := hx
      rw [zA_zA] at hx
      unfold qDv
      rw [← hg, ← hw]
      have e : (if g = 0 then (0 : Int32) else 1) = g := by
        rw [hg]
        split <;> decide
      have e2 : (if w = 0 then (0 : Int32) else 1) = w := by
        rw [hw]
        split <;> decide
      rw [e, e2] at hx
      exact hx
    obtain ⟨_, _, ⟨rfl, rfl⟩, _, _, _, ⟨rfl, rfl⟩, hx⟩ := hx
    rcases hx with ⟨h1, hx⟩ | ⟨h1, _, hx⟩
    · rw [if_neg (show ¬ ¬ zMag (qR σ 0) < zMag v from fun q => q (cGtT h1))]
      obtain ⟨_, _, _, ⟨rfl, rfl⟩, _, _, _, ⟨rfl, rfl⟩, _, _, _, (⟨p, rfl, rfl⟩ | ⟨p, rfl, rfl⟩), _, _, _, (⟨q, rfl, rfl⟩ | ⟨q, rfl, rfl⟩), hx⟩ := hx
      · rcases hx with ⟨h2, m', hm, hx⟩ | ⟨h2, m', hm, hx⟩
        · exact fin m' 0 1 (if_pos ⟨fun _ => q, fun _ => p⟩).symm (if_pos p).symm hx
        · exact absurd rfl (cEqF h2)
      · rcases hx with ⟨h2, m', hm, hx⟩ | ⟨h2, m', hm, hx⟩
        · exact absurd (cEqT h2) (by decide)
        · exact fin m' 1 1 (if_neg (fun w => q (w.mp p))).symm (if_pos p).symm hx
      · rcases hx with ⟨h2, m', hm, hx⟩ | ⟨h2, m', hm, hx⟩
        · exact absurd (cEqT h2) (by decide)
        · exact fin m' 1 0 (if_neg (fun w => p (w.mpr q))).symm (if_neg p).symm hx
      · rcases hx with ⟨h2, m', hm, hx⟩ | ⟨h2, m', hm, hx⟩
        · exact fin m' 0 0 (if_pos ⟨fun w => absurd w p, fun w => absurd w q⟩).symm (if_neg p).symm hx
        · exact absurd rfl (cEqF h2)
    · rw [if_pos (show ¬ zMag (qR σ 0) < zMag v from cGtF h1)]
      exact hx
  · cases hs
theorem z170 (h0 : zC0 c0) : zSp c0 v5 170 sp170 := by
  intro d n as σ cs r hs hx
  unfold sp170 at hs
  split at hs
  · rename_i c v
    cases hs
    obtain ⟨d', hx⟩ := zGo hx
    refine ⟨_, _, ⟨rfl, rfl⟩, ?_⟩
    replace hx := zTr (C := nC170) (tb := [(74, sp74), (177, sp177), (215, sp215), (216, sp216)]) h0 rfl rfl ⟨z74 h0, z177 h0, z215 h0, z216 h0, trivial⟩ (fun _ => false) 60 hx
    unfold yAri
    have no : ∀ {a b : Int32}, c = a → mCnd .ne c b = false → a = b := fun e h => e.symm.trans (cNeF h)
    rcases hx with ⟨h1, hx⟩ | ⟨h1, _, _, ⟨rfl, rfl⟩, _, _, ⟨rfl, rfl⟩, hx⟩
    · rw [if_neg (show ¬ c = 1 from cNeT h1)]
      rcases hx with ⟨h2, hx⟩ | ⟨h2, _, _, ⟨rfl, rfl⟩, _, _, ⟨rfl, rfl⟩, hx⟩
      · rw [if_neg (show ¬ c = 2 from cNeT h2)]
        rcases hx with ⟨h3, hx⟩ | ⟨h3, _, _, ⟨rfl, rfl⟩, hx⟩
        · rw [if_neg (show ¬ c = 3 from cNeT h3)]
          rcases hx with ⟨h4, hx⟩ | ⟨h4, _, _, ⟨rfl, rfl⟩, hx⟩
          · rw [if_neg (show ¬ c = 4 from cNeT h4)]; exact hx
          · rw [if_pos (show c = 4 from cNeF h4)]; exact hx
        · rw [if_pos (show c = 3 from cNeF h3)]
          rcases hx with ⟨h4, hx⟩ | ⟨h4, hx⟩
          · exact hx
          · exact absurd (no (cNeF h3) h4) (by decide)
      · rw [if_pos (show c = 2 from cNeF h2)]
        rcases hx with ⟨h3, hx⟩ | ⟨h3, hx⟩
        · rcases hx with ⟨h4, hx⟩ | ⟨h4, hx⟩
          · exact hx
          · exact absurd (no (cNeF h2) h4) (by decide)
        · exact absurd (no (cNeF h2) h3) (by decide)
    · rw [if_pos (show c = 1 from cNeF h1)]
      rcases hx with ⟨h2, hx⟩ | ⟨h2, hx⟩
      · rcases hx with ⟨h3, hx⟩ | ⟨h3, hx⟩
        · rcases hx with ⟨h4, hx⟩ | ⟨h4, hx⟩
          · exact hx
          · exact absurd (no (cNeF h1) h4) (by decide)
        · exact absurd (no (cNeF h1) h3) (by decide)
      · exact absurd (no (cNeF h1) h2) (by decide)
  · cases hs
theorem z173 (h0 : zC0 c0) : zSp c0 v5 173 sp173 := by
  intro d n as σ cs r hs hx
  unfold sp173 at hs
  split at hs
  · rename_i i f w
    cases hs
    obtain ⟨d', hx⟩ := zGo hx
    refine ⟨_, _, ⟨rfl, rfl⟩, ?_⟩
    replace hx := zTr (C := nC173) (tb := [(169, sp169), (74, sp74)]) h0 rfl rfl ⟨z169 h0, z74 h0, trivial⟩ (fun _ => false) 60 hx
    unfold yCmp
    obtain ⟨_, _, _, ⟨rfl, rfl⟩, _, _, ⟨rfl, rfl⟩, _, _, ⟨rfl, rfl⟩, _, _, ⟨rfl, rfl⟩, hx⟩ := hx
    rcases hx with ⟨h1, ⟨h2, hx⟩ | ⟨h2, hx⟩⟩ | ⟨h1, hx⟩
    · rw [if_neg (cGeT h1), if_neg (cLeT h2)]; exact hx
    · rw [if_neg (cGeT h1), if_pos (cLeF h2)]; exact hx
    · rw [if_pos (cGeF h1)]; exact hx
  · cases hs
end RC
