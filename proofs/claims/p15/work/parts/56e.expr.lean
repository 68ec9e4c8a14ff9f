/-! THE REFERENCE: atoms and expressions as functions -/
abbrev yH (τ : zS) (p : Int32) : Int32 := if p < yE τ then yT τ p.toNatClampNeg else -1
/-- an atom that is a name -/
def yNa (τ : zS) (p q : Int32) : Option (Int32 × Int32) := if yCap (yT τ) p (zDn p q) = false then (if 9 < q - p then none else some (yNv (yT τ) p (min (zDn p q) 9), q)) else if zLoc (yT τ) p q 66 then (if yBk τ (yT τ p.toNatClampNeg - 48) then some (zVal (τ.2.2.1 40 (yT τ p.toNatClampNeg - 48).toNatClampNeg), q) else none) else if yIs (yT τ) p q ∧ ¬ yFd τ (yNm τ p q) < 0 ∧ yHas τ (yFd τ (yNm τ p q)) then some (zVal (τ.2.2.1 37 (yFd τ (yNm τ p q)).toNatClampNeg), q) else none
def yA (τ : zS) (p : Int32) : Option (Int32 × Int32) := if yH τ p = 42 then (if yBd (yPl τ).toInt64 then some ((yPl τ).toInt64.toInt32, p + 1) else none) else if zRun (yT τ) (yE τ) p = p then none else yNa τ p (zRun (yT τ) (yE τ) p)
theorem yNa_ok {τ : zS} {p q x b : Int32} (h : yNaR τ p q x b) : (b = 0 ∧ yNa τ p q = some (x, q)) ∨ (¬ b = 0 ∧ yNa τ p q = none) := by
  unfold yNa
  rcases h with ⟨h1, rfl, ⟨h2, h3⟩ | ⟨h2, h3⟩⟩ | ⟨h1, h2, ⟨h3, h4⟩ | ⟨h3, h4, rfl⟩⟩ | ⟨h1, h2, ⟨h3, h4⟩ | ⟨h3, h4, rfl⟩⟩
  · rw [if_pos h1, if_pos h2]
    exact Or.inr ⟨h3, rfl⟩
  · rw [if_pos h1, if_neg h2]
    exact Or.inl ⟨h3, rfl⟩
  · rw [if_neg (fun h => Bool.noConfusion (h1.symm.trans h)), if_pos h2, if_neg h3]
    exact Or.inr ⟨h4, rfl⟩
  · rw [if_neg (fun h => Bool.noConfusion (h1.symm.trans h)), if_pos h2, if_pos h3]
    exact Or.inl ⟨h4, rfl⟩
  · rw [if_neg (fun h => Bool.noConfusion (h1.symm.trans h)), if_neg h2, if_neg h3]
    exact Or.inr ⟨h4, rfl⟩
  · rw [if_neg (fun h => Bool.noConfusion (h1.symm.trans h)), if_neg h2, if_pos h3]
    exact Or.inl ⟨h4, rfl⟩
theorem yA_ok {τ : zS} {x q b : Int32} (h : yAtR τ x q b) : (b = 0 ∧ yA τ (yP τ) = some (x, q)) ∨ (¬ b = 0 ∧ yA τ (yP τ) = none) := by
  unfold yA
  rcases h with ⟨h1, rfl, ⟨h2, rfl, h3⟩ | ⟨h2, h3⟩⟩ | ⟨h1, rfl, ⟨h2, h3⟩ | ⟨h2, h3⟩⟩
  · rw [if_pos h1, if_pos h2]
    exact Or.inl ⟨h3, rfl⟩
  · rw [if_pos h1, if_neg h2]
    exact Or.inr ⟨h3, rfl⟩
  · rw [if_neg h1, if_pos h2]
    exact Or.inr ⟨h3, rfl⟩
  · rw [if_neg h1, if_neg h2]
    exact yNa_ok h3
theorem yNa_q {τ : zS} {p q : Int32} {b : Int32 × Int32} (h : yNa τ p q = some b) : b.2 = q := by
  unfold yNa at h
  split at h
  · split at h
    · cases h
    · cases h; rfl
  · split at h
    · split at h
      · cases h; rfl
      · cases h
    · split at h
      · cases h; rfl
      · cases h
theorem yH_lt {τ : zS} {p c : Int32} (h : yH τ p = c) (hc : ¬ c = -1) : p < yE τ ∧ yT τ p.toNatClampNeg = c := by
  by_cases hl : p < yE τ
  · have h' : yH τ p = yT τ p.toNatClampNeg := if_pos hl
    exact ⟨hl, h'.symm.trans h⟩
  · have h' : yH τ p = -1 := if_neg hl
    exact absurd (h.symm.trans h') hc
theorem yA_ge {τ : zS} (p : Int32) (b : Int32 × Int32) (h : yA τ p = some b) : p.toInt ≤ b.2.toInt ∧ b.2.toInt ≤ (yE τ).toInt := by
  unfold yA at h
  split at h
  · rename_i h1
    have hl := (yH_lt h1 (by decide)).1
    split at h
    · cases h
      have h2 := zInc hl
      have h3 := Int32.lt_iff_toInt_lt.mp hl
      dsimp only
      omega
    · cases h
  · split at h
    · cases h
    · rename_i h2
      rw [yNa_q h]
      obtain ⟨g1, g2, -⟩ := zSc_le (fun k => zPb (yT τ k.toNatClampNeg)) (yE τ) p
      exact ⟨g1, g2.elim id (fun h => absurd h h2)⟩
/-- an operator's doing -/
def yCv (v c b : Int32) : Int64 := if c = 43 then v.toInt64 + b.toInt64 else if c = 45 then v.toInt64 - b.toInt64 else if c = 42 then v.toInt64 * b.toInt64 else if c = 47 then (v / b).toInt64 else 8 * v.toInt64 + b.toInt64
def yCb (v c b : Int32) : Option Int32 := if c = 47 ∧ b = 0 then none else if yBd (yCv v c b) then some (yCv v c b).toInt32 else none
def yLoopF (A : Int32 → Option (Int32 × Int32)) (T : Nat → Int32) (e : Int32) : Nat → Int32 → Int32 → Option (Int32 × Int32)
  | 0, v, p => some (v, p)
  | f + 1, v, p => if p < e ∧ zOpr (T p.toNatClampNeg) then (match A (p + 1) with
    | none => none
    | some b => match yCb v (T p.toNatClampNeg) b.1 with
      | none => none
      | some x => yLoopF A T e f x b.2) else some (v, p)
def yLoop (A : Int32 → Option (Int32 × Int32)) (T : Nat → Int32) (e : Int32) (v : Int32) (p : Int32) : Option (Int32 × Int32) := yLoopF A T e (e.toInt - p.toInt).toNat v p
section SL
variable {A : Int32 → Option (Int32 × Int32)} {T : Nat → Int32} {e : Int32}
theorem yLoopF_fuel (hA : ∀ p b, A p = some b → p.toInt ≤ b.2.toInt) : ∀ (f f' : Nat) (v : Int32) (p : Int32), (e.toInt - p.toInt).toNat ≤ f → (e.toInt - p.toInt).toNat ≤ f' → yLoopF A T e f v p = yLoopF A T e f' v p
  | 0, 0, v, p, _, _ => rfl
  | 0, f' + 1, v, p, h, _ => by
    have hn : ¬ p < e := fun h' => by have := Int32.lt_iff_toInt_lt.mp h'; omega
    unfold yLoopF
    rw [if_neg (fun h' => hn h'.1)]
  | f + 1, 0, v, p, _, h => by
    have hn : ¬ p < e := fun h' => by have := Int32.lt_iff_toInt_lt.mp h'; omega
    unfold yLoopF
    rw [if_neg (fun h' => hn h'.1)]
  | f + 1, f' + 1, v, p, h, h' => by
    unfold yLoopF
    by_cases hc : p < e ∧ zOpr (T p.toNatClampNeg)
    · rw [if_pos hc, if_pos hc]
      cases hb : A (p + 1) with
      | none => rfl
      | some b =>
        dsimp only
        cases yCb v (T p.toNatClampNeg) b.1 with
        | none => rfl
        | some x =>
          have h1 := hA _ _ hb
          have h2 := zInc hc.1
          have h3 := Int32.lt_iff_toInt_lt.mp hc.1
          exact yLoopF_fuel hA f f' x b.2 (by omega) (by omega)
    · rw [if_neg hc, if_neg hc]
theorem yLoop_stop {v : Int32} {p : Int32} (h : ¬ (p < e ∧ zOpr (T p.toNatClampNeg))) : yLoop A T e v p = some (v, p) := by
  unfold yLoop
  cases (e.toInt - p.toInt).toNat with
  | zero => rfl
  | succ f => unfold yLoopF; rw [if_neg h]
theorem yLoop_go (hA : ∀ p b, A p = some b → p.toInt ≤ b.2.toInt) {v : Int32} {p : Int32} (h : p < e) (ho : zOpr (T p.toNatClampNeg)) : yLoop A T e v p = (match A (p + 1) with
    | none => none
    | some b => match yCb v (T p.toNatClampNeg) b.1 with
      | none => none
      | some x => yLoop A T e x b.2) := by
  have h3 := Int32.lt_iff_toInt_lt.mp h
  unfold yLoop
  obtain ⟨f, hf⟩ : ∃ f, (e.toInt - p.toInt).toNat = f + 1 := ⟨(e.toInt - p.toInt).toNat - 1, by omega⟩
  rw [hf]
  conv => lhs; unfold yLoopF
  rw [if_pos ⟨h, ho⟩]
  cases hb : A (p + 1) with
  | none => rfl
  | some b =>
    dsimp only
    cases yCb v (T p.toNatClampNeg) b.1 with
    | none => rfl
    | some x =>
      have h1 := hA _ _ hb
      have h2 := zInc h
      exact yLoopF_fuel hA f _ x b.2 (by omega) (Nat.le_refl _)
end SL
/-- an expression -/
def yEx (τ : zS) (p : Int32) : Option (Int32 × Int32) := if yH τ p = 45 then (match yA τ (p + 1) with
  | none => none
  | some b => yLoop (yA τ) (yT τ) (yE τ) (-b.1) b.2) else (match yA τ (if yH τ p = 43 then p + 1 else p) with
  | none => none
  | some b => yLoop (yA τ) (yT τ) (yE τ) b.1 b.2)
/-- a number that the text says, or wrong -/
abbrev yTo (τ : zS) (F : Option (Int32 × Int32)) : zCs := fun o σ' => ∃ x q b, o = .inl (some (.int x)) ∧ zPb2 τ q b = σ' ∧ (¬ yB τ = 0 → ¬ b = 0) ∧ (yB τ = 0 → (yP τ).toInt ≤ 1000 ∧ (yE τ).toInt ≤ 240 → (b = 0 ∧ F = some (x, q)) ∨ (¬ b = 0 ∧ F = none))
abbrev sp149 (as : List Value) (σ : zS) : Option zCs := match as with
  | [.ref 183] => some (yTo σ (yEx σ (yP σ)))
  | _ => none
theorem zPb2_2 (τ : zS) (p b p' b' : Int32) : zPb2 (zPb2 τ p b) p' b' = zPb2 τ p' b' := by
  unfold zPb2 zI
  dsimp only
  have e : ∀ f : Nat → Nat → Int32, u2 (u2 (u2 (u2 f 25 21 p) 25 23 b) 25 21 p') 25 23 b' = u2 (u2 f 25 21 p') 25 23 b' := by
    intro f
    funext k i
    unfold u2
    cases (k.beq 25 && i.beq 21) <;> cases (k.beq 25 && i.beq 23) <;> rfl
  rw [e]
theorem zPb2_self (τ : zS) : zPb2 τ (yP τ) (yB τ) = τ := by
  unfold zPb2
  rw [zI_self]
  exact zI_self 25 23
theorem zPb2_p (τ : zS) (p : Int32) : zI τ 25 21 p = zPb2 τ p (yB τ) := (zI_self (σ := zI τ 25 21 p) 25 23).symm
