/-! LOOPS AS FUNCTIONS -/
/-- the first place from a on, before e, where p does not hold -/
def zScF (p : Int32 → Bool) (e : Int32) : Nat → Int32 → Int32
  | 0, a => a
  | n + 1, a => if a < e ∧ p a = true then zScF p e n (a + 1) else a
def zSc (p : Int32 → Bool) (e a : Int32) : Int32 := zScF p e (e.toInt - a.toInt).toNat a
theorem zInc {a e : Int32} (h : a < e) : (a + 1).toInt = a.toInt + 1 := by
  have h1 := Int32.lt_iff_toInt_lt.mp h
  have h2 := e.toInt_lt
  have e1 : (1 : Int32).toInt = 1 := rfl
  have h3 := a.le_toInt
  rw [rAdd_ok (by rw [e1]; unfold rI0; omega) (by rw [e1]; unfold rI1; omega), e1]
theorem zSc_step (p : Int32 → Bool) (e a : Int32) : zSc p e a = if a < e ∧ p a = true then zSc p e (a + 1) else a := by
  unfold zSc
  by_cases h : a < e
  · have h1 := Int32.lt_iff_toInt_lt.mp h
    rw [show (e.toInt - a.toInt).toNat = (e.toInt - (a + 1).toInt).toNat + 1 by rw [zInc h]; omega]
    rfl
  · have h1 : ¬ a.toInt < e.toInt := fun h2 => h (Int32.lt_iff_toInt_lt.mpr h2)
    rw [show (e.toInt - a.toInt).toNat = 0 by omega, if_neg (fun h2 => h h2.1)]
    rfl
theorem zSc_stop {p : Int32 → Bool} {e a : Int32} (h : ¬ (a < e ∧ p a = true)) : zSc p e a = a := by rw [zSc_step, if_neg h]
theorem zSc_go {p : Int32 → Bool} {e a : Int32} (h1 : a < e) (h2 : p a = true) : zSc p e a = zSc p e (a + 1) := by
  conv => lhs; rw [zSc_step, if_pos ⟨h1, h2⟩]
/-- what holds of every scan: by as many steps as there are places -/
theorem zSc_ind {p : Int32 → Bool} {e : Int32} {M : Int32 → Int32 → Prop} (h1 : ∀ a, ¬ (a < e ∧ p a = true) → M a a) (h2 : ∀ a b, a < e → p a = true → M (a + 1) b → M a b) : ∀ a, M a (zSc p e a) := by
  have key : ∀ (n : Nat) (a : Int32), (e.toInt - a.toInt).toNat = n → M a (zSc p e a) := by
    intro n
    induction n with
    | zero =>
      intro a ha
      rw [zSc_step, if_neg (fun h => by have := Int32.lt_iff_toInt_lt.mp h.1; omega)]
      exact h1 a (fun h => by have := Int32.lt_iff_toInt_lt.mp h.1; omega)
    | succ n ih =>
      intro a ha
      rw [zSc_step]
      split
      · rename_i h
        exact h2 a _ h.1 h.2 (ih _ (by rw [zInc h.1]; omega))
      · rename_i h
        exact h1 a h
  exact fun a => key _ a rfl
theorem zSc_le (p : Int32 → Bool) (e a : Int32) : a.toInt ≤ (zSc p e a).toInt ∧ ((zSc p e a).toInt ≤ e.toInt ∨ zSc p e a = a) ∧ ((zSc p e a).toInt < e.toInt → p (zSc p e a) = false) := by
  refine zSc_ind (M := fun a b => a.toInt ≤ b.toInt ∧ (b.toInt ≤ e.toInt ∨ b = a) ∧ (b.toInt < e.toInt → p b = false)) (fun a h => ⟨Int.le_refl _, Or.inr rfl, fun hl => ?_⟩) (fun a b h hp hm => ?_) a
  · cases hp : p a with
    | false => rfl
    | true => exact absurd ⟨Int32.lt_iff_toInt_lt.mpr hl, hp⟩ h
  · have h1 := zInc h
    have h2 := Int32.lt_iff_toInt_lt.mp h
    refine ⟨by omega, Or.inl ?_, hm.2.2⟩
    rcases hm.2.1 with h3 | rfl
    · exact h3
    · omega
theorem zSc_all {p : Int32 → Bool} {e a k : Int32} (h1 : a.toInt ≤ k.toInt) (h2 : k.toInt < (zSc p e a).toInt) : p k = true := by
  refine zSc_ind (p := p) (e := e) (M := fun a b => ∀ k : Int32, a.toInt ≤ k.toInt → k.toInt < b.toInt → p k = true) (fun a h k h1 h2 => by omega) (fun a b h hp hm k h1 h2 => ?_) a k h1 h2
  by_cases he : k.toInt = a.toInt
  · rw [Int32.toInt_inj.mp he]; exact hp
  · exact hm k (by rw [zInc h]; omega) h2
/-- two rows that are alike there are scanned alike -/
theorem zSc_congr {p q : Int32 → Bool} {e : Int32} (a : Int32) (h : ∀ k, a.toInt ≤ k.toInt → k < e → p k = q k) : zSc p e a = zSc q e a := by
  have key : ∀ (n : Nat) (a : Int32), (e.toInt - a.toInt).toNat = n → (∀ k, a.toInt ≤ k.toInt → k < e → p k = q k) → zSc p e a = zSc q e a := by
    intro n
    induction n with
    | zero =>
      intro a ha _
      have hn : ¬ a < e := fun h => by have := Int32.lt_iff_toInt_lt.mp h; omega
      rw [zSc_step p, if_neg (fun h => hn h.1), zSc_step q, if_neg (fun h => hn h.1)]
    | succ n ih =>
      intro a ha hk
      rw [zSc_step p, zSc_step q]
      by_cases hl : a < e
      · rw [hk a (Int.le_refl _) hl]
        split
        · have h1 := zInc hl
          exact ih _ (by omega) (fun k h2 h3 => hk k (by omega) h3)
        · rfl
      · rw [if_neg (fun h => hl h.1), if_neg (fun h => hl h.1)]
  exact key _ a rfl h
section ZU
variable {α : Type} {σ : zS}
theorem u2_u2 (f : Nat → Nat → α) (k i : Nat) (x y : α) : u2 (u2 f k i x) k i y = u2 f k i y := by
  funext a b
  unfold u2
  cases (a.beq k && b.beq i) <;> rfl
theorem u2_self (f : Nat → Nat → α) (k i : Nat) : u2 f k i (f k i) = f := by
  funext a b
  by_cases h : a = k ∧ b = i
  · obtain ⟨rfl, rfl⟩ := h
    exact u2_eq _ _ _ _
  · exact u2_ne _ _ h
theorem zI_zI (k i : Nat) (x y : Int32) : zI (zI σ k i x) k i y = zI σ k i y := by
  unfold zI
  rw [u2_u2]
theorem zI_self (k i : Nat) : zI σ k i (σ.1 k i) = σ := by
  unfold zI
  rw [u2_self]
end ZU
