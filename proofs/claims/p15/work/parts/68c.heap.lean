/-! HEAPS OF THE LAW: old cells, the form of the new ones -/
def oldP (a : Nat) : (Nat × Nat × Int × Int) ⊕ (Nat × List Value) := if a < 52 then .inr (13, [.ref (nSix (a - 2)), .int (nOp (a - 2)).2.2.1, .int (nOp (a - 2)).2.2.2]) else if a = 52 then .inl (6, 50, 2, 51) else if a = 53 then .inr (14, [.ref (nSix 50 + 1), .int 0]) else if a = 54 then .inr (1003, (nBy 50).map .int) else if (a - 55) % 2 = 0 then .inr (14, [.ref (nSix ((a - 55) / 2) + 1), .int 0]) else .inr (1003, (nBy ((a - 55) / 2)).map .int)
def sEq (x y : (Nat × Nat × Int × Int) ⊕ (Nat × List Value)) : Bool := match x, y with
  | .inl a, .inl b => decide (a = b)
  | .inr a, .inr b => decide (a.1 = b.1) && decide (a.2 = b.2)
  | _, _ => false
theorem sEq_ok {x y : (Nat × Nat × Int × Int) ⊕ (Nat × List Value)} (h : sEq x y = true) : x = y := by
  unfold sEq at h
  split at h
  · rw [of_decide_eq_true h]
  · rename_i a b
    rw [Bool.and_eq_true, decide_eq_true_eq, decide_eq_true_eq] at h
    exact congrArg Sum.inr (Prod.ext h.1 h.2)
  · cases h
def oldB (l : List rC) : Bool := (List.range 153).all (fun i => match rGt l (i + 2) with
  | some (some x) => sEq x (oldP (i + 2))
  | _ => false) && (match rGt l 1, rGt l 0, rGt l 155, rGt l 156, rGt l 157 with
  | some (some (.inl (4, 3, _, _))), some (some (.inr (1002, _))), some none, some none, some none => true
  | _, _, _, _, _ => false)
section HP
variable {ρ : List Int} {c0 hc : mH} {h : rH}
theorem rOb1003 {gs : List Value} {c : mC} (h : rOb 1003 gs c) : ∃ f : Nat → Int32, c = some (.inl (7, gs.length, .inl f)) ∧ ∀ (j : Nat) (v : Value), gs[j]? = some v → v = .int (f j) := h
theorem rEs_i : ∀ l : List Int32, rEs ρ (l.map .int) = some (l.map .int)
  | [] => rfl
  | x :: r => rEs_mk rfl (rEs_i r)
theorem old_by {k : Nat} {c : mC} (hr : rCr ρ (some (.inr (1003, (nBy k).map .int))) c) : zEq c (nBa k) := by
  obtain ⟨gs, g1, g2⟩ := hr
  rw [rEs_i] at g1
  cases g1
  obtain ⟨f, f1, f2⟩ := rOb1003 g2
  rw [List.length_map] at f1
  refine .inr (.inl ⟨7, (nBy k).length, f, fun j => (nBy k).getD j 0, f1, rfl, fun j hj => ?_⟩)
  have e := f2 j (.int ((nBy k)[j])) (by rw [List.getElem?_map, List.getElem?_eq_getElem hj]; rfl)
  injection e with e
  rw [← e]
  simp [List.getD, hj]
theorem old_ok (hB : oldB h.1 = true) (hh : rHr c0 ρ h hc) {a : Nat} (h1 : 1 < a) (h2 : a < 155) : ∃ c, hc[a]? = some c ∧ zEq c (nCell 0 (fun _ => 0) a) := by
  unfold oldB at hB
  rw [Bool.and_eq_true, List.all_eq_true] at hB
  have hb := hB.1 (a - 2) (List.mem_range.mpr (by omega))
  rw [show a - 2 + 2 = a by omega] at hb
  split at hb
  · rename_i x hx
    rw [sEq_ok hb] at hx
    obtain ⟨c, c1, c2⟩ := hh.2.1 a _ hx
    refine ⟨c, c1, ?_⟩
    unfold oldP at c2
    unfold nCell
    rw [if_neg (by omega), if_neg (by omega)]
    by_cases k1 : a < 52
    · rw [if_pos k1] at c2 ⊢
      obtain ⟨g, g1, g2⟩ := c2.obj (by omega)
      cases g1
      exact .inl g2
    · rw [if_neg k1] at c2 ⊢
      by_cases k2 : a = 52
      · rw [if_pos k2] at c2 ⊢
        obtain ⟨f, f1, f2⟩ := rCr.rfs c2
        refine .inr (.inr ⟨6, 50, f, fun j => some (j + 2), f1, rfl, fun j hj => ?_⟩)
        rw [f2 j hj]
        show some ((2 : Int).toNat + j) = some (j + 2)
        rw [show (2 : Int).toNat = 2 from rfl, Nat.add_comm]
      · rw [if_neg k2] at c2 ⊢
        by_cases k3 : a = 53
        · rw [if_pos k3] at c2 ⊢
          obtain ⟨g, g1, g2⟩ := c2.obj (by omega)
          cases g1
          exact .inl g2
        · rw [if_neg k3] at c2 ⊢
          by_cases k4 : a = 54
          · rw [if_pos k4] at c2 ⊢
            exact old_by c2
          · rw [if_neg k4] at c2 ⊢
            rw [if_pos h2]
            by_cases k5 : (a - 55) % 2 = 0
            · rw [if_pos k5] at c2 ⊢
              obtain ⟨g, g1, g2⟩ := c2.obj (by omega)
              cases g1
              exact .inl g2
            · rw [if_neg k5] at c2 ⊢
              exact old_by c2
  · cases hb
theorem take_at {h : mH} {a : Nat} (ha : a < 158) : (h.take 158)[a]? = h[a]? := by
  rw [List.getElem?_take, if_pos ha]
/-- the old cells, out of the pattern -/
theorem old_c0 (hB : oldB h.1 = true) (hh : rHr c0 ρ h hc) (hz : zC0 (c0.take 158)) : zC0 (hc.take 158) := by
  have hB' := hB
  unfold oldB at hB'
  rw [Bool.and_eq_true] at hB'
  have hb := hB'.2
  have hh2 := hh
  obtain ⟨⟨x, _, x0, xl⟩, -, hno, -⟩ := hh2
  split at hb
  · rename_i l1 u1 g0 e1 e0 e5 e6 e7
    refine ⟨by rw [List.length_take]; omega, ?_, ?_, fun a h1 h2 => ?_⟩
    · obtain ⟨c, c1, c2⟩ := hh.2.1 0 _ e0
      obtain ⟨gs, _, g2⟩ := c2
      have g3 : ∃ (L : Nat) (f : Nat → Int32) (b x0 x1 x2 x3 x4 : Int32), c = some (.inl (4, L, .inl f)) ∧ _ := g2
      obtain ⟨L, f, _, _, _, _, _, _, g4, _⟩ := g3
      refine ⟨L, f, ?_⟩
      rw [take_at (by decide), c1, g4]
      rfl
    · obtain ⟨c, c1, c2⟩ := hh.2.1 1 _ e1
      obtain ⟨f, f1, _⟩ := rCr.int (by decide) (by decide) c2
      refine ⟨3, f, ?_⟩
      rw [take_at (by decide), c1, f1]
    · rw [take_at h2]
      by_cases k : a < 155
      · exact old_ok hB hh h1 k
      · have e : rNo h.1 a := by
          have : a = 155 ∨ a = 156 ∨ a = 157 := by omega
          rcases this with rfl | rfl | rfl
          · exact .inr e5
          · exact .inr e6
          · exact .inr e7
        rw [hno a (by omega) e]
        have := hz.2.2.2 a h1 h2
        rw [take_at h2] at this
        exact this
  · cases hb
end HP
