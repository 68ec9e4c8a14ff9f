/-! THE MACHINE WITH RANGES IS SOUND: the heap -/
/-- is the byte number k a character of a text; how many are, one behind the other -/
def rGk (E : Int64) (k : Nat) : Bool := decide (((E >>> Int64.ofNat (8 * k)) &&& 255).toInt = 10) || (decide (32 ≤ ((E >>> Int64.ofNat (8 * k)) &&& 255).toInt) && decide (((E >>> Int64.ofNat (8 * k)) &&& 255).toInt ≤ 126))
def rGb (E : Int64) : Nat := ((List.range 8).takeWhile (rGk E)).length
/-- what stands at places of an array -/
def rMe (f : Nat → Int32) : List Value → Prop
  | [] => True
  | .int i :: .int v :: r => (0 ≤ i.toInt ∧ i.toInt < 240 ∧ f i.toInt.toNat = v) ∧ rMe f r
  | _ => False
/-- objects; and arrays of which more is told: 1000, 1001, 1003 as above; 1002: the script, with the five numbers of a call and its eight characters -/
def rOb (ci : Nat) (gs : List Value) (c : mC) : Prop :=
  if ci < 1000 then c = some (.inr (ci, gs))
  else if ci = 1000 then ∃ f : Nat → Int32, c = some (.inl (0, 240, .inl f)) ∧ rMe f gs
  else if ci = 1001 then ∃ (f : Nat → Int32) (b v : Int32), gs = [.int b, .int v] ∧ c = some (.inl (0, 60, .inl f)) ∧ 0 ≤ b.toInt ∧ b.toInt ≤ 60 ∧ (∀ j : Nat, (j : Int) < b.toInt → 0 ≤ (f j).toInt ∧ (f j).toInt ≤ 199) ∧ (b.toInt < 60 → f b.toInt.toNat = v)
  else if ci = 1003 then ∃ f : Nat → Int32, c = some (.inl (7, gs.length, .inl f)) ∧ ∀ (j : Nat) (v : Value), gs[j]? = some v → v = .int (f j)
  else if ci = 1004 then ∃ (f : Nat → Int64) (x : Int32), gs = [.int x] ∧ c = some (.inl (1, 1, .inr (.inl f))) ∧ f 0 = x.toInt64
  else ∃ (L : Nat) (f : Nat → Int32) (b x0 x1 x2 x3 x4 : Int32), c = some (.inl (4, L, .inl f)) ∧ L ≤ 10000 ∧ 0 ≤ b.toInt ∧ b.toInt + 5 ≤ L ∧ f b.toInt.toNat = x0 ∧ f (b.toInt.toNat + 1) = x1 ∧ f (b.toInt.toNat + 2) = x2 ∧ f (b.toInt.toNat + 3) = x3 ∧ f (b.toInt.toNat + 4) = x4 ∧ gs = [.int (Int32.ofNat L), .int b, .int x0, .int x1, .int x2, .int x3, .int x4, .long ((x1.toInt64 <<< 32) ||| (x2.toInt64 &&& 4294967295)), .int (Int32.ofNat (rGb ((x1.toInt64 <<< 32) ||| (x2.toInt64 &&& 4294967295))))]
def rCr (ρ : List Int) (a : rC) (c : mC) : Prop := match a with
  | none => True
  | some (.inr (ci, fs)) => ∃ gs, rEs ρ fs = some gs ∧ rOb ci gs c
  | some (.inl (k, n, l, u)) => if k = 1 then ∃ f : Nat → Int64, c = some (.inl (1, n, .inr (.inl f))) ∧ ∀ j, j < n → l ≤ (f j).toInt ∧ (f j).toInt ≤ u
    else if k = 6 then ∃ f : Nat → Option Nat, c = some (.inl (6, n, .inr (.inr (.inr (.inr f))))) ∧ ∀ j, j < n → f j = some (l.toNat + j)
    else ∃ f : Nat → Int32, c = some (.inl (k, n, .inl f)) ∧ ∀ j, j < n → l ≤ (f j).toInt ∧ (f j).toInt ≤ u
/-- nothing is known of a cell -/
def rNo (l : List rC) (i : Nat) : Prop := rGt l i = none ∨ rGt l i = some none
/-- the heap: of cells of which nothing is known: they are as in c0 -/
def rHr (c0 : mH) (ρ : List Int) (h : rH) (hc : mH) : Prop := (∃ x : Int32, rE ρ h.2 = some (.int x) ∧ 0 ≤ x.toInt ∧ (hc.length : Int) = 206 + x.toInt) ∧ (∀ (i : Nat) (a : rC), rGt h.1 i = some a → ∃ c, hc[i]? = some c ∧ rCr ρ a c) ∧ (∀ i : Nat, i < 206 → rNo h.1 i → hc[i]? = c0[i]?) ∧ h.1.length ≤ 206
theorem rX_inj {i j : Nat} (h : rX' i = rX' j) : i = j := by
  unfold rX' at h
  split at h <;> split at h <;> (try split at h) <;> (try split at h) <;> omega
theorem rX_lt {l : List rC} (hl : l.length ≤ 206) {i : Nat} {a : rC} (h : rGt l i = some a) : i < 206 := by
  unfold rGt at h
  have := (List.getElem?_eq_some_iff.mp h).1
  unfold rX' at this
  split at this
  · omega
  · split at this <;> omega
theorem rGt_set {l : List rC} {i j : Nat} {x : rC} : rGt (l.set (rX' i) x) j = if i = j then (if rX' i < l.length then some x else none) else rGt l j := by
  unfold rGt
  rw [List.getElem?_set]
  by_cases h : i = j
  · subst h
    rw [if_pos rfl, if_pos rfl]
  · rw [if_neg h, if_neg (fun k => h (rX_inj k))]
section RH
variable {ρ : List Int} {fs : rF} {c0 : mH}
theorem rCr_ext {a : rC} {c : mC} (e : List Int) (h : rCr ρ a c) : rCr (ρ ++ e) a c := by
  match a, h with
  | none, _ => trivial
  | some (.inr (ci, fs)), ⟨gs, h1, h2⟩ => exact ⟨gs, rEs_ext e h1, h2⟩
  | some (.inl (k, n, l, u)), h => exact h
theorem rHr_ext {h : rH} {hc : mH} (e : List Int) (hh : rHr c0 ρ h hc) : rHr c0 (ρ ++ e) h hc := by
  obtain ⟨⟨x, h1, h2⟩, h3, h4⟩ := hh
  refine ⟨⟨x, rE_ext e h1, h2⟩, fun i a ha => ?_, h4⟩
  obtain ⟨c, c1, c2⟩ := h3 i a ha
  exact ⟨c, c1, rCr_ext e c2⟩
theorem rEs_get : ∀ {l g : List Value} {k : Nat} {v : Value}, rEs ρ l = some g → l[k]? = some v → ∃ c, g[k]? = some c ∧ rE ρ v = some c
  | [], _, _, _, _, h => by cases h
  | w :: r, g, 0, v, hl, h => by
    obtain ⟨c, l', h1, h2, rfl⟩ := rEs_cons hl
    cases h
    exact ⟨c, rfl, h1⟩
  | w :: r, g, k + 1, v, hl, h => by
    obtain ⟨c, l', h1, h2, rfl⟩ := rEs_cons hl
    rw [List.getElem?_cons_succ] at h ⊢
    exact rEs_get h2 h
theorem rEs_set : ∀ {l g : List Value} {k : Nat} {v c : Value}, rEs ρ l = some g → rE ρ v = some c → rEs ρ (l.set k v) = some (g.set k c)
  | [], g, _, _, _, hl, _ => by cases hl; rfl
  | w :: r, g, 0, v, c, hl, hv => by
    obtain ⟨d, l', h1, h2, rfl⟩ := rEs_cons hl
    exact rEs_mk hv h2
  | w :: r, g, k + 1, v, c, hl, hv => by
    obtain ⟨d, l', h1, h2, rfl⟩ := rEs_cons hl
    exact rEs_mk h1 (rEs_set h2 hv)
theorem rCr.obj {ci : Nat} {gs : List Value} {c : mC} (hci : ci < 1000) (h : rCr ρ (some (.inr (ci, gs))) c) : ∃ g, rEs ρ gs = some g ∧ c = some (.inr (ci, g)) := by
  obtain ⟨g, h1, h2⟩ := h
  unfold rOb at h2
  rw [if_pos hci] at h2
  exact ⟨g, h1, h2⟩
theorem rCr.mobj {ci : Nat} {gs g : List Value} (hci : ci < 1000) (h : rEs ρ gs = some g) : rCr ρ (some (.inr (ci, gs))) (some (.inr (ci, g))) := ⟨g, h, by unfold rOb; rw [if_pos hci]⟩
theorem rCr.lng {n : Nat} {l u : Int} {c : mC} (h : rCr ρ (some (.inl (1, n, l, u))) c) : ∃ f : Nat → Int64, c = some (.inl (1, n, .inr (.inl f))) ∧ ∀ j, j < n → l ≤ (f j).toInt ∧ (f j).toInt ≤ u := h
theorem rCr.rfs {n : Nat} {l u : Int} {c : mC} (h : rCr ρ (some (.inl (6, n, l, u))) c) : ∃ f : Nat → Option Nat, c = some (.inl (6, n, .inr (.inr (.inr (.inr f))))) ∧ ∀ j, j < n → f j = some (l.toNat + j) := h
theorem rCr.int {k n : Nat} {l u : Int} {c : mC} (h1 : ¬ k = 1) (h6 : ¬ k = 6) (h : rCr ρ (some (.inl (k, n, l, u))) c) : ∃ f : Nat → Int32, c = some (.inl (k, n, .inl f)) ∧ ∀ j, j < n → l ≤ (f j).toInt ∧ (f j).toInt ≤ u := by
  unfold rCr at h
  dsimp only at h
  rw [if_neg h1, if_neg h6] at h
  exact h
theorem rCr.mint {k n : Nat} {l u : Int} {f : Nat → Int32} (h1 : ¬ k = 1) (h6 : ¬ k = 6) (h : ∀ j, j < n → l ≤ (f j).toInt ∧ (f j).toInt ≤ u) : rCr ρ (some (.inl (k, n, l, u))) (some (.inl (k, n, .inl f))) := by
  unfold rCr
  dsimp only
  rw [if_neg h1, if_neg h6]
  exact ⟨f, rfl, h⟩
theorem rHr.set {h : rH} {hc : mH} (hh : rHr c0 ρ h hc) {a' b' : (Nat × Nat × Int × Int) ⊕ (Nat × List Value)} {c : mC} (i : Nat) (hi : rGt h.1 i = some (some b')) (hr : rCr ρ (some a') c) : rHr c0 ρ (h.1.set (rX' i) (some a'), h.2) (hc.set i c) := by
  obtain ⟨⟨x, h1, h0, h2⟩, h3, h4, h5⟩ := hh
  have hlt : rX' i < h.1.length := (List.getElem?_eq_some_iff.mp hi).1
  refine ⟨⟨x, h1, h0, by rw [List.length_set]; exact h2⟩, fun j b hb => ?_, fun j hj hn => ?_, by dsimp only; rw [List.length_set]; exact h5⟩
  · dsimp only at hb
    rw [rGt_set] at hb
    rw [List.getElem?_set]
    by_cases hij : i = j
    · subst hij
      rw [if_pos rfl, if_pos hlt] at hb
      cases hb
      obtain ⟨c', c1, -⟩ := h3 _ _ hi
      rw [if_pos rfl, if_pos (List.getElem?_eq_some_iff.mp c1).1]
      exact ⟨c, rfl, hr⟩
    · rw [if_neg hij] at hb ⊢
      exact h3 j b hb
  · have hij : ¬ i = j := fun e => by
      subst e
      unfold rNo at hn
      dsimp only at hn
      rw [rGt_set, if_pos rfl, if_pos hlt] at hn
      rcases hn with hn | hn <;> cases hn
    rw [List.getElem?_set, if_neg hij]
    refine h4 j hj ?_
    unfold rNo at hn ⊢
    dsimp only at hn
    rw [rGt_set, if_neg hij] at hn
    exact hn
theorem rIn_lt {i : Int32} {n : Nat} (h : mIn i n = true) : i.toNatClampNeg < n := by
  unfold mIn at h
  rw [Bool.and_eq_true, decide_eq_true_eq] at h
  exact h.2
theorem rIx_ok (hO : rOk ρ fs) {n : Nat} {x c : Value} (hc : rE ρ x = some c) (h : rIx fs n x = true) : ∃ i, c = .int i ∧ mIn i n = true := by
  unfold rIx at h
  split at h
  · rename_i q hq
    obtain ⟨i, rfl, h1, h2⟩ := rRg_ok hO hq hc
    refine ⟨i, rfl, ?_⟩
    rw [Bool.and_eq_true, decide_eq_true_eq, decide_eq_true_eq] at h
    unfold mIn
    rw [Bool.and_eq_true, decide_eq_true_eq, Bool.not_eq_true', decide_eq_false_iff_not, Int32.lt_iff_toInt_lt]
    have e : i.toNatClampNeg = i.toInt.toNat := rfl
    have z : (0 : Int32).toInt = 0 := rfl
    rw [e, z]
    omega
  · cases h
theorem rHull_ok {h : rH} {hc : mH} (hh : rHr c0 ρ h hc) {ci k : Nat} : ∀ (n a : Nat) (q : Int × Int), rHull h.1 ci k n a = some q → ∀ z, a ≤ z → z < a + n → ∃ gs x, hc[z]? = some (some (.inr (ci, gs))) ∧ gs[k]? = some (.int x) ∧ q.1 ≤ x.toInt ∧ x.toInt ≤ q.2
  | 0, a, q, hq, z, h1, h2 => by cases hq
  | n + 1, a, q, hq, z, h1, h2 => by
    unfold rHull at hq
    split at hq
    · rename_i c gs hcell
      split at hq
      · rename_i hci
        split at hq
        · rename_i x hx
          have here : z = a → q.1 ≤ x.toInt → x.toInt ≤ q.2 → ∃ gs x, hc[z]? = some (some (.inr (ci, gs))) ∧ gs[k]? = some (.int x) ∧ q.1 ≤ x.toInt ∧ x.toInt ≤ q.2 := fun hz g1 g2 => by
            obtain ⟨cc, c1, c2⟩ := hh.2.1 _ _ hcell
            obtain ⟨g, e1, e2⟩ := c2.obj hci.2
            obtain ⟨d, d1, d2⟩ := rEs_get e1 hx
            cases d2
            rw [e2, hci.1] at c1
            exact ⟨g, x, by rw [hz]; exact c1, d1, g1, g2⟩
          split at hq
          · rename_i hn
            cases hq
            exact here (by omega) (Int.le_refl _) (Int.le_refl _)
          · split at hq
            · rename_i p hp
              cases hq
              by_cases hz : z = a
              · refine here hz ?_ ?_
                · show rMin x.toInt p.1 ≤ _
                  unfold rMin
                  split <;> omega
                · show _ ≤ rMax x.toInt p.2
                  unfold rMax
                  split <;> omega
              · obtain ⟨gs, y, y1, y2, y3, y4⟩ := rHull_ok hh n (a + 1) p hp z (by omega) (by omega)
                refine ⟨gs, y, y1, y2, ?_, ?_⟩
                · show rMin x.toInt p.1 ≤ _
                  unfold rMin
                  split <;> omega
                · show _ ≤ rMax x.toInt p.2
                  unfold rMax
                  split <;> omega
            · cases hq
        · cases hq
      · cases hq
    · cases hq
end RH
