/-! THE STATE OF BOTH OBJECTS AS FUNCTIONS: object k (cell 158 + k) has int fields s k i, long fields l k i; array k has contents a k or b k; q: the operation at hand; g: what was thrown -/
abbrev zS : Type := (Nat → Nat → Int32) × (Nat → Nat → Int64) × (Nat → Nat → Int32) × (Nat → Nat → Int64) × Nat × List Nat
def u2 {α : Type} (f : Nat → Nat → α) (k i : Nat) (x : α) : Nat → Nat → α := fun k' i' => cond (k'.beq k && i'.beq i) x (f k' i')
def u1 {α : Type} (f : Nat → α) (k : Nat) (x : α) : Nat → α := fun k' => cond (k'.beq k) x (f k')
/-- the cells: an object (its class; fields: 0 int, 1 boolean, 2 long, 3 the operation, r + 4 the cell r) or an array (kind, length) -/
def zTab : List ((Nat × List Nat) ⊕ (Nat × Nat)) := [.inl (0, [163, 164, 169, 171, 173]), .inr (0, 200), .inl (1, [163, 165, 166, 167, 168, 0, 0, 0, 0]), .inr (0, 60), .inr (0, 24), .inr (0, 48), .inr (0, 3), .inl (2, [163, 164, 170, 1, 0, 0, 0, 0, 0, 0, 0, 0, 0, 0, 0]), .inr (0, 9), .inl (3, [172, 0, 0, 0, 0, 0, 2, 0, 0, 0]), .inr (2, 240), .inl (4, [171, 174, 177, 180, 184, 185, 186, 0, 0, 0, 1, 0, 0, 0, 0, 3, 0, 0]), .inl (5, [175, 176, 0]), .inr (1, 30), .inr (0, 30), .inl (5, [178, 179, 0]), .inr (1, 30), .inr (0, 30), .inl (6, [181, 182, 183, 0]), .inr (0, 60), .inr (0, 60), .inr (0, 60), .inr (0, 200), .inr (0, 20), .inr (0, 10), .inl (7, [0, 188, 189, 1, 1, 0, 0, 0, 0, 0, 0, 190, 0, 0, 191, 0, 192, 193, 0, 194, 0, 0, 0, 1, 0, 0, 1, 195, 196, 0, 197, 198, 199, 0, 200, 201, 202, 0, 203, 204, 205, 206, 0, 207, 208]), .inr (0, 200), .inr (0, 9), .inr (0, 60), .inr (0, 24), .inr (0, 48), .inr (0, 3), .inr (0, 240), .inr (0, 200), .inr (3, 200), .inr (1, 30), .inr (3, 30), .inr (0, 30), .inr (0, 20), .inr (3, 10), .inr (0, 10), .inr (0, 60), .inr (0, 60), .inr (0, 60), .inr (3, 60), .inr (1, 30), .inr (0, 30), .inr (1, 1)]
def zV (σ : zS) (k i kd : Nat) : Value := match kd with
  | 0 => .int (σ.1 k i)
  | 1 => .int (σ.1 k i)
  | 2 => .long (σ.2.1 k i)
  | 3 => .ref σ.2.2.2.2.1
  | r + 4 => .ref r
def zVs (σ : zS) (k : Nat) : Nat → List Nat → List Value
  | _, [] => []
  | i, kd :: r => zV σ k i kd :: zVs σ k (i + 1) r
def zCl0 (σ : zS) (k : Nat) (t : Option ((Nat × List Nat) ⊕ (Nat × Nat))) : mC := match t with
  | some (.inl (ci, ks)) => some (.inr (ci, zVs σ k 0 ks))
  | some (.inr (1, n)) => some (.inl (1, n, .inr (.inl (σ.2.2.2.1 k))))
  | some (.inr (kd, n)) => some (.inl (kd, n, .inl (σ.2.2.1 k)))
  | none => none
def zCell (σ : zS) (k : Nat) : mC := zCl0 σ k zTab[k]?
/-- what was thrown: of four kinds -/
def zXc (x : Nat) : mC := match Nat.blt x 4 with
  | true => mEx x
  | false => none
def zH (c0 : mH) (σ : zS) : mH := c0 ++ ((List.range 48).map (zCell σ) ++ σ.2.2.2.2.2.map zXc)
/-- the old cells -/
def zEq (c c' : mC) : Prop := c = c' ∨ (∃ k n f f', c = some (.inl (k, n, .inl f)) ∧ c' = some (.inl (k, n, .inl f')) ∧ ∀ j, j < n → f j = f' j) ∨ (∃ k n f f', c = some (.inl (k, n, .inr (.inr (.inr (.inr f))))) ∧ c' = some (.inl (k, n, .inr (.inr (.inr (.inr f'))))) ∧ ∀ j, j < n → f j = f' j)
def zC0 (c0 : mH) : Prop := c0.length = 158 ∧ (∃ L xs, c0[0]? = some (nCell L xs 0)) ∧ (∃ n f, c0[1]? = some (some (.inl (4, n, .inl f)))) ∧ ∀ a, 1 < a → a < 158 → ∃ c, c0[a]? = some c ∧ zEq c (nCell 0 (fun _ => 0) a)
def zI (σ : zS) (k i : Nat) (x : Int32) : zS := (u2 σ.1 k i x, σ.2)
def zL (σ : zS) (k i : Nat) (x : Int64) : zS := (σ.1, u2 σ.2.1 k i x, σ.2.2)
def zA (σ : zS) (k : Nat) (f : Nat → Int32) : zS := (σ.1, σ.2.1, u1 σ.2.2.1 k f, σ.2.2.2)
def zB (σ : zS) (k : Nat) (f : Nat → Int64) : zS := (σ.1, σ.2.1, σ.2.2.1, u1 σ.2.2.2.1 k f, σ.2.2.2.2)
def zQ (σ : zS) (q : Nat) : zS := (σ.1, σ.2.1, σ.2.2.1, σ.2.2.2.1, q, σ.2.2.2.2.2)
def zX (σ : zS) (x : Nat) : zS := (σ.1, σ.2.1, σ.2.2.1, σ.2.2.2.1, σ.2.2.2.2.1, σ.2.2.2.2.2 ++ [x])
section ZS
variable {α : Type} {c0 : mH} {σ τ : zS}
theorem u2_eq (f : Nat → Nat → α) (k i : Nat) (x : α) : u2 f k i x k i = x := by
  unfold u2
  simp
theorem u2_ne (f : Nat → Nat → α) {k i k' i' : Nat} (x : α) (h : ¬ (k' = k ∧ i' = i)) : u2 f k i x k' i' = f k' i' := by
  unfold u2
  cases hb : (k'.beq k && i'.beq i) with
  | false => rfl
  | true =>
    rw [Bool.and_eq_true] at hb
    exact absurd ⟨Nat.eq_of_beq_eq_true hb.1, Nat.eq_of_beq_eq_true hb.2⟩ h
theorem u1_eq (f : Nat → α) (k : Nat) (x : α) : u1 f k x k = x := by
  unfold u1
  simp
theorem u1_ne (f : Nat → α) {k k' : Nat} (x : α) (h : ¬ k' = k) : u1 f k x k' = f k' := by
  unfold u1
  cases hb : k'.beq k with
  | false => rfl
  | true => exact absurd (Nat.eq_of_beq_eq_true hb) h
theorem zH_get (h0 : c0.length = 158) {k : Nat} (hk : k < 48) : (zH c0 σ)[158 + k]? = some (zCell σ k) := by
  unfold zH
  rw [List.getElem?_append_right (by omega), h0, Nat.add_sub_cancel_left, List.getElem?_append_left (by rw [List.length_map, List.length_range]; exact hk), List.getElem?_map, List.getElem?_range hk]
  rfl
theorem zH_set (h0 : c0.length = 158) {k : Nat} (hk : k < 48) {c : mC} (h1 : zCell τ k = c) (h2 : ∀ j, j ≠ k → zCell τ j = zCell σ j) (h3 : τ.2.2.2.2.2 = σ.2.2.2.2.2) : (zH c0 σ).set (158 + k) c = zH c0 τ := by
  unfold zH
  rw [List.set_append_right _ _ (by omega), h0, Nat.add_sub_cancel_left, List.set_append_left _ _ (by rw [List.length_map, List.length_range]; exact hk), h3]
  congr 2
  apply List.ext_getElem?
  intro j
  rw [List.getElem?_set, List.getElem?_map, List.getElem?_map, List.length_map, List.length_range]
  by_cases hj : k = j
  · subst hj
    rw [if_pos rfl, if_pos hk, List.getElem?_range hk]
    simp [h1]
  · rw [if_neg hj]
    by_cases h48 : j < 48
    · rw [List.getElem?_range h48]
      simp [h2 j (fun e => hj e.symm)]
    · rw [List.getElem?_eq_none (by rw [List.length_range]; omega)]
      rfl
theorem zVs_get (k : Nat) : ∀ (ks : List Nat) (i0 i : Nat), (zVs σ k i0 ks)[i]? = (ks[i]?).map (zV σ k (i0 + i))
  | [], i0, i => rfl
  | kd :: r, i0, 0 => rfl
  | kd :: r, i0, i + 1 => by
    show (zVs σ k (i0 + 1) r)[i]? = _
    rw [zVs_get k r (i0 + 1) i, show i0 + (i + 1) = i0 + 1 + i by omega]
    rfl
theorem zVs_len (k : Nat) : ∀ (ks : List Nat) (i0 : Nat), (zVs σ k i0 ks).length = ks.length
  | [], i0 => rfl
  | kd :: r, i0 => by
    show (zVs σ k (i0 + 1) r).length + 1 = _
    rw [zVs_len k r (i0 + 1)]
    rfl
theorem zVs_set (k : Nat) (v : Value) (ks : List Nat) (i : Nat) (h1 : ∀ j kd, ks[j]? = some kd → j ≠ i → zV τ k j kd = zV σ k j kd) (h2 : ∀ kd, ks[i]? = some kd → zV τ k i kd = v) : (zVs σ k 0 ks).set i v = zVs τ k 0 ks := by
  apply List.ext_getElem?
  intro j
  rw [List.getElem?_set, zVs_get, zVs_get, zVs_len, Nat.zero_add]
  by_cases hj : i = j
  · subst hj
    rw [if_pos rfl]
    by_cases hl : i < ks.length
    · rw [if_pos hl, List.getElem?_eq_getElem hl]
      exact congrArg some (h2 _ (List.getElem?_eq_getElem hl)).symm
    · rw [if_neg hl, List.getElem?_eq_none (by omega)]
      rfl
  · rw [if_neg hj]
    cases hk : ks[j]? with
    | none => rfl
    | some kd => exact congrArg some (h1 j kd hk (fun e => hj e.symm)).symm
theorem zVs_congr (k : Nat) : ∀ (ks : List Nat) (i0 : Nat), (∀ i kd, zV τ k i kd = zV σ k i kd) → zVs τ k i0 ks = zVs σ k i0 ks
  | [], i0, h => rfl
  | kd :: r, i0, h => by
    show zV τ k i0 kd :: zVs τ k (i0 + 1) r = _
    rw [h, zVs_congr k r (i0 + 1) h]
    rfl
theorem zCell_congr {k : Nat} (h1 : ∀ i kd, zV τ k i kd = zV σ k i kd) (h2 : τ.2.2.1 k = σ.2.2.1 k) (h3 : τ.2.2.2.1 k = σ.2.2.2.1 k) : zCell τ k = zCell σ k := by
  unfold zCell zCl0
  split
  · rw [zVs_congr k _ 0 h1]
  · rw [h3]
  · rw [h2]
  · rfl
theorem zV_I {k i k' j kd : Nat} {x : Int32} (h : ¬ (k' = k ∧ j = i)) : zV (zI σ k i x) k' j kd = zV σ k' j kd := by
  unfold zV
  split
  · exact congrArg _ (u2_ne _ _ h)
  · exact congrArg _ (u2_ne _ _ h)
  · rfl
  · rfl
  · rfl
theorem zV_L {k i k' j kd : Nat} {x : Int64} (h : ¬ (k' = k ∧ j = i)) : zV (zL σ k i x) k' j kd = zV σ k' j kd := by
  unfold zV
  split
  · rfl
  · rfl
  · exact congrArg _ (u2_ne _ _ h)
  · rfl
  · rfl
theorem zH_I (h0 : c0.length = 158) {k i ci kd : Nat} {ks : List Nat} {x : Int32} (hk : k < 48) (ht : zTab[k]? = some (.inl (ci, ks))) (hi : ks[i]? = some kd) (hd : kd = 0 ∨ kd = 1) : (zH c0 σ).set (158 + k) (some (.inr (ci, (zVs σ k 0 ks).set i (.int x)))) = zH c0 (zI σ k i x) := by
  apply zH_set h0 hk
  · unfold zCell zCl0
    rw [ht]
    dsimp only
    rw [zVs_set k (.int x) ks i (fun j kd' hj hn => zV_I (fun e => hn e.2)) (fun kd' hk' => ?_)]
    rw [hi] at hk'
    cases hk'
    rcases hd with rfl | rfl <;> exact congrArg _ (u2_eq _ _ _ _)
  · exact fun j hj => zCell_congr (fun i' kd' => zV_I (fun e => hj e.1)) rfl rfl
  · rfl
theorem zH_L (h0 : c0.length = 158) {k i ci : Nat} {ks : List Nat} {x : Int64} (hk : k < 48) (ht : zTab[k]? = some (.inl (ci, ks))) (hi : ks[i]? = some 2) : (zH c0 σ).set (158 + k) (some (.inr (ci, (zVs σ k 0 ks).set i (.long x)))) = zH c0 (zL σ k i x) := by
  apply zH_set h0 hk
  · unfold zCell zCl0
    rw [ht]
    dsimp only
    rw [zVs_set k (.long x) ks i (fun j kd' hj hn => zV_L (fun e => hn e.2)) (fun kd' hk' => ?_)]
    rw [hi] at hk'
    cases hk'
    exact congrArg _ (u2_eq _ _ _ _)
  · exact fun j hj => zCell_congr (fun i' kd' => zV_L (fun e => hj e.1)) rfl rfl
  · rfl
theorem zTab_3 {k i ci : Nat} {ks : List Nat} (ht : zTab[k]? = some (.inl (ci, ks))) (hi : ks[i]? = some 3) : k = 11 ∧ i = 15 := by
  have key : ∀ k : Fin 48, ∀ i : Fin 50, (match zTab[k.val]? with | some (.inl (_, ks)) => ks[i.val]? == some 3 | _ => false) = true → k.val = 11 ∧ i.val = 15 := by decide +kernel
  have hk : k < 48 := (List.getElem?_eq_some_iff.mp ht).1
  have hl : ∀ k : Fin 48, (match zTab[k.val]? with | some (.inl (_, ks)) => decide (ks.length ≤ 50) | _ => true) = true := by decide +kernel
  have h50 := hl ⟨k, hk⟩
  dsimp only at h50
  rw [ht] at h50
  have hi50 : i < 50 := Nat.lt_of_lt_of_le (List.getElem?_eq_some_iff.mp hi).1 (of_decide_eq_true h50)
  apply key ⟨k, hk⟩ ⟨i, hi50⟩
  dsimp only
  rw [ht]
  dsimp only
  rw [hi]
  rfl
theorem zV_Q {k j kd q : Nat} (h : ¬ kd = 3) : zV (zQ σ q) k j kd = zV σ k j kd := by
  unfold zV
  split
  · rfl
  · rfl
  · rfl
  · exact absurd rfl h
  · rfl
theorem zH_Q (h0 : c0.length = 158) {k i ci q : Nat} {ks : List Nat} (hk : k < 48) (ht : zTab[k]? = some (.inl (ci, ks))) (hi : ks[i]? = some 3) : (zH c0 σ).set (158 + k) (some (.inr (ci, (zVs σ k 0 ks).set i (.ref q)))) = zH c0 (zQ σ q) := by
  have h3 := zTab_3 ht hi
  apply zH_set h0 hk
  · unfold zCell zCl0
    rw [ht]
    dsimp only
    rw [zVs_set k (.ref q) ks i (fun j kd' hj hn => zV_Q (fun e => ?_)) (fun kd' hk' => ?_)]
    · subst e
      exact hn ((zTab_3 ht hj).2.trans h3.2.symm)
    · rw [hi] at hk'
      cases hk'
      rfl
  · intro j hj
    unfold zCell zCl0
    split
    · rename_i ci' ks' ht'
      rw [show zVs (zQ σ q) j 0 ks' = zVs σ j 0 ks' from List.ext_getElem? (fun i' => by
        rw [zVs_get, zVs_get, Nat.zero_add]
        cases hk' : ks'[i']? with
        | none => rfl
        | some kd => exact congrArg some (zV_Q (fun e => by
            subst e
            exact hj ((zTab_3 ht' hk').1.trans h3.1.symm))))]
    · rfl
    · rfl
    · rfl
  · rfl
theorem zH_A (h0 : c0.length = 158) {k kd n : Nat} {f : Nat → Int32} (hk : k < 48) (ht : zTab[k]? = some (.inr (kd, n))) (h1 : kd ≠ 1) : (zH c0 σ).set (158 + k) (some (.inl (kd, n, .inl f))) = zH c0 (zA σ k f) := by
  apply zH_set h0 hk
  · unfold zCell zCl0
    rw [ht]
    split
    · rename_i e; cases e
    · rename_i e; cases e; exact absurd rfl h1
    · rename_i e; cases e; exact congrArg (fun g => (some (Sum.inl (kd, n, Sum.inl g)) : mC)) (u1_eq _ _ _)
    · rename_i e; cases e
  · exact fun j hj => zCell_congr (fun i' kd' => rfl) (u1_ne _ _ hj) rfl
  · rfl
theorem zH_B (h0 : c0.length = 158) {k n : Nat} {f : Nat → Int64} (hk : k < 48) (ht : zTab[k]? = some (.inr (1, n))) : (zH c0 σ).set (158 + k) (some (.inl (1, n, .inr (.inl f)))) = zH c0 (zB σ k f) := by
  apply zH_set h0 hk
  · unfold zCell zCl0
    rw [ht]
    exact congrArg (fun g => (some (Sum.inl (1, n, Sum.inr (Sum.inl g))) : mC)) (u1_eq _ _ _)
  · exact fun j hj => zCell_congr (fun i' kd' => rfl) rfl (u1_ne _ _ hj)
  · rfl
theorem zH_X {x : Nat} (h : Nat.blt x 4 = true) : zH c0 σ ++ [mEx x] = zH c0 (zX σ x) := by
  unfold zH zX
  dsimp only
  rw [List.map_append, List.append_assoc, List.append_assoc]
  have e : List.map zXc [x] = [mEx x] := by
    show [zXc x] = _
    unfold zXc
    rw [h]
  rw [e]
  rfl
theorem zH_old (h0 : zC0 c0) {a : Nat} (h1 : 1 < a) (h2 : a < 158) : ∃ c, (zH c0 σ)[a]? = some c ∧ zEq c (nCell 0 (fun _ => 0) a) := by
  unfold zH
  rw [List.getElem?_append_left (by rw [h0.1]; exact h2)]
  exact h0.2.2.2 a h1 h2
theorem zTab_cl {k ci : Nat} {ks : List Nat} (ht : zTab[k]? = some (.inl (ci, ks))) : ci < 8 := by
  have key : ∀ k : Fin 48, (match zTab[k.val]? with | some (.inl (ci, _)) => decide (ci < 8) | _ => true) = true := by decide +kernel
  have hk : k < 48 := (List.getElem?_eq_some_iff.mp ht).1
  have h := key ⟨k, hk⟩
  dsimp only at h
  rw [ht] at h
  exact of_decide_eq_true h
/-- objects of the classes 13 and 14 are old -/
theorem zH_13 (h0 : zC0 c0) {a ci : Nat} {fs : List Value} (hc : ci = 13 ∨ ci = 14) (hx : (zH c0 σ)[a]? = some (some (.inr (ci, fs)))) : 0 < a ∧ a < 158 ∧ nCell 0 (fun _ => 0) a = some (.inr (ci, fs)) := by
  by_cases h2 : a < 158
  · by_cases h1 : 0 < a
    · by_cases h1' : a = 1
      · exfalso
        obtain ⟨n, f, h3⟩ := h0.2.2.1
        rw [h1'] at hx
        unfold zH at hx
        rw [List.getElem?_append_left (by rw [h0.1]; decide), h3] at hx
        cases hx
      · obtain ⟨c, c1, c2⟩ := zH_old (σ := σ) h0 (show 1 < a by omega) h2
        rw [c1] at hx
        cases hx
        rcases c2 with c2 | ⟨k, n, f, f', c3, c4⟩ | ⟨k, n, f, f', c3, c4⟩
        · exact ⟨h1, h2, c2.symm⟩
        · cases c3
        · cases c3
    · obtain rfl : a = 0 := by omega
      obtain ⟨L, xs, h3⟩ := h0.2.1
      unfold zH at hx
      rw [List.getElem?_append_left (by rw [h0.1]; exact h2), h3] at hx
      cases hx
  · exfalso
    obtain ⟨k, rfl⟩ : ∃ k, a = 158 + k := ⟨a - 158, by omega⟩
    by_cases hk : k < 48
    · rw [zH_get h0.1 hk] at hx
      have hx := Option.some.inj hx
      unfold zCell zCl0 at hx
      split at hx
      · rename_i ci' ks ht
        cases hx
        have := zTab_cl ht
        omega
      · cases hx
      · cases hx
      · cases hx
    · unfold zH at hx
      rw [List.getElem?_append_right (by rw [h0.1]; omega), h0.1, Nat.add_sub_cancel_left, List.getElem?_append_right (by rw [List.length_map, List.length_range]; omega), List.getElem?_map] at hx
      cases hg : (σ.2.2.2.2.2)[k - ((List.range 48).map (zCell σ)).length]? with
      | none => rw [hg] at hx; cases hx
      | some x =>
        rw [hg] at hx
        have hx : some (zXc x) = some (some (.inr (ci, fs))) := hx
        have hx := Option.some.inj hx
        unfold zXc at hx
        split at hx
        · rename_i hb
          have hb := Nat.le_of_ble_eq_true hb
          cases hx
          unfold mXc at hc
          omega
        · cases hx
def zIsS (a : Nat) : Prop := a = 53 ∨ (55 ≤ a ∧ a < 155 ∧ (a - 55) % 2 = 0)
theorem zO13 {a : Nat} {fs : List Value} (h1 : 0 < a) (h : nCell 0 (fun _ => 0) a = some (.inr (13, fs))) : (2 ≤ a ∧ a < 52) ∧ fs = [.ref (nSix (a - 2)), .int (nOp (a - 2)).2.2.1, .int (nOp (a - 2)).2.2.2] := by
  unfold nCell at h
  rw [if_neg (by omega)] at h
  split at h
  · cases h
  · split at h
    · cases h
      exact ⟨⟨by omega, by omega⟩, rfl⟩
    · split at h
      · cases h
      · split at h
        · cases h
        · split at h
          · cases h
          · split at h
            · split at h
              · cases h
              · cases h
            · cases h
theorem zO14 {a : Nat} {fs : List Value} (h1 : 0 < a) (h : nCell 0 (fun _ => 0) a = some (.inr (14, fs))) : zIsS a ∧ fs = [.ref (a + 1), .int 0] := by
  unfold nCell at h
  rw [if_neg (by omega)] at h
  split at h
  · cases h
  · split at h
    · cases h
    · split at h
      · cases h
      · split at h
        · rename_i e
          subst e
          cases h
          exact ⟨Or.inl rfl, rfl⟩
        · split at h
          · cases h
          · split at h
            · split at h
              · rename_i e1 e2
                cases h
                have e3 : nSix ((a - 55) / 2) = a := by
                  unfold nSix
                  rw [if_neg (by omega)]
                  omega
                exact ⟨Or.inr ⟨by omega, e1, e2⟩, by rw [e3]⟩
              · cases h
            · cases h
end ZS
