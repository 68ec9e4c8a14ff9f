/-! THE MACHINE WITH RANGES IS SOUND: values, ranges -/
def rE (ρ : List Int) (v : Value) : Option Value := match v with
  | .float b => (ρ[rId b]?).map (fun z => .int (Int32.ofInt (z + rOf b)))
  | .double b => (ρ[b.toNat]?).map (fun z => .long (Int64.ofInt z))
  | .retAddr j => (ρ[j]?).map (fun z => .ref z.toNat)
  | .int x => some (.int x)
  | .long x => some (.long x)
  | .null => some .null
  | .ref a => some (.ref a)
def rEs (ρ : List Int) : List Value → Option (List Value)
  | [] => some []
  | v :: r => match rE ρ v with
    | some c => match rEs ρ r with
      | some l => some (c :: l)
      | none => none
    | none => none
def rEv (ρ : List Int) : mL → Option mL
  | [] => some []
  | q :: r => match rE ρ q.2 with
    | some c => match rEv ρ r with
      | some l => some ((q.1, c) :: l)
      | none => none
    | none => none
/-- what a number's bounds tell by other numbers -/
def rCd (ρ : List Int) (q : Int × Int) (z : Int) : Prop := (∀ j c, rCl q.1 = some (j, c) → ∃ y, ρ[j]? = some y ∧ y + c ≤ z) ∧ (∀ j c, rCu q.2 = some (j, c) → ∃ y, ρ[j]? = some y ∧ z ≤ y + c)
def rOk (ρ : List Int) (fs : rF) : Prop := ρ.length = fs.length ∧ (∀ (i : Nat) (q : Int × Int), fs[i]? = some q → ∃ z, ρ[i]? = some z ∧ q.1 ≤ z ∧ z ≤ q.2) ∧ ∀ (i : Nat) (q : Int × Int) (z : Int), fs[i]? = some q → ρ[i]? = some z → rCd ρ q z
theorem rE_f (ρ : List Int) (b : UInt32) : rE ρ (.float b) = (ρ[rId b]?).map (fun z => .int (Int32.ofInt (z + rOf b))) := rfl
theorem rE_d (ρ : List Int) (b : UInt64) : rE ρ (.double b) = (ρ[b.toNat]?).map (fun z => .long (Int64.ofInt z)) := rfl
theorem rE_r (ρ : List Int) (b : Nat) : rE ρ (.retAddr b) = (ρ[b]?).map (fun z => .ref z.toNat) := rfl
section RV
variable {ρ : List Int} {fs : rF}
theorem rE_ext {v c : Value} (e : List Int) (h : rE ρ v = some c) : rE (ρ ++ e) v = some c := by
  have key : ∀ {i : Nat} {z : Int}, ρ[i]? = some z → (ρ ++ e)[i]? = some z := fun h => by
    rw [List.getElem?_append_left (List.getElem?_eq_some_iff.mp h).1]
    exact h
  cases v with
  | float b =>
    rw [rE_f] at h ⊢
    cases hz : ρ[rId b]? with
    | none => rw [hz] at h; cases h
    | some z => rw [hz] at h; rw [key hz]; exact h
  | double b =>
    rw [rE_d] at h ⊢
    cases hz : ρ[b.toNat]? with
    | none => rw [hz] at h; cases h
    | some z => rw [hz] at h; rw [key hz]; exact h
  | retAddr b =>
    rw [rE_r] at h ⊢
    cases hz : ρ[b]? with
    | none => rw [hz] at h; cases h
    | some z => rw [hz] at h; rw [key hz]; exact h
  | _ => exact h
theorem rEs_cons {v : Value} {r l : List Value} (h : rEs ρ (v :: r) = some l) : ∃ c l', rE ρ v = some c ∧ rEs ρ r = some l' ∧ l = c :: l' := by
  unfold rEs at h
  split at h
  · rename_i c hc
    split at h
    · rename_i l' hl
      cases h
      exact ⟨c, l', hc, hl, rfl⟩
    · cases h
  · cases h
theorem rEs_mk {v c : Value} {r l : List Value} (h1 : rE ρ v = some c) (h2 : rEs ρ r = some l) : rEs ρ (v :: r) = some (c :: l) := by
  unfold rEs
  rw [h1, h2]
theorem rEs_ext {st l : List Value} (e : List Int) (h : rEs ρ st = some l) : rEs (ρ ++ e) st = some l := by
  induction st generalizing l with
  | nil => exact h
  | cons v r ih =>
    obtain ⟨c, l', h1, h2, rfl⟩ := rEs_cons h
    exact rEs_mk (rE_ext e h1) (ih h2)
theorem rEv_ext {lv l : mL} (e : List Int) (h : rEv ρ lv = some l) : rEv (ρ ++ e) lv = some l := by
  induction lv generalizing l with
  | nil => exact h
  | cons q r ih =>
    unfold rEv at h ⊢
    split at h
    · rename_i c hc
      split at h
      · rename_i l' hl
        cases h
        rw [rE_ext e hc, ih hl]
      · cases h
    · cases h
theorem rE_cat {v c : Value} (h : rE ρ v = some c) : c.category = v.category := by
  cases v with
  | float b =>
    rw [rE_f] at h
    cases hz : ρ[rId b]? with
    | none => rw [hz] at h; cases h
    | some z => rw [hz] at h; cases h; rfl
  | double b =>
    rw [rE_d] at h
    cases hz : ρ[b.toNat]? with
    | none => rw [hz] at h; cases h
    | some z => rw [hz] at h; cases h; rfl
  | retAddr b =>
    rw [rE_r] at h
    cases hz : ρ[b]? with
    | none => rw [hz] at h; cases h
    | some z => rw [hz] at h; cases h; rfl
  | _ => cases h; rfl
theorem rEs_cats {st l : List Value} (h : rEs ρ st = some l) : l.map (fun v => v.category) = st.map (fun v => v.category) := by
  induction st generalizing l with
  | nil => cases h; rfl
  | cons v r ih =>
    obtain ⟨c, l', h1, h2, rfl⟩ := rEs_cons h
    rw [List.map_cons, List.map_cons, rE_cat h1, ih h2]
theorem rEs_len {st l : List Value} (h : rEs ρ st = some l) : l.length = st.length := by
  induction st generalizing l with
  | nil => cases h; rfl
  | cons v r ih =>
    obtain ⟨c, l', h1, h2, rfl⟩ := rEs_cons h
    rw [List.length_cons, List.length_cons, ih h2]
theorem rCd.ext {q : Int × Int} {z : Int} (e : List Int) (h : rCd ρ q z) : rCd (ρ ++ e) q z := by
  have key : ∀ {i : Nat} {z : Int}, ρ[i]? = some z → (ρ ++ e)[i]? = some z := fun h => by
    rw [List.getElem?_append_left (List.getElem?_eq_some_iff.mp h).1]
    exact h
  refine ⟨fun j c hj => ?_, fun j c hj => ?_⟩
  · obtain ⟨y, y1, y2⟩ := h.1 j c hj
    exact ⟨y, key y1, y2⟩
  · obtain ⟨y, y1, y2⟩ := h.2 j c hj
    exact ⟨y, key y1, y2⟩
/-- a new number: z within q, and what q tells by other numbers -/
theorem rOk.push' (h : rOk ρ fs) {z : Int} {q : Int × Int} (h1 : q.1 ≤ z) (h2 : z ≤ q.2) (h3 : rCd (ρ ++ [z]) q z) : rOk (ρ ++ [z]) (fs ++ [q]) := by
  refine ⟨by rw [List.length_append, List.length_append, h.1]; rfl, fun i p hp => ?_, fun i p w hp hw => ?_⟩
  · rw [List.getElem?_append] at hp ⊢
    rw [h.1]
    split at hp
    · rename_i hi
      rw [if_pos hi]
      exact h.2.1 i p hp
    · rename_i hi
      rw [if_neg hi]
      cases hk : i - fs.length with
      | zero => rw [hk] at hp; cases hp; exact ⟨z, rfl, h1, h2⟩
      | succ m => rw [hk] at hp; cases hp
  · rw [List.getElem?_append] at hp hw
    rw [h.1] at hw
    split at hp
    · rename_i hi
      rw [if_pos hi] at hw
      exact (h.2.2 i p w hp hw).ext _
    · rename_i hi
      rw [if_neg hi] at hw
      cases hk : i - fs.length with
      | zero => rw [hk] at hp hw; cases hp; cases hw; exact h3
      | succ m => rw [hk] at hp; cases hp
theorem rCd_real {l u z : Int} (h1 : -100000000000000000000 < l) (h2 : u < 100000000000000000000) (ρ' : List Int) : rCd ρ' (l, u) z := by
  refine ⟨fun j c hj => ?_, fun j c hj => ?_⟩
  · unfold rCl at hj
    rw [if_neg (by dsimp only; omega)] at hj
    cases hj
  · unfold rCu at hj
    rw [if_neg (by dsimp only; omega)] at hj
    cases hj
theorem rOk.push (h : rOk ρ fs) {z l u : Int} (h1 : l ≤ z) (h2 : z ≤ u) (h3 : -100000000000000000000 < l) (h4 : u < 100000000000000000000) : rOk (ρ ++ [z]) (fs ++ [(l, u)]) := h.push' h1 h2 (rCd_real h3 h4 _)
/-- a bound that is found by way of other numbers -/
theorem rLo_ok (hO : rOk ρ fs) : ∀ (n : Nat) {l z : Int}, l ≤ z → (∀ j c, rCl l = some (j, c) → ∃ y, ρ[j]? = some y ∧ y + c ≤ z) → rLo fs n l ≤ z
  | 0, l, z, h, _ => h
  | n + 1, l, z, h, hc => by
    unfold rLo
    split
    · exact h
    · rename_i jc hj
      split
      · rename_i q hq
        obtain ⟨y, y1, y2⟩ := hc jc.1 jc.2 hj
        obtain ⟨w, w1, w2, w3⟩ := hO.2.1 _ _ hq
        rw [y1] at w1
        cases w1
        have := rLo_ok hO n w2 (hO.2.2 _ _ _ hq y1).1
        omega
      · exact h
theorem rHi_ok (hO : rOk ρ fs) : ∀ (n : Nat) {u z : Int}, z ≤ u → (∀ j c, rCu u = some (j, c) → ∃ y, ρ[j]? = some y ∧ z ≤ y + c) → z ≤ rHi fs n u
  | 0, u, z, h, _ => h
  | n + 1, u, z, h, hc => by
    unfold rHi
    split
    · exact h
    · rename_i jc hj
      split
      · rename_i q hq
        obtain ⟨y, y1, y2⟩ := hc jc.1 jc.2 hj
        obtain ⟨w, w1, w2, w3⟩ := hO.2.1 _ _ hq
        rw [y1] at w1
        cases w1
        have := rHi_ok hO n w3 (hO.2.2 _ _ _ hq y1).2
        omega
      · exact h
theorem rOk.get (hO : rOk ρ fs) {i : Nat} {q : Int × Int} (hq : fs[i]? = some q) : ∃ z, ρ[i]? = some z ∧ rLo fs 6 q.1 ≤ z ∧ z ≤ rHi fs 6 q.2 := by
  obtain ⟨z, z1, z2, z3⟩ := hO.2.1 _ _ hq
  exact ⟨z, z1, rLo_ok hO 6 z2 (hO.2.2 _ _ _ hq z1).1, rHi_ok hO 6 z3 (hO.2.2 _ _ _ hq z1).2⟩
/-- an Int within the ints is an int's -/
theorem rInt {z : Int} (h1 : rI0 ≤ z) (h2 : z ≤ rI1) : (Int32.ofInt z).toInt = z := by
  unfold rI0 at h1
  unfold rI1 at h2
  rw [Int32.toInt_ofInt]
  exact Int.bmod_eq_of_le_mul_two (by show -((4294967296 : Nat) : Int) ≤ z * 2; omega) (by show z * 2 < ((4294967296 : Nat) : Int); omega)
theorem rLong {z : Int} (h1 : rL0 ≤ z) (h2 : z ≤ rL1) : (Int64.ofInt z).toInt = z := by
  unfold rL0 at h1
  unfold rL1 at h2
  rw [Int64.toInt_ofInt]
  exact Int.bmod_eq_of_le_mul_two (by show -((18446744073709551616 : Nat) : Int) ≤ z * 2; omega) (by show z * 2 < ((18446744073709551616 : Nat) : Int); omega)
theorem rRg_ok (hO : rOk ρ fs) {v c : Value} {q : Int × Int} (hr : rRg fs v = some q) (hc : rE ρ v = some c) : ∃ x, c = .int x ∧ q.1 ≤ x.toInt ∧ x.toInt ≤ q.2 := by
  unfold rRg at hr
  split at hr
  · cases hr
    cases hc
    exact ⟨_, rfl, Int.le_refl _, Int.le_refl _⟩
  · rename_i b
    split at hr
    · rename_i p hp
      split at hr
      · rename_i hb
        cases hr
        obtain ⟨z, z1, z2, z3⟩ := hO.get hp
        rw [rE_f] at hc
        rw [z1] at hc
        cases hc
        refine ⟨_, rfl, ?_⟩
        rw [rInt (by omega) (by omega)]
        exact ⟨by show rLo fs 6 p.1 + rOf b ≤ _; omega, by show _ ≤ rHi fs 6 p.2 + rOf b; omega⟩
      · cases hr
    · cases hr
  · cases hr
theorem rRg_le {v : Value} {q : Int × Int} (hr : rRg fs v = some q) : q.2 ≤ rI1 := by
  unfold rRg at hr
  split at hr
  · rename_i x
    cases hr
    exact Int32.toInt_le x
  · split at hr
    · split at hr
      · rename_i hb
        cases hr
        exact hb.2
      · cases hr
    · cases hr
  · cases hr
theorem rRl_ok (hO : rOk ρ fs) {v c : Value} {q : Int × Int} (hr : rRl fs v = some q) (hc : rE ρ v = some c) : ∃ x, c = .long x ∧ q.1 ≤ x.toInt ∧ x.toInt ≤ q.2 := by
  unfold rRl at hr
  split at hr
  · cases hr
    cases hc
    exact ⟨_, rfl, Int.le_refl _, Int.le_refl _⟩
  · rename_i b
    split at hr
    · rename_i p hp
      split at hr
      · rename_i hb
        cases hr
        obtain ⟨z, z1, z2, z3⟩ := hO.2.1 _ _ hp
        rw [rE_d] at hc
        rw [z1] at hc
        cases hc
        refine ⟨_, rfl, ?_⟩
        rw [rLong (by omega) (by omega)]
        exact ⟨z2, z3⟩
      · cases hr
    · cases hr
  · cases hr
theorem rMk_id {id : Nat} {off : Int} (h1 : id < 60000) (h2 : -32768 ≤ off) (h3 : off < 32768) : ∃ b, rMk id off = .float b ∧ rId b = id ∧ rOf b = off := by
  have h4 : (off + 32768).toNat < 65536 := by omega
  have h5 : id * 65536 + (off + 32768).toNat < 4294967296 := by omega
  have h6 : (UInt32.ofNat (id * 65536 + (off + 32768).toNat)).toNat = id * 65536 + (off + 32768).toNat := by
    rw [UInt32.toNat_ofNat']
    exact Nat.mod_eq_of_lt h5
  refine ⟨_, rfl, ?_, ?_⟩
  · unfold rId
    rw [h6]
    omega
  · unfold rOf
    rw [h6]
    have h7 : (id * 65536 + (off + 32768).toNat) % 65536 = (off + 32768).toNat := by omega
    rw [h7]
    omega
/-- a new unknown int: any int within the range -/
theorem rNi_ok (hO : rOk ρ fs) (hn : fs.length < 60000) {l u : Int} {x : Int32} (h1 : l ≤ x.toInt) (h2 : x.toInt ≤ u) : ∃ e, rOk (ρ ++ e) (rNi fs l u).1 ∧ rE (ρ ++ e) (rNi fs l u).2 = some (.int x) := by
  have full : ∀ {l u : Int}, l ≤ x.toInt → x.toInt ≤ u → rI0 ≤ l → u ≤ rI1 → ∃ e, rOk (ρ ++ e) (fs ++ [(l, u)]) ∧ rE (ρ ++ e) (rMk fs.length 0) = some (.int x) := fun {l u} g1 g2 g3 g4 => by
    refine ⟨[x.toInt], hO.push g1 g2 (by unfold rI0 at g3; omega) (by unfold rI1 at g4; omega), ?_⟩
    obtain ⟨b, e1, e2, e3⟩ := rMk_id (id := fs.length) (off := 0) hn (by omega) (by omega)
    rw [e1]
    rw [rE_f, e2, e3, ← hO.1, List.getElem?_append_right (Nat.le_refl _), Nat.sub_self]
    show some (Value.int (Int32.ofInt (x.toInt + 0))) = _
    rw [Int.add_zero, Int32.ofInt_toInt]
  unfold rNi
  split
  · rename_i hq
    refine ⟨[], by rw [List.append_nil]; exact hO, ?_⟩
    have : l = x.toInt := by omega
    rw [this, Int32.ofInt_toInt]
    rfl
  · split
    · rename_i hq
      exact full h1 h2 hq.1 hq.2
    · exact full (Int32.le_toInt x) (Int32.toInt_le x) (Int.le_refl _) (Int.le_refl _)
theorem rNl_ok (hO : rOk ρ fs) (hn : fs.length < 60000) {l u : Int} {x : Int64} (h1 : l ≤ x.toInt) (h2 : x.toInt ≤ u) : ∃ e, rOk (ρ ++ e) (rNl fs l u).1 ∧ rE (ρ ++ e) (rNl fs l u).2 = some (.long x) := by
  have full : ∀ {l u : Int}, l ≤ x.toInt → x.toInt ≤ u → rL0 ≤ l → u ≤ rL1 → ∃ e, rOk (ρ ++ e) (fs ++ [(l, u)]) ∧ rE (ρ ++ e) (.double (UInt64.ofNat fs.length)) = some (.long x) := fun {l u} g1 g2 g3 g4 => by
    refine ⟨[x.toInt], hO.push g1 g2 (by unfold rL0 at g3; omega) (by unfold rL1 at g4; omega), ?_⟩
    rw [rE_d, UInt64.toNat_ofNat', Nat.mod_eq_of_lt (by omega), ← hO.1, List.getElem?_append_right (Nat.le_refl _), Nat.sub_self]
    show some (Value.long (Int64.ofInt x.toInt)) = _
    rw [Int64.ofInt_toInt]
  unfold rNl
  split
  · rename_i hq
    refine ⟨[], by rw [List.append_nil]; exact hO, ?_⟩
    have : l = x.toInt := by omega
    rw [this, Int64.ofInt_toInt]
    rfl
  · split
    · rename_i hq
      exact full h1 h2 hq.1 hq.2
    · exact full (Int64.le_toInt x) (Int64.toInt_le x) (Int.le_refl _) (Int.le_refl _)
end RV
