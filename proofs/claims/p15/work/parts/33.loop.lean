/-! LOOPS: what a match at the head tells -/
theorem rCl_k {j : Nat} {c : Int} (h1 : -500000 ≤ c) (h2 : c < 500000) : rCl (rKl' j c) = some (j, c) := by
  unfold rCl rKl'
  rw [if_pos (by omega)]
  have e1 : (-(-(100000000000000000000 + (j : Int) * 1000000 + (c + 500000))) - 100000000000000000000) / 1000000 = (j : Int) := by omega
  have e2 : (-(-(100000000000000000000 + (j : Int) * 1000000 + (c + 500000))) - 100000000000000000000) % 1000000 - 500000 = c := by omega
  rw [e1, e2]
  rfl
theorem rCu_k {j : Nat} {c : Int} (h1 : -500000 ≤ c) (h2 : c < 500000) : rCu (rKu' j c) = some (j, c) := by
  unfold rCu rKu'
  rw [if_pos (by omega)]
  have e1 : ((100000000000000000000 + (j : Int) * 1000000 + (c + 500000)) - 100000000000000000000) / 1000000 = (j : Int) := by omega
  have e2 : ((100000000000000000000 + (j : Int) * 1000000 + (c + 500000)) - 100000000000000000000) % 1000000 - 500000 = c := by omega
  rw [e1, e2]
  rfl
theorem rCl_no {l : Int} (h : -100000000000000000000 < l) (j : Nat) (c : Int) : rCl l = some (j, c) → False := fun k => by
  unfold rCl at k
  rw [if_neg (by omega)] at k
  cases k
theorem rCu_no {u : Int} (h : u < 100000000000000000000) (j : Nat) (c : Int) : rCu u = some (j, c) → False := fun k => by
  unfold rCu at k
  rw [if_neg (by omega)] at k
  cases k
/-- how a place's number stands, behind w turns' growth: v what it was at the way in -/
def rIv (ρ' : List Int) (w : Int) : List Int → List Int → List (rPl × (Int × Int)) → Prop
  | [], [], [] => True
  | z :: zs, v :: ve, p :: ps => (if p.1.2.2.2.2.2.1 = 2 then (p.2.1 ≤ z ∧ ∀ j c, rCl p.2.1 = some (j, c) → ∃ y, ρ'[j]? = some y ∧ y + c ≤ z) ∧ z ≤ v + p.1.2.2.2.2.2.2 * w else p.2.1 ≤ z ∧ z ≤ p.2.2 ∧ rCd ρ' p.2 z) ∧ rIv ρ' w zs ve ps
  | _, _, _ => False
/-- how it stands at the way back -/
def rPg (ρh ρ' : List Int) (g : Int) : Nat → List Int → List (rPl × (Int × Int)) → Prop
  | _, [], [] => True
  | id, z :: zs, p :: ps => (if p.1.2.2.2.2.2.1 = 2 then (p.2.1 ≤ z ∧ ∀ j c, rCl p.2.1 = some (j, c) → ∃ y, ρ'[j]? = some y ∧ y + c ≤ z) ∧ (∃ y, ρh[id]? = some y ∧ z ≤ y + p.1.2.2.2.2.2.2 * g) else p.2.1 ≤ z ∧ z ≤ p.2.2 ∧ rCd ρ' p.2 z) ∧ rPg ρh ρ' g (id + 1) zs ps
  | _, _, _ => False
theorem rBd_1i {x : Int32} {p : rPl} (hm : p.2.2.2.2.2.1 = 1) : rBd (.int x) p = (x.toInt, p.2.2.2.2.1) := by
  unfold rBd
  rw [hm]
  rfl
theorem rBd_1f {b : UInt32} {p : rPl} (hm : p.2.2.2.2.2.1 = 1) : rBd (.float b) p = (rKl' (rId b) (rOf b), p.2.2.2.2.1) := by
  unfold rBd
  rw [hm]
  rfl
theorem rBd_2i {x : Int32} {p : rPl} (hm : p.2.2.2.2.2.1 = 2) : rBd (.int x) p = (p.2.2.2.1, x.toInt + p.2.2.2.2.1) := by
  unfold rBd
  rw [hm]
  rfl
theorem rBd_2f {b : UInt32} {p : rPl} (hm : p.2.2.2.2.2.1 = 2) : rBd (.float b) p = (p.2.2.2.1, rKu' (rId b) (rOf b + p.2.2.2.2.1)) := by
  unfold rBd
  rw [hm]
  rfl
theorem rBd_2 (v : Value) {p : rPl} (hm : p.2.2.2.2.2.1 = 2) : (rBd v p).1 = p.2.2.2.1 := by
  unfold rBd
  rw [hm]
  cases v <;> rfl
theorem rBd_3 (v : Value) {p : rPl} (hm : p.2.2.2.2.2.1 = 3) : rBd v p = (rL0, rL1) := by
  unfold rBd
  rw [hm]
  cases v <;> rfl
theorem rBd_o (v : Value) {p : rPl} (h1 : p.2.2.2.2.2.1 = 1 → False) (h2 : p.2.2.2.2.2.1 = 2 → False) (h3 : p.2.2.2.2.2.1 = 3 → False) : rBd v p = (p.2.2.2.1, p.2.2.2.2.1) := by
  unfold rBd
  split
  · rename_i e; exact (h1 e).elim
  · rename_i e; exact (h1 e).elim
  · rename_i e; exact (h2 e).elim
  · rename_i e; exact (h2 e).elim
  · rename_i e; exact (h3 e).elim
  · rfl
section LO
variable {ρ : List Int} {fs : rF}
theorem rIn1_ok (hO : rOk ρ fs) {n : Nat} {σ : List Value} {zs : List Int} (hn : n ≤ ρ.length) (hz : rVs ρ σ = some zs) {g : Int} {ρh : List Int} (hh : ∃ e, ρ = ρh ++ e) : ∀ {id : Nat} {vs : List Value} {ws : List Int} {ps : List (rPl × (Int × Int))}, id + ps.length ≤ ρh.length → rVs ρ vs = some ws → rIn1 fs n σ g id vs ps = true → rPg ρh (ρ.take n ++ zs) g id ws ps
  | id, [], ws, [], _, hw, h => by cases hw; trivial
  | id, v :: vs, ws, p :: ps, hl, hw, h => by
    obtain ⟨z, ws', h1, h2, rfl⟩ := rVs_cons hw
    unfold rIn1 at h
    rw [Bool.and_eq_true] at h
    rw [List.length_cons] at hl
    refine ⟨?_, rIn1_ok hO hn hz hh (by omega) h2 h.2⟩
    have hp := h.1
    split at hp
    · rename_i hm
      rw [if_pos hm]
      rw [Bool.and_eq_true] at hp
      refine ⟨rIl_ok hO hn hz h1 hp.1, ?_⟩
      have hq := hp.2
      split at hq
      · rename_i b
        obtain ⟨y, y1, rfl⟩ := rVi_f h1
        obtain ⟨w, w1, w2⟩ := rLe_ok hO 8 hq y1
        refine ⟨w, ?_, w2⟩
        obtain ⟨e, rfl⟩ := hh
        rw [List.getElem?_append_left (by omega)] at w1
        exact w1
      · cases hq
    · rename_i hm
      rw [if_neg hm]
      rw [Bool.and_eq_true] at hp
      obtain ⟨l1, l2⟩ := rIl_ok hO hn hz h1 hp.1
      obtain ⟨u1, u2⟩ := rIu_ok hO hn hz h1 hp.2
      exact ⟨l1, u1, l2, u2⟩
  | id, [], ws, p :: ps, _, hw, h => by cases h
  | id, v :: vs, ws, [], _, hw, h => by cases h
theorem rVi_rg (hO : rOk ρ fs) {v : Value} {z : Int} (hs : (rRg fs v).isSome = true) (hz : rVi ρ v = some z) : -2147483648 ≤ z ∧ z ≤ 2147483647 := by
  cases hq : rRg fs v with
  | none => rw [hq] at hs; cases hs
  | some q =>
    have h1 := rRa_ok hO (rRg_a hq) hz
    have h2 := rRg_le hq
    have h3 : rI0 ≤ q.1 := by
      unfold rRg at hq
      split at hq
      · cases hq; exact Int32.le_toInt _
      · split at hq
        · split at hq
          · rename_i hb
            cases hq
            exact hb.1
          · cases hq
        · cases hq
      · cases hq
    unfold rI1 at h2
    unfold rI0 at h3
    omega
/-- the way in -/
theorem rIn0_ok (hO : rOk ρ fs) {σ : List Value} {zs : List Int} (hz : rVs ρ σ = some zs) : ∀ {vs : List Value} {ws : List Int} {ps : List rPl}, rVs ρ vs = some ws → rIn0 fs fs.length σ vs ps = true → rIv (ρ ++ zs) 0 ws ws (ps.zip (rBds vs ps))
  | [], ws, [], hw, h => by cases hw; trivial
  | v :: vs, ws, p :: ps, hw, h => by
    obtain ⟨z, ws', h1, h2, rfl⟩ := rVs_cons hw
    unfold rIn0 at h
    rw [Bool.and_eq_true] at h
    have hn : fs.length ≤ ρ.length := by rw [hO.1]; exact Nat.le_refl _
    have et : ρ.take fs.length ++ zs = ρ ++ zs := by rw [← hO.1, List.take_length]
    have key : ∀ {i : Nat} {y : Int}, ρ[i]? = some y → (ρ ++ zs)[i]? = some y := fun h => by
      rw [List.getElem?_append_left (List.getElem?_eq_some_iff.mp h).1]
      exact h
    refine ⟨?_, rIn0_ok hO hz h2 h.2⟩
    have hp := h.1
    dsimp only
    split at hp
    · rename_i hm
      rw [if_neg (by rw [hm]; decide)]
      rw [Bool.and_eq_true] at hp
      obtain ⟨b1, b2⟩ := rVi_rg hO hp.1 h1
      obtain ⟨u1, u2⟩ := rIu_ok hO hn hz h1 hp.2
      rw [et] at u2
      cases v with
      | int x =>
        rw [rBd_1i hm]
        cases h1
        exact ⟨Int.le_refl _, u1, fun j c k => (rCl_no (by dsimp only; omega) j c k).elim, u2⟩
      | float b =>
        rw [rBd_1f hm]
        obtain ⟨y, y1, rfl⟩ := rVi_f h1
        have ob := rOf_rng b
        refine ⟨?_, u1, fun j c k => ?_, u2⟩
        · dsimp only
          unfold rKl'
          omega
        · dsimp only at k
          rw [rCl_k (by omega) (by omega)] at k
          cases k
          exact ⟨y, key y1, by omega⟩
      | long x => cases hp.1
      | double x => cases hp.1
      | ref x => cases hp.1
      | retAddr x => cases hp.1
      | null => cases hp.1
    · rename_i hm
      rw [if_pos hm]
      rw [Bool.and_eq_true, Bool.and_eq_true, Bool.and_eq_true, decide_eq_true_eq, decide_eq_true_eq] at hp
      obtain ⟨l1, l2⟩ := rIl_ok hO hn hz h1 hp.1
      rw [et] at l2
      have e0 : z ≤ z + p.2.2.2.2.2.2 * 0 := by omega
      have low := rBd_2 v hm
      rw [low]
      exact ⟨⟨l1, l2⟩, e0⟩
    · rename_i hm
      rw [if_neg (by rw [hm]; decide)]
      rw [Bool.and_eq_true] at hp
      obtain ⟨l1, l2⟩ := rIl_ok hO hn hz h1 hp.1
      obtain ⟨u1, u2⟩ := rIu_ok hO hn hz h1 hp.2
      rw [et] at l2 u2
      have hb := rBd_3 v hm
      rw [hb]
      exact ⟨l1, u1, l2, u2⟩
    · rename_i n1 n2 n3
      rw [if_neg n2]
      rw [Bool.and_eq_true] at hp
      obtain ⟨l1, l2⟩ := rIl_ok hO hn hz h1 hp.1
      obtain ⟨u1, u2⟩ := rIu_ok hO hn hz h1 hp.2
      rw [et] at l2 u2
      have hb := rBd_o v n1 n2 n3
      rw [hb]
      exact ⟨l1, u1, l2, u2⟩
  | [], ws, p :: ps, hw, h => by cases h
  | v :: vs, ws, [], hw, h => by cases h
end LO
