/-! KINDS OF NAMES: the same on both sides -/
theorem i0 : (0 : Int32).toInt = 0 := rfl
theorem zPb_rg {c : Int32} (h : zPb c = true) : (48 ≤ c.toInt ∧ c.toInt ≤ 57 ∧ zDig c ∧ ¬ zCap c) ∨ (65 ≤ c.toInt ∧ c.toInt ≤ 90 ∧ zCap c ∧ ¬ zDig c) := by
  have h1 := of_decide_eq_true h
  simp only [zDig, zCap, Int32.lt_iff_toInt_lt, show (65 : Int32).toInt = 65 from rfl, show (90 : Int32).toInt = 90 from rfl, show (48 : Int32).toInt = 48 from rfl, show (57 : Int32).toInt = 57 from rfl] at h1 ⊢
  omega
theorem zPb_128 {c : Int32} (h : zPb c = true) : uN c < 128 := by
  have h1 := zPb_rg h
  have h2 := (uN_nn (x := c) (by omega)).2
  omega
def cnN (T : Nat → Int32) (p : Int32) : Nat → Nat
  | 0 => 0
  | n + 1 => cnN T p n + (if zCap (zChr T p n) then 1 else 0)
theorem zCp_cn (T : Nat → Int32) (p : Int32) : ∀ n, zCp T p n = Int32.ofNat (cnN T p n)
  | 0 => rfl
  | n + 1 => by
    show zCp T p n + zCb (zChr T p n) = Int32.ofNat (cnN T p n + (if zCap (zChr T p n) then 1 else 0))
    rw [zCp_cn T p n]
    unfold zCb
    by_cases h : zCap (zChr T p n)
    · rw [if_pos h, if_pos h, zOfS]
    · rw [if_neg h, if_neg h, Int32.add_zero, Nat.add_zero]
theorem cn_le (T : Nat → Int32) (p : Int32) : ∀ n, cnN T p n ≤ n
  | 0 => Nat.le_refl _
  | n + 1 => by
    have := cn_le T p n
    show cnN T p n + (if zCap (zChr T p n) then 1 else 0) ≤ n + 1
    split <;> omega
theorem cn_cap {T : Nat → Int32} {p : Int32} : ∀ n, (∀ i, i < n → zPb (zChr T p i) = true) → (cnN T p n = 0 ↔ yCap T p n = false)
  | 0, _ => ⟨fun _ => rfl, fun _ => rfl⟩
  | n + 1, h => by
    have ih := cn_cap n (fun i hi => h i (by omega))
    have hc := zPb_rg (h n (by omega))
    show cnN T p n + (if zCap (zChr T p n) then 1 else 0) = 0 ↔ (yCap T p n || !zDb (zChr T p n)) = false
    rcases hc with ⟨-, -, a, b⟩ | ⟨-, -, a, b⟩
    · rw [if_neg b, zDb_of a, Nat.add_zero, ih]
      simp
    · rw [if_pos a, zDb_no b]
      simp
theorem ofN_inj {a b : Nat} (ha : a ≤ 1000) (hb : b ≤ 1000) : Int32.ofNat a = Int32.ofNat b ↔ a = b := by
  constructor
  · intro h
    have := congrArg Int32.toInt h
    rw [zOfI ha, zOfI hb] at this
    omega
  · intro h
    rw [h]
theorem zChr_0 (T : Nat → Int32) (p : Int32) : zChr T p 0 = T p.toNatClampNeg := by
  unfold zChr
  rw [show Int32.ofNat 0 = 0 from rfl, Int32.add_zero]
theorem zChr_1 (T : Nat → Int32) (p : Int32) : zChr T p 1 = T (p + 1).toNatClampNeg := rfl
/-- the kind of a name of n characters -/
theorem kindOf {T : Nat → Int32} {p q : Int32} {n : Nat} (h0 : 1 ≤ n) (hn : n ≤ 240) (hq : q - p = Int32.ofNat n) (hd : zDn p q = n) (h : ∀ i, i < n → zPb (zChr T p i) = true) :
    (yCap T p n = false ∧ n ≤ 9 ∧ zKn T p n = 1) ∨ (yCap T p n = false ∧ 9 < n ∧ zKn T p n = 0) ∨ (yCap T p n = true ∧ zLoc T p q 66 ∧ zKn T p n = 4) ∨ (yCap T p n = true ∧ zLoc T p q 70 ∧ zKn T p n = 5) ∨ (yCap T p n = true ∧ zLoc T p q 72 ∧ zKn T p n = 3) ∨ (yCap T p n = true ∧ yIs T p q ∧ n ≤ 6 ∧ zKn T p n = 2) ∨ (yCap T p n = true ∧ ¬ yIs T p q ∧ (¬ zLoc T p q 66 ∧ ¬ zLoc T p q 70 ∧ ¬ zLoc T p q 72) ∧ 6 < n ∧ zKn T p n = 0) := by
  have hcn := zCp_cn T p n
  have hle := cn_le T p n
  have hcap := cn_cap n h
  have hi : (Int32.ofNat n).toInt = n := zOfI (by omega)
  unfold zKn zKf
  rw [hcn]
  by_cases hz : cnN T p n = 0
  · rw [hz, if_pos (show Int32.ofNat 0 = 0 from rfl), hcap.1 hz]
    by_cases h9 : n ≤ 9
    · left
      refine ⟨rfl, h9, if_pos ?_⟩
      simp only [Int32.lt_iff_toInt_lt, hi, show (1 : Int32).toInt = 1 from rfl, show (9 : Int32).toInt = 9 from rfl]
      omega
    · right; left
      refine ⟨rfl, by omega, if_neg ?_⟩
      simp only [Int32.lt_iff_toInt_lt, hi, show (1 : Int32).toInt = 1 from rfl, show (9 : Int32).toInt = 9 from rfl]
      omega
  · have hy : yCap T p n = true := by
      cases hh : yCap T p n with
      | true => rfl
      | false => exact absurd (hcap.2 hh) hz
    rw [if_neg (show ¬ Int32.ofNat (cnN T p n) = 0 from fun g => hz ((ofN_inj (b := 0) (by omega) (by omega)).1 g))]
    right; right
    by_cases h2 : n = 2
    · subst h2
      have hq2 : q - p = 2 := hq
      have e0 := zChr_0 T p
      have e1 := zChr_1 T p
      have p0 := zPb_rg (h 0 (by omega))
      have p1 := zPb_rg (h 1 (by omega))
      have hN1 : zN1 (zPk T p (min 2 6)) = T (p + 1).toNatClampNeg := by
        rw [show min 2 6 = 2 from rfl, zN1_pk (fun i hi => zPb_128 (h i hi)), e1]
      have hc2 : cnN T p 2 = (0 + (if zCap (zChr T p 0) then 1 else 0)) + (if zCap (zChr T p 1) then 1 else 0) := rfl
      rw [e0] at p0 hc2
      rw [e1] at p1 hc2
      rw [hN1]
      have w66 : zDig 66 ↔ False := by decide
      have w70 : zDig 70 ↔ False := by decide
      have w72 : zDig 72 ↔ False := by decide
      have hl7 : (2 : Int32) < 7 := by decide
      by_cases h1 : cnN T p 2 = 1
      · rw [h1, if_pos (show Int32.ofNat 2 = 2 ∧ Int32.ofNat 1 = 1 from ⟨rfl, rfl⟩)]
        by_cases g66 : T (p + 1).toNatClampNeg = 66
        · left
          have : zDig (T p.toNatClampNeg) := by
            rcases p0 with ⟨-, -, a, -⟩ | ⟨-, -, a, -⟩
            · exact a
            · exfalso
              rw [if_pos a, if_pos (by rw [g66]; decide)] at hc2
              omega
          exact ⟨hy, ⟨hq2, this, g66⟩, if_pos g66⟩
        · rw [if_neg g66]
          by_cases g70 : T (p + 1).toNatClampNeg = 70
          · right; left
            have : zDig (T p.toNatClampNeg) := by
              rcases p0 with ⟨-, -, a, -⟩ | ⟨-, -, a, -⟩
              · exact a
              · exfalso
                rw [if_pos a, if_pos (by rw [g70]; decide)] at hc2
                omega
            exact ⟨hy, ⟨hq2, this, g70⟩, if_pos g70⟩
          · rw [if_neg g70]
            by_cases g72 : T (p + 1).toNatClampNeg = 72
            · right; right; left
              have : zDig (T p.toNatClampNeg) := by
                rcases p0 with ⟨-, -, a, -⟩ | ⟨-, -, a, -⟩
                · exact a
                · exfalso
                  rw [if_pos a, if_pos (by rw [g72]; decide)] at hc2
                  omega
              exact ⟨hy, ⟨hq2, this, g72⟩, if_pos g72⟩
            · right; right; right; left
              refine ⟨hy, ⟨by rw [hd]; exact hy, by rw [hq2]; exact hl7, fun g => g72 g.2.2, fun g => g66 g.2.2, fun g => g70 g.2.2⟩, by omega, if_neg g72⟩
      · rw [if_neg (show ¬ (Int32.ofNat 2 = 2 ∧ Int32.ofNat (cnN T p 2) = 1) from fun g => h1 ((ofN_inj (b := 1) (by omega) (by omega)).1 g.2)), if_pos (show ¬ 6 < Int32.ofNat 2 by decide)]
        have nd : ¬ zDig (T p.toNatClampNeg) := by
          rcases p0 with ⟨-, -, -, a⟩ | ⟨-, -, -, a⟩
          · exfalso
            rw [if_neg a] at hc2
            split at hc2 <;> omega
          · exact a
        right; right; right; left
        exact ⟨hy, ⟨by rw [hd]; exact hy, by rw [hq2]; exact hl7, fun g => nd g.2.1, fun g => nd g.2.1, fun g => nd g.2.1⟩, by omega, rfl⟩
    · have nl : ∀ c, ¬ zLoc T p q c := fun c g => h2 ((ofN_inj (b := 2) (by omega) (by omega)).1 (hq.symm.trans g.1))
      rw [if_neg (show ¬ (Int32.ofNat n = 2 ∧ Int32.ofNat (cnN T p n) = 1) from fun g => h2 ((ofN_inj (b := 2) (by omega) (by omega)).1 g.1))]
      right; right; right
      by_cases h6 : n ≤ 6
      · left
        refine ⟨hy, ⟨by rw [hd]; exact hy, ?_, nl _, nl _, nl _⟩, h6, if_pos ?_⟩
        · rw [hq, Int32.lt_iff_toInt_lt, hi, show (7 : Int32).toInt = 7 from rfl]
          omega
        · rw [Int32.lt_iff_toInt_lt, hi, show (6 : Int32).toInt = 6 from rfl]
          omega
      · right
        refine ⟨hy, fun g => ?_, ⟨nl _, nl _, nl _⟩, by omega, if_neg ?_⟩
        · have := g.2.1
          rw [hq, Int32.lt_iff_toInt_lt, hi, show (7 : Int32).toInt = 7 from rfl] at this
          omega
        · rw [Int32.lt_iff_toInt_lt, hi, show (6 : Int32).toInt = 6 from rfl]
          omega
