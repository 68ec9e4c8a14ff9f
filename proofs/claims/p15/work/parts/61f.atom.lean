/-! ATOMS: the same on both sides -/
theorem run_ok {T : Nat → Int32} {e p : Int32} (hp0 : 0 ≤ p.toInt) (hp : p.toInt ≤ 1000) (he : e.toInt ≤ 240) : ∃ n, zDn p (zRun T e p) = n ∧ n ≤ 240 ∧ zRun T e p - p = Int32.ofNat n ∧ (zRun T e p).toInt = p.toInt + n ∧ (∀ i, i < n → zPb (zChr T p i) = true) := by
  have h := zSc_le (fun k => zPb (T k.toNatClampNeg)) e p
  have hq : zSc (fun k => zPb (T k.toNatClampNeg)) e p = zRun T e p := rfl
  rw [hq] at h
  have h3 : (zRun T e p).toInt ≤ 240 ∨ zRun T e p = p := by
    rcases h.2.1 with a | a
    · exact .inl (by omega)
    · exact .inr a
  have hn : ((zRun T e p).toInt - p.toInt).toNat ≤ 240 := by
    rcases h3 with a | a
    · omega
    · rw [a]
      omega
  refine ⟨((zRun T e p).toInt - p.toInt).toNat, rfl, hn, ?_, by omega, ?_⟩
  · apply Int32.toInt_inj.mp
    rw [Int32.toInt_sub, zOfI (by omega), bm32 (by omega) (by omega)]
    omega
  · intro i hi
    have e1 : (p + Int32.ofNat i).toInt = p.toInt + i := by
      rw [Int32.toInt_add, zOfI (by omega), bm32 (by omega) (by omega)]
    exact zSc_all (p := fun k => zPb (T k.toNatClampNeg)) (e := e) (a := p) (k := p + Int32.ofNat i) (by omega) (by rw [hq]; omega)
theorem yNv_zNu (T : Nat → Int32) (p : Int32) : ∀ n, yNv T p n = zNu T p n
  | 0 => rfl
  | n + 1 => by
    show 10 * yNv T p n + zChr T p n - 48 = zNu T p n * 10 + (zChr T p n - 48)
    rw [yNv_zNu T p n, Int32.mul_comm, Int32.sub_eq_add_neg, Int32.sub_eq_add_neg, Int32.add_assoc]
theorem yCap_dig {T : Nat → Int32} {p : Int32} : ∀ n, yCap T p n = false → ∀ i, i < n → zDig (zChr T p i)
  | 0, _, _, hi => absurd hi (Nat.not_lt_zero _)
  | n + 1, h, i, hi => by
    have h' : (yCap T p n || !zDb (zChr T p n)) = false := h
    rw [Bool.or_eq_false_iff] at h'
    by_cases hn : i = n
    · rw [hn]
      have h2 := h'.2
      rw [Bool.not_eq_false'] at h2
      exact of_decide_eq_true h2
    · exact yCap_dig n h'.1 i (by omega)
theorem zNu_int {T : Nat → Int32} {p : Int32} : ∀ n, n ≤ 9 → (∀ i, i < n → zDig (zChr T p i)) → 0 ≤ (zNu T p n).toInt ∧ (zNu T p n).toInt < 10 ^ n
  | 0, _, _ => ⟨show 0 ≤ (0 : Int32).toInt by decide, show (0 : Int32).toInt < 10 ^ 0 by decide⟩
  | n + 1, h9, h => by
    have ih := zNu_int n (by omega) (fun i hi => h i (by omega))
    have hc := h n (by omega)
    simp only [zDig, Int32.lt_iff_toInt_lt, show (48 : Int32).toInt = 48 from rfl, show (57 : Int32).toInt = 57 from rfl] at hc
    have hb : (10 : Int) ^ n ≤ 100000000 := by
      have : 10 ^ n ≤ 10 ^ 8 := Nat.pow_le_pow_right (by omega) (by omega)
      have h2 : ((10 ^ n : Nat) : Int) = (10 : Int) ^ n := by simp
      omega
    show 0 ≤ (zNu T p n * 10 + (zChr T p n - 48)).toInt ∧ (zNu T p n * 10 + (zChr T p n - 48)).toInt < (10 : Int) ^ (n + 1)
    have e1 : (zChr T p n - 48).toInt = (zChr T p n).toInt - 48 := by
      rw [Int32.toInt_sub, show (48 : Int32).toInt = 48 from rfl, bm32 (by omega) (by omega)]
    have e2 : (zNu T p n * 10).toInt = (zNu T p n).toInt * 10 := by
      rw [Int32.toInt_mul, show (10 : Int32).toInt = 10 from rfl, bm32 (by omega) (by omega)]
    rw [Int32.toInt_add, e1, e2, bm32 (by omega) (by omega), Int.pow_succ]
    omega
theorem zNu_ok {T : Nat → Int32} {p : Int32} {n : Nat} (h9 : n ≤ 9) (h : yCap T p n = false) : vOk (zNu T p n) := by
  have h1 := zNu_int n h9 (yCap_dig n h)
  have hb : (10 : Int) ^ n ≤ 1000000000 := by
    have : 10 ^ n ≤ 10 ^ 9 := Nat.pow_le_pow_right (by omega) h9
    have h2 : ((10 ^ n : Nat) : Int) = (10 : Int) ^ n := by simp
    omega
  exact ⟨by omega, by omega⟩
/-- symbols and digits that have a value -/
def lRel (L : Int64 → Int32) (τ : zS) : Prop := ∀ nm, (L nm = -1 ∧ ¬ (¬ yFd τ nm < 0 ∧ yHas τ (yFd τ nm))) ∨ (wOk (L nm) ∧ L nm = τ.2.2.1 37 (yFd τ nm).toNatClampNeg ∧ ¬ yFd τ nm < 0 ∧ yHas τ (yFd τ nm))
def dRel (D : Nat → Int32) (τ : zS) : Prop := ∀ d, d < 10 → (D d = -1 ∧ τ.2.2.1 39 d = 0) ∨ (wOk (D d) ∧ D d = τ.2.2.1 40 d ∧ ¬ τ.2.2.1 39 d = 0)
theorem wOk_ne {w : Int32} (h : wOk w) : ¬ w = -1 := fun g => by
  rw [g] at h
  exact absurd h (by decide)
theorem yH_42 {τ : zS} {p c : Int32} (hc : ¬ c = -1) : yH τ p = c ↔ p < yE τ ∧ yT τ p.toNatClampNeg = c := by
  constructor
  · intro h
    exact yH_lt h hc
  · intro h
    show (if p < yE τ then _ else _) = c
    rw [if_pos h.1]
    exact h.2
theorem dig_lt {c : Int32} (h : zDig c) : (c - 48).toNatClampNeg < 10 ∧ 0 ≤ (c - 48).toInt ∧ (c - 48).toInt < 10 := by
  simp only [zDig, Int32.lt_iff_toInt_lt, show (48 : Int32).toInt = 48 from rfl, show (57 : Int32).toInt = 57 from rfl] at h
  have e1 : (c - 48).toInt = c.toInt - 48 := by
    rw [Int32.toInt_sub, show (48 : Int32).toInt = 48 from rfl, bm32 (by omega) (by omega)]
  refine ⟨?_, by omega, by omega⟩
  show (c - 48).toInt.toNat < 10
  omega
theorem min6 {n : Nat} (h : n ≤ 6) : min n 6 = n ∧ min n 8 = n := ⟨Nat.min_eq_left h, Nat.min_eq_left (by omega)⟩
theorem atom_ok {L : Int64 → Int32} {D : Nat → Int32} {τ : zS} (hv : vOk (yPl τ)) (hL : lRel L τ) (hD : dRel D τ) (h240 : (yE τ).toInt ≤ 240) {p : Int32} (hp0 : 0 ≤ p.toInt) (hp : p.toInt ≤ 1000) : sAtom (yT τ) (yE τ) (yPl τ) L D p = yA τ p ∧ ∀ b, yA τ p = some b → vOk b.1 := by
  have h42 := yH_42 (τ := τ) (p := p) (c := 42) (by decide)
  unfold sAtom yA
  by_cases hs : yH τ p = 42
  · rw [if_pos (h42.1 hs), if_pos hs]
    have hb : yBd (yPl τ).toInt64 := by
      show _ < (yPl τ).toInt64.toInt ∧ (yPl τ).toInt64.toInt < _
      rw [Int32.toInt_toInt64]
      exact hv
    rw [if_pos hb, Int32.toInt32_toInt64]
    exact ⟨rfl, fun b hb' => by cases hb'; exact hv⟩
  · rw [if_neg (fun g => hs (h42.2 g)), if_neg hs]
    obtain ⟨n, hd, hn, hq, hi, hpl⟩ := run_ok (T := yT τ) (e := yE τ) hp0 hp h240
    generalize zRun (yT τ) (yE τ) p = q at hd hq hi
    rw [hd]
    by_cases hqp : q = p
    · have hz : n = 0 := by rw [hqp] at hi; omega
      rw [if_pos hqp]
      have hK : zKn (yT τ) p n = 0 := by
        rw [hz]
        unfold zKn zKf
        rw [if_pos (show zCp (yT τ) p 0 = 0 from rfl), if_neg (by decide)]
      unfold sName
      rw [hK, if_neg (by decide), if_neg (by decide), if_neg (by decide)]
      exact ⟨rfl, fun b hb => by cases hb⟩
    · have h1 : 1 ≤ n := by
        rcases Nat.eq_zero_or_pos n with h | h
        · exfalso
          apply hqp
          apply Int32.toInt_inj.mp
          omega
        · exact h
      rw [if_neg hqp]
      unfold sName yNa
      have hcf : yCap (yT τ) p (zDn p q) = yCap (yT τ) p n := by rw [hd]
      have hni : (q - p).toInt = n := by rw [hq, zOfI (by omega)]
      rcases kindOf h1 hn hq hd hpl with ⟨a, b, c⟩ | ⟨a, b, c⟩ | ⟨a, b, c⟩ | ⟨a, b, c⟩ | ⟨a, b, c⟩ | ⟨a, b, b2, c⟩ | ⟨a, b, b2, b3, c⟩
      · rw [c, if_pos rfl, if_pos (hcf.trans a), if_neg (by rw [Int32.lt_iff_toInt_lt, hni, show (9 : Int32).toInt = 9 from rfl]; omega), hd, Nat.min_eq_left b, yNv_zNu]
        exact ⟨rfl, fun b' hb => by cases hb; exact zNu_ok b a⟩
      · rw [c, if_neg (by decide), if_neg (by decide), if_neg (by decide), if_pos (hcf.trans a), if_pos (by rw [Int32.lt_iff_toInt_lt, hni, show (9 : Int32).toInt = 9 from rfl]; omega)]
        exact ⟨rfl, fun b hb => by cases hb⟩
      · have hn2 : n = 2 := (ofN_inj (b := 2) (by omega) (by omega)).1 (hq.symm.trans b.1)
        have e0 : zD0 (zPk (yT τ) p (min n 6)) = yT τ p.toNatClampNeg - 48 := by
          rw [hn2, zD0_pk (by omega) (by omega) (fun i hi => zPb_128 (hpl i (by omega))), zChr_0]
        rw [c, if_neg (by decide), if_pos rfl, if_neg (show ¬ yCap (yT τ) p (zDn p q) = false by rw [hcf, a]; exact Bool.noConfusion), if_pos b, e0]
        have hdl := dig_lt b.2.1
        rcases hD _ hdl.1 with ⟨g1, g2⟩ | ⟨g1, g2, g3⟩
        · rw [if_pos g1, if_neg (show ¬ yBk τ _ from fun g => g g2)]
          exact ⟨rfl, fun b hb => by cases hb⟩
        · rw [if_neg (wOk_ne g1), if_pos (show yBk τ _ from g3), ← g2]
          exact ⟨rfl, fun b hb => by cases hb; exact zVal_ok g1⟩
      · rw [c, if_neg (by decide), if_neg (by decide), if_neg (by decide), if_neg (show ¬ yCap (yT τ) p (zDn p q) = false by rw [hcf, a]; exact Bool.noConfusion), if_neg (fun g : zLoc (yT τ) p q 66 => absurd (g.2.2.symm.trans b.2.2) (by decide)), if_neg (fun g => g.1.2.2.2.2 b)]
        exact ⟨rfl, fun b hb => by cases hb⟩
      · rw [c, if_neg (by decide), if_neg (by decide), if_neg (by decide), if_neg (show ¬ yCap (yT τ) p (zDn p q) = false by rw [hcf, a]; exact Bool.noConfusion), if_neg (fun g : zLoc (yT τ) p q 66 => absurd (g.2.2.symm.trans b.2.2) (by decide)), if_neg (fun g => g.1.2.2.1 b)]
        exact ⟨rfl, fun b hb => by cases hb⟩
      · have e8 : yNm τ p q = zPk (yT τ) p (min n 6) := by
          show zPk (yT τ) p (min (zDn p q) 8) = _
          rw [hd, (min6 b2).1, (min6 b2).2]
        rw [c, if_neg (by decide), if_neg (by decide), if_pos rfl, if_neg (show ¬ yCap (yT τ) p (zDn p q) = false by rw [hcf, a]; exact Bool.noConfusion), if_neg b.2.2.2.1, e8]
        rcases hL (zPk (yT τ) p (min n 6)) with ⟨g1, g2⟩ | ⟨g1, g2, g3⟩
        · rw [if_pos g1, if_neg (fun g => g2 g.2)]
          exact ⟨rfl, fun b hb => by cases hb⟩
        · rw [if_neg (wOk_ne g1), if_pos ⟨b, g3⟩, ← g2]
          exact ⟨rfl, fun b hb => by cases hb; exact zVal_ok g1⟩
      · rw [c, if_neg (by decide), if_neg (by decide), if_neg (by decide), if_neg (show ¬ yCap (yT τ) p (zDn p q) = false by rw [hcf, a]; exact Bool.noConfusion), if_neg b2.1, if_neg (fun g => b g.1)]
        exact ⟨rfl, fun b hb => by cases hb⟩
