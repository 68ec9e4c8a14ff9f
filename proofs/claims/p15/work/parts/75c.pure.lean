/-! WORDS OF BOTH PROCESSORS: rests, characters -/
theorem dv64 {x : Int64} {l : Int64} (hx : 0 ≤ x.toInt) (hl : 0 < l.toInt) : (x / l).toInt = x.toInt / l.toInt := by
  have h1 := Int64.toInt_lt x
  have h2 : 0 ≤ x.toInt / l.toInt := Int.ediv_nonneg hx (by omega)
  have h3 : x.toInt / l.toInt ≤ x.toInt := Int.ediv_le_self _ hx
  rw [Int64.toInt_div, Int.tdiv_eq_ediv_of_nonneg hx, bm64 (by omega) (by omega)]
theorem rm64 {x : Int64} {l : Int64} (hx : 0 ≤ x.toInt) (hl : 0 < l.toInt) : (x - x / l * l).toInt = x.toInt % l.toInt := by
  have h1 := Int64.toInt_lt x
  have h2 : 0 ≤ x.toInt / l.toInt := Int.ediv_nonneg hx (by omega)
  have h4 : x.toInt / l.toInt * l.toInt ≤ x.toInt := Int.ediv_mul_le _ (by omega)
  have h5 : 0 ≤ x.toInt / l.toInt * l.toInt := Int.mul_nonneg h2 (by omega)
  have h6 := Int.emod_add_mul_ediv x.toInt l.toInt
  rw [Int64.toInt_sub, Int64.toInt_mul, dv64 hx hl, bm64 (x := x.toInt / l.toInt * l.toInt) (by omega) (by omega), bm64 (by omega) (by omega)]
  rw [Int.mul_comm] at h6
  omega
theorem rm32 {x : Int32} {l : Int32} (hx : 0 ≤ x.toInt) (hl : 0 < l.toInt) : (x - x / l * l).toInt = x.toInt % l.toInt := by
  have h1 := Int32.toInt_lt x
  have h2 : 0 ≤ x.toInt / l.toInt := Int.ediv_nonneg hx (by omega)
  have h4 : x.toInt / l.toInt * l.toInt ≤ x.toInt := Int.ediv_mul_le _ (by omega)
  have h5 : 0 ≤ x.toInt / l.toInt * l.toInt := Int.mul_nonneg h2 (by omega)
  have h6 := Int.emod_add_mul_ediv x.toInt l.toInt
  rw [Int32.toInt_sub, Int32.toInt_mul, dv32 hx (by omega), bm32 (x := x.toInt / l.toInt * l.toInt) (by omega) (by omega), bm32 (by omega) (by omega)]
  rw [Int.mul_comm] at h6
  omega
theorem rem30 {x : Int64} (hx : 0 ≤ x.toInt) : x &&& 1073741823 = x - x / 1073741824 * 1073741824 := by
  obtain ⟨h1, h2⟩ := uL_nn hx
  apply Int64.toInt_inj.mp
  rw [rm64 hx (by decide), show (1073741824 : Int64).toInt = 1073741824 from rfl, uL_of_lt (by rw [uL_mask30]; omega), uL_mask30, h2]
  omega
theorem rem12 {x : Int64} (hx : 0 ≤ x.toInt) : x &&& 4095 = x - x / 4096 * 4096 := by
  obtain ⟨h1, h2⟩ := uL_nn hx
  have e : uL (x &&& 4095) = uL x % 4096 := by rw [uL_and, show uL 4095 = 2 ^ 12 - 1 from rfl, Nat.and_two_pow_sub_one_eq_mod]
  apply Int64.toInt_inj.mp
  rw [rm64 hx (by decide), show (4096 : Int64).toInt = 4096 from rfl, uL_of_lt (by rw [e]; omega), e, h2]
  omega
/-- sums -/
theorem sAd_int (w a : Int32) : (sAd w a).toInt = (zVal w).toInt + a.toInt := by
  have h1 := Int32.toInt_lt (zVal w)
  have h2 := Int32.le_toInt (zVal w)
  have h3 := Int32.toInt_lt a
  have h4 := Int32.le_toInt a
  unfold sAd
  rw [Int64.toInt_add, Int32.toInt_toInt64, Int32.toInt_toInt64, bm64 (by omega) (by omega)]
theorem gAd_nn (w a : Int32) : 0 ≤ (gAd (sAd w a)).toInt := by
  have h := sAd_int w a
  have h1 := Int32.toInt_lt (zVal w)
  have h2 := Int32.le_toInt (zVal w)
  have h3 := Int32.toInt_lt a
  have h4 := Int32.le_toInt a
  unfold gAd
  split
  · rw [Int64.toInt_neg, bm64 (by omega) (by omega)]
    omega
  · omega
theorem xAd_ok (r w a : Int32) : xAd r w a = xAy r w a := by
  have h := gAd_nn w a
  unfold xAd xAy lAd
  by_cases q : isAX r
  · rw [if_pos q]
    show (gAd (sAd w a) &&& 1073741823).toInt32 = (gAd (sAd w a) - gAd (sAd w a) / 1073741824 * 1073741824).toInt32
    rw [rem30 h]
  · rw [if_neg q]
    show (gAd (sAd w a) &&& 4095).toInt32 = (gAd (sAd w a) - gAd (sAd w a) / 4096 * 4096).toInt32
    rw [rem12 h]
theorem wAd_ok (r w a : Int32) : wAd r w a = wAy r w a := by
  unfold wAd wAy
  rw [xAd_ok, m2c]
  congr 1
  by_cases h : xAy r w a = 0
  · rw [if_pos h]
    simp only [h, if_true]
    exact (zBit_ite w).symm
  · rw [if_neg h]
    simp only [h, if_false]
/-- characters -/
theorem dQ_ok {w : Int32} (h : 0 ≤ w.toInt) : ∀ k, 0 ≤ (dQ w k).toInt ∧ eQ w.toInt64 k = (dQ w k).toInt64
  | 0 => ⟨h, rfl⟩
  | k + 1 => by
    obtain ⟨a, b⟩ := dQ_ok h k
    have e : (dQ w k / 10).toInt = (dQ w k).toInt / 10 := dv32 (b := 10) a (by decide)
    refine ⟨by show 0 ≤ (dQ w k / 10).toInt; rw [e]; omega, ?_⟩
    show eQ w.toInt64 k / 10 = (dQ w k / 10).toInt64
    rw [b]
    apply Int64.toInt_inj.mp
    have a' : 0 ≤ (dQ w k).toInt64.toInt := by rw [Int32.toInt_toInt64]; exact a
    rw [dv64 (l := 10) a' (by decide), Int32.toInt_toInt64, Int32.toInt_toInt64, e]
    rfl
theorem dC_ok {w : Int32} (h : 0 ≤ w.toInt) : ∀ k, k ≤ 10 → dC w k = eC w.toInt64 k
  | 0, _ => rfl
  | k + 1, hk => by
    obtain ⟨a, b⟩ := dQ_ok h k
    have a' : 0 ≤ (dQ w k).toInt64.toInt := by rw [Int32.toInt_toInt64]; exact a
    unfold dC eC
    rw [dC_ok h k (by omega), b]
    have e1 : (30 + (dQ w k - dQ w k / 10 * 10)).toInt64 = (dQ w k).toInt64 - (dQ w k).toInt64 / 10 * 10 + 30 := by
      have r1 := rm32 (l := 10) a (by decide)
      have r2 := rm64 (l := 10) a' (by decide)
      rw [show (10 : Int32).toInt = 10 from rfl] at r1
      rw [show (10 : Int64).toInt = 10 from rfl, Int32.toInt_toInt64] at r2
      apply Int64.toInt_inj.mp
      rw [Int32.toInt_toInt64, Int32.toInt_add, Int64.toInt_add, r1, r2, show (30 : Int32).toInt = 30 from rfl, show (30 : Int64).toInt = 30 from rfl, bm32 (by omega) (by omega), bm64 (by omega) (by omega)]
      omega
    have e2 : (Int32.ofInt (6 * (k : Int))).toInt64 &&& 63 = (6 * Int32.ofNat k).toInt64 &&& 63 := by
      have hk' : k = 0 ∨ k = 1 ∨ k = 2 ∨ k = 3 ∨ k = 4 ∨ k = 5 ∨ k = 6 ∨ k = 7 ∨ k = 8 ∨ k = 9 := by omega
      rcases hk' with rfl | rfl | rfl | rfl | rfl | rfl | rfl | rfl | rfl | rfl <;> decide
    rw [e1, e2]
/-! shifts -/
section SHF
variable {R : Nat → Int32}
/-- rounds, as numbers -/
theorem gI_uL {f : Int32} {a : Int64} (h : uL a < 1152921504606846976) : ∀ k, k ≤ 10 → uL (gI' f a k) < 1152921504606846976 ∧ uL (gI' f a k) = (if f = 2 then it2 (uL a) k else if f = 3 then it3 (uL a) k else if f = 4 then it4 (uL a) k else if f = 5 then it5 (uL a) k else uL a)
  | 0, _ => by
    refine ⟨h, ?_⟩
    show uL a = _
    split
    · rfl
    · split
      · rfl
      · split
        · rfl
        · split <;> rfl
  | k + 1, hk => by
    obtain ⟨i1, i2⟩ := gI_uL (f := f) h k (by omega)
    show uL (gS f (gI' f a k)) < _ ∧ uL (gS f (gI' f a k)) = _
    have e2 : uL ((gI' f a k <<< ((Int8.ofInt 6).toInt32.toInt64 &&& 63)) &&& (1152921504606846976 - 1)) = uL (gI' f a k) * 64 % 1152921504606846976 := by
      rw [show (1152921504606846976 - 1 : Int64) = 1152921504606846975 by decide, uL_mask60, uL_shl (n := 6) (by decide)]
      simp only [Nat.reducePow]
      omega
    have e3 : uL (gI' f a k >>> ((Int8.ofInt 6).toInt32.toInt64 &&& 63)) = uL (gI' f a k) / 64 := by
      rw [uL_shr (n := 6) (by omega) (by decide)]
    have e4 : uL (gI' f a k >>> ((Int8.ofInt 54).toInt32.toInt64 &&& 63)) = uL (gI' f a k) / 18014398509481984 := by
      rw [uL_shr (n := 54) (by omega) (by decide)]
    have e5 : uL ((gI' f a k &&& 63) <<< ((Int8.ofInt 54).toInt32.toInt64 &&& 63)) = uL (gI' f a k) % 64 * 18014398509481984 := by
      rw [uL_shl (n := 54) (by decide), u63]
      simp only [Nat.reducePow]
      omega
    unfold gS
    by_cases q2 : f = 2
    · rw [if_pos q2, if_pos q2, e2]
      rw [if_pos q2] at i2
      refine ⟨by omega, ?_⟩
      show _ = it2 (uL a) k * 64 % 1152921504606846976
      rw [i2]
    · rw [if_neg q2, if_neg q2]
      rw [if_neg q2] at i2
      by_cases q3 : f = 3
      · rw [if_pos q3, if_pos q3, e3]
        rw [if_pos q3] at i2
        refine ⟨by omega, ?_⟩
        show _ = it3 (uL a) k / 64
        rw [i2]
      · rw [if_neg q3, if_neg q3]
        rw [if_neg q3] at i2
        by_cases q4 : f = 4
        · rw [if_pos q4, if_pos q4]
          rw [if_pos q4] at i2
          have e : uL (((gI' f a k <<< ((Int8.ofInt 6).toInt32.toInt64 &&& 63)) &&& (1152921504606846976 - 1)) ||| (gI' f a k >>> ((Int8.ofInt 54).toInt32.toInt64 &&& 63))) = uL (gI' f a k) * 64 % 1152921504606846976 + uL (gI' f a k) / 18014398509481984 := by
            rw [uL_or, e2, e4]
            have := or_add (a := uL (gI' f a k) % 18014398509481984) (b := uL (gI' f a k) / 18014398509481984) (k := 6) (by simp only [Nat.reducePow]; omega)
            simp only [Nat.reducePow] at this
            rw [show uL (gI' f a k) * 64 % 1152921504606846976 = uL (gI' f a k) % 18014398509481984 * 64 by omega, this]
          rw [e]
          refine ⟨by omega, ?_⟩
          show _ = it4 (uL a) k * 64 % 1152921504606846976 + it4 (uL a) k / 18014398509481984
          rw [i2]
        · rw [if_neg q4, if_neg q4]
          rw [if_neg q4] at i2
          by_cases q5 : f = 5
          · rw [if_pos q5, if_pos q5]
            rw [if_pos q5] at i2
            have e : uL ((gI' f a k >>> ((Int8.ofInt 6).toInt32.toInt64 &&& 63)) ||| ((gI' f a k &&& 63) <<< ((Int8.ofInt 54).toInt32.toInt64 &&& 63))) = uL (gI' f a k) / 64 + uL (gI' f a k) % 64 * 18014398509481984 := by
              rw [uL_or, e3, e5, Nat.or_comm]
              have := or_add (a := uL (gI' f a k) % 64) (b := uL (gI' f a k) / 64) (k := 54) (by simp only [Nat.reducePow]; omega)
              simp only [Nat.reducePow] at this
              rw [this]
              omega
            rw [e]
            refine ⟨by omega, ?_⟩
            show _ = it5 (uL a) k / 64 + it5 (uL a) k % 64 * 18014398509481984
            rw [i2]
          · rw [if_neg q5, if_neg q5]
            rw [if_neg q5] at i2
            exact ⟨i1, i2⟩
end SHF
