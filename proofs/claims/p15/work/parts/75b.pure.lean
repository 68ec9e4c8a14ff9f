/-! WORDS OF BOTH PROCESSORS: products, conversions, shifts -/
theorem m2c (x : Int32) : x * 2 = 2 * x := Int32.mul_comm x 2
theorem mu_ok (R : Nat → Int32) (v : Int32) : rMu R v = qMu R v := by
  unfold rMu qMu
  simp only [m2c, par]
theorem dv_ok (R : Nat → Int32) (v : Int32) : rDv R v = qDv R v := by
  unfold rDv qDv
  simp only [m2c, par, zBit_ite]
theorem dvB_ok (R : Nat → Int32) (v : Int32) : dvB R v ↔ ¬ zMag (R 0) < zMag v := by
  unfold dvB
  constructor
  · rintro (h | h)
    · intro q
      have := Int32.lt_iff_toInt_lt.mp q
      have h1 := zMag_nn (R 0)
      rw [h, show (0 : Int32).toInt = 0 from rfl] at this
      omega
    · exact h
  · exact .inr
theorem sm_ok (R : Nat → Int32) (x : Int32) : rSM R 0 x = qSM R 0 x := by
  unfold rSM qSM
  show upd R 0 (x * 2 + (R 0 &&& 1)) = _
  rw [m2c, zBit_ite]
theorem sm7_ok (R : Nat → Int32) (x : Int32) : rSM R 7 x = qSM R 7 x := by
  unfold rSM qSM
  show upd R 7 (x * 2 + (R 7 &&& 1)) = _
  rw [m2c, zBit_ite]
theorem sb_ok (R : Nat → Int32) (t : Int64) : rSB R t = qSB R t := by
  unfold rSB qSB
  rw [sm_ok, sm7_ok]
section TEN
variable {R : Nat → Int32}
theorem mag_lt {w : Int32} (h : wOk w) : uN (zMag w) < 1073741824 := by
  rw [uN_mag]
  have := wOk_lt h
  omega
theorem ten_uL (h0 : wOk (R 0)) (h7 : wOk (R 7)) : uL (zTen R) = uN (zMag (R 0)) * 1073741824 + uN (zMag (R 7)) := by
  have a := mag_lt h0
  have b := mag_lt h7
  unfold zTen
  rw [uL_or, uL_shl (n := 30) rfl, uL_of (by omega), uL_of (by omega)]
  rw [Nat.mod_eq_of_lt (by omega)]
  exact or_add (k := 30) b
theorem ten_lt (h0 : wOk (R 0)) (h7 : wOk (R 7)) : uL (zTen R) < 1152921504606846976 := by
  have a := mag_lt h0
  have b := mag_lt h7
  rw [ten_uL h0 h7]
  omega
theorem u63 (x : Int64) : uL (x &&& 63) = uL x % 64 := by
  rw [uL_and, show uL 63 = 2 ^ 6 - 1 from rfl, Nat.and_two_pow_sub_one_eq_mod]
theorem n63 (x : Int32) : uN (x &&& 63) = uN x % 64 := by
  rw [uN_and, show uN 63 = 2 ^ 6 - 1 from rfl, Nat.and_two_pow_sub_one_eq_mod]
/-- a byte of ten -/
theorem byte_ok (h0 : wOk (R 0)) (h7 : wOk (R 7)) (k : Nat) (hk : k < 10) : ∃ b : Fin 64, (zTen R >>> ((Int32.ofInt (54 - 6 * (k : Int))).toInt64 &&& 63)) &&& 63 = (Int32.ofNat b.val).toInt64 ∧ yByt (if Int32.ofNat k < 5 then R 0 else R 7) (Int32.ofNat k - Int32.ofNat k / 5 * 5) = Int32.ofNat b.val := by
  have a := mag_lt h0
  have b := mag_lt h7
  have ht := ten_uL h0 h7
  have hl := ten_lt h0 h7
  have both : ∀ (s : Int64) (w j : Int32) (ns nj : Nat), (s.toBitVec.smod 64).toNat = ns → (((6 * (4 - j)) &&& 31).toBitVec.smod 32).toNat = nj → uL (zTen R) / 2 ^ ns % 64 = uN (zMag w) / 2 ^ nj % 64 → ∃ b : Fin 64, (zTen R >>> s) &&& 63 = (Int32.ofNat b.val).toInt64 ∧ yByt w j = Int32.ofNat b.val := by
    intro s w j ns nj hs hj e
    have hb : uN (zMag w) / 2 ^ nj % 64 < 64 := Nat.mod_lt _ (by decide)
    refine ⟨⟨uN (zMag w) / 2 ^ nj % 64, hb⟩, ?_, ?_⟩
    · apply uL_inj
      rw [u63, uL_shr (by omega) hs, e]
      have : uN (Int32.ofNat (uN (zMag w) / 2 ^ nj % 64)) = uN (zMag w) / 2 ^ nj % 64 := by
        rw [uN_lit]
        omega
      rw [uL_of (by rw [this]; omega), this]
    · apply uN_inj
      unfold yByt
      rw [n63, uN_shr (by have := uN_mag w; have := uN_lt w; omega) hj, uN_lit]
      show _ = (uN (zMag w) / 2 ^ nj % 64) % 4294967296
      rw [Nat.mod_eq_of_lt (Nat.lt_trans hb (by decide))]
  have hk' : k = 0 ∨ k = 1 ∨ k = 2 ∨ k = 3 ∨ k = 4 ∨ k = 5 ∨ k = 6 ∨ k = 7 ∨ k = 8 ∨ k = 9 := by omega
  rcases hk' with rfl | rfl | rfl | rfl | rfl | rfl | rfl | rfl | rfl | rfl
  · exact both _ (R 0) 0 54 24 (by decide) (by decide) (by rw [ht]; simp only [Nat.reducePow]; omega)
  · exact both _ (R 0) 1 48 18 (by decide) (by decide) (by rw [ht]; simp only [Nat.reducePow]; omega)
  · exact both _ (R 0) 2 42 12 (by decide) (by decide) (by rw [ht]; simp only [Nat.reducePow]; omega)
  · exact both _ (R 0) 3 36 6 (by decide) (by decide) (by rw [ht]; simp only [Nat.reducePow]; omega)
  · exact both _ (R 0) 4 30 0 (by decide) (by decide) (by rw [ht]; simp only [Nat.reducePow]; omega)
  · exact both _ (R 7) 0 24 24 (by decide) (by decide) (by rw [ht]; simp only [Nat.reducePow]; omega)
  · exact both _ (R 7) 1 18 18 (by decide) (by decide) (by rw [ht]; simp only [Nat.reducePow]; omega)
  · exact both _ (R 7) 2 12 12 (by decide) (by decide) (by rw [ht]; simp only [Nat.reducePow]; omega)
  · exact both _ (R 7) 3 6 6 (by decide) (by decide) (by rw [ht]; simp only [Nat.reducePow]; omega)
  · exact both _ (R 7) 4 0 0 (by decide) (by decide) (by rw [ht]; simp only [Nat.reducePow]; omega)
theorem dig : ∀ b : Fin 64, (Int32.ofNat b.val).toInt64 - (Int32.ofNat b.val).toInt64 / 10 * 10 = (Int32.ofNat b.val - Int32.ofNat b.val / 10 * 10).toInt64 ∧ 0 ≤ (Int32.ofNat b.val - Int32.ofNat b.val / 10 * 10).toInt64.toInt ∧ (Int32.ofNat b.val - Int32.ofNat b.val / 10 * 10).toInt64.toInt ≤ 9 := by decide +kernel
theorem dN_ok (h0 : wOk (R 0)) (h7 : wOk (R 7)) : ∀ k, k ≤ 10 → dN (zTen R) k = eN R k ∧ 0 ≤ (eN R k).toInt ∧ (eN R k).toInt < 10 ^ k
  | 0, _ => ⟨rfl, (by show (0 : Int) ≤ (0 : Int64).toInt; decide), (by show (0 : Int64).toInt < (10 : Int) ^ 0; decide)⟩
  | k + 1, hk => by
    obtain ⟨i1, i2, i3⟩ := dN_ok h0 h7 k (by omega)
    obtain ⟨b, b1, b2⟩ := byte_ok h0 h7 k (by omega)
    obtain ⟨d1, d2, d3⟩ := dig b
    have hp : (10 : Int) ^ k ≤ 1000000000 := by
      have hk' : k = 0 ∨ k = 1 ∨ k = 2 ∨ k = 3 ∨ k = 4 ∨ k = 5 ∨ k = 6 ∨ k = 7 ∨ k = 8 ∨ k = 9 := by omega
      rcases hk' with rfl | rfl | rfl | rfl | rfl | rfl | rfl | rfl | rfl | rfl <;> decide
    have e : dN (zTen R) (k + 1) = eN R (k + 1) := by
      unfold dN eN
      rw [b1, b2, d1, i1, Int64.mul_comm]
    refine ⟨e, ?_⟩
    have ev : (eN R (k + 1)).toInt = 10 * (eN R k).toInt + (Int32.ofNat b.val - Int32.ofNat b.val / 10 * 10).toInt64.toInt := by
      conv => lhs; unfold eN
      rw [b2, Int64.toInt_add, Int64.toInt_mul, show (10 : Int64).toInt = 10 from rfl, bm64 (x := 10 * (eN R k).toInt) (by omega) (by omega), bm64 (by omega) (by omega)]
    rw [ev, Int.pow_succ]
    omega
end TEN
