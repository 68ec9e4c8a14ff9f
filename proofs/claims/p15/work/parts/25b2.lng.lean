/-! THE MACHINE WITH RANGES IS SOUND: bits of longs -/
theorem rNatL {x : Int64} (h : x.toBitVec.toNat < 9223372036854775808) : x.toInt = (x.toBitVec.toNat : Int) := by
  have h2 : x.toInt = x.toBitVec.toInt := rfl
  rw [h2, BitVec.toInt_eq_toNat_cond, if_pos (by omega)]
theorem rNatL' {x : Int64} (h : 0 ≤ x.toInt) : x.toBitVec.toNat < 9223372036854775808 := by
  have h2 : x.toInt = x.toBitVec.toInt := rfl
  rw [h2, BitVec.toInt_eq_toNat_cond] at h
  split at h
  · omega
  · have := x.toBitVec.isLt
    omega
theorem rLand_ok {x y : Int64} (h : 0 ≤ y.toInt) : 0 ≤ (x &&& y).toInt ∧ (x &&& y).toInt ≤ y.toInt := by
  have h1 := rNatL' h
  have e : (x &&& y).toBitVec.toNat ≤ y.toBitVec.toNat := by
    show (x.toBitVec &&& y.toBitVec).toNat ≤ _
    rw [BitVec.toNat_and]
    exact Nat.and_le_right
  rw [rNatL (x := x &&& y) (by omega), rNatL h1]
  omega
theorem rLand_255 {x y : Int64} (h : 0 ≤ x.toInt) (hy : y.toInt = 255) : (x &&& y).toInt = x.toInt % 256 := by
  have h1 := rNatL' h
  have h2 := rNatL' (x := y) (by omega)
  have h3 : y.toBitVec.toNat = 255 := by have := rNatL h2; omega
  have e : (x &&& y).toBitVec.toNat = x.toBitVec.toNat % 256 := by
    show (x.toBitVec &&& y.toBitVec).toNat = _
    rw [BitVec.toNat_and, h3]
    exact Nat.and_two_pow_sub_one_eq_mod _ 8
  rw [rNatL (x := x &&& y) (by omega), rNatL h1, e]
  omega
theorem rOr_le (a b : Nat) : a ||| b ≤ a + b := by
  have h1 : a ||| b = (a ||| b) := rfl
  induction a using Nat.strongRecOn generalizing b with
  | ind a ih =>
    by_cases ha : a = 0
    · subst ha
      simp
    · have h2 := ih (a / 2) (by omega) (b / 2) rfl
      have h3 : (a ||| b) / 2 = a / 2 ||| b / 2 := Nat.or_div_two
      have h4 : (a ||| b) % 2 ≤ a % 2 + b % 2 := by
        have h7 : (a ||| b) % 2 = a % 2 ||| b % 2 := Nat.or_mod_two_pow (n := 1)
        rw [h7]
        have h5 : a % 2 = 0 ∨ a % 2 = 1 := by omega
        have h6 : b % 2 = 0 ∨ b % 2 = 1 := by omega
        rcases h5 with h5 | h5 <;> rcases h6 with h6 | h6 <;> rw [h5, h6] <;> decide
      omega
theorem rLor_ok {x y : Int64} (hx : 0 ≤ x.toInt) (hy : 0 ≤ y.toInt) : x.toInt ≤ (x ||| y).toInt ∧ y.toInt ≤ (x ||| y).toInt ∧ (x ||| y).toInt ≤ x.toInt + y.toInt ∧ (y.toInt % 256 = 0 → x.toInt < 256 → (x ||| y).toInt = x.toInt + y.toInt) := by
  have h1 := rNatL' hx
  have h2 := rNatL' hy
  have e : (x ||| y).toBitVec.toNat = x.toBitVec.toNat ||| y.toBitVec.toNat := by
    show (x.toBitVec ||| y.toBitVec).toNat = _
    rw [BitVec.toNat_or]
  have h3 : x.toBitVec.toNat ||| y.toBitVec.toNat < 2 ^ 63 := Nat.or_lt_two_pow h1 h2
  have h4 : x.toBitVec.toNat ≤ x.toBitVec.toNat ||| y.toBitVec.toNat := Nat.left_le_or
  have h5 : y.toBitVec.toNat ≤ x.toBitVec.toNat ||| y.toBitVec.toNat := Nat.right_le_or
  have h6 := rOr_le x.toBitVec.toNat y.toBitVec.toNat
  rw [rNatL (x := x ||| y) (by rw [e]; exact h3), rNatL h1, rNatL h2, e]
  refine ⟨by omega, by omega, by omega, fun k1 k2 => ?_⟩
  have h7 : y.toBitVec.toNat = 2 ^ 8 * (y.toBitVec.toNat / 256) := by omega
  have h8 := Nat.two_pow_add_eq_or_of_lt (i := 8) (b := x.toBitVec.toNat) (by omega) (y.toBitVec.toNat / 256)
  rw [← h7] at h8
  rw [Nat.or_comm, ← h8]
  omega
theorem rSh63 : ∀ k : Fin 64, ((Int32.ofNat k.val).toInt64 &&& 63).toBitVec.smod 64 = BitVec.ofNat 64 k.val := by decide +kernel
theorem rShk {y : Int32} (h1 : 0 ≤ y.toInt) (h2 : y.toInt < 63) : (y.toInt64 &&& 63).toBitVec.smod 64 = BitVec.ofNat 64 y.toInt.toNat := by
  have hk : y = Int32.ofNat y.toInt.toNat := by
    apply Int32.toInt_inj.mp
    show y.toInt = (Int32.ofInt (y.toInt.toNat : Int)).toInt
    rw [Int.toNat_of_nonneg (by omega), rInt (by unfold rI0; omega) (by unfold rI1; omega)]
  have := rSh63 ⟨y.toInt.toNat, by omega⟩
  dsimp only at this
  rw [← hk] at this
  exact this
theorem rShl_ok {x : Int64} {y : Int32} {p q : Int × Int} (x1 : q.1 ≤ x.toInt) (x2 : x.toInt ≤ q.2) (y1 : p.1 ≤ y.toInt) (y2 : y.toInt ≤ p.2) : (rShl q p).1 ≤ (x <<< (y.toInt64 &&& 63)).toInt ∧ (x <<< (y.toInt64 &&& 63)).toInt ≤ (rShl q p).2 := by
  unfold rShl
  split
  · rename_i h
    have ey : y.toInt = p.1 := by omega
    have hx := rNatL' (x := x) (by omega)
    have hp : (0 : Int) < 2 ^ p.1.toNat := Int.pow_pos (by omega)
    have m1 : q.1 * 2 ^ p.1.toNat ≤ x.toInt * 2 ^ p.1.toNat := Int.mul_le_mul_of_nonneg_right x1 (by omega)
    have m2 : x.toInt * 2 ^ p.1.toNat ≤ q.2 * 2 ^ p.1.toNat := Int.mul_le_mul_of_nonneg_right x2 (by omega)
    have m3 : x.toInt * 2 ^ p.1.toNat ≤ 9223372036854775807 := by have := h.2.2.2.2; unfold rL1 at this; omega
    have en : ((x.toBitVec.toNat * 2 ^ p.1.toNat : Nat) : Int) = x.toInt * 2 ^ p.1.toNat := by rw [rNatL hx]; norm_cast
    have e : (x <<< (y.toInt64 &&& 63)).toBitVec.toNat = x.toBitVec.toNat * 2 ^ p.1.toNat := by
      show (x.toBitVec <<< ((y.toInt64 &&& 63).toBitVec.smod 64)).toNat = _
      rw [rShk (by omega) (by omega), ey]
      show (x.toBitVec <<< (BitVec.ofNat 64 p.1.toNat).toNat).toNat = _
      rw [BitVec.toNat_ofNat, Nat.mod_eq_of_lt (by omega), BitVec.toNat_shiftLeft, Nat.shiftLeft_eq]
      exact Nat.mod_eq_of_lt (by omega)
    have e2 : (x <<< (y.toInt64 &&& 63)).toInt = x.toInt * 2 ^ p.1.toNat := by
      rw [rNatL (by rw [e]; omega), e, en]
    rw [e2]
    exact ⟨m1, m2⟩
  · exact ⟨Int64.le_toInt _, Int64.toInt_le _⟩
theorem rShr_ok {x : Int64} {y : Int32} {p q : Int × Int} (x1 : q.1 ≤ x.toInt) (x2 : x.toInt ≤ q.2) (y1 : p.1 ≤ y.toInt) (y2 : y.toInt ≤ p.2) : (rShr q p).1 ≤ (x >>> (y.toInt64 &&& 63)).toInt ∧ (x >>> (y.toInt64 &&& 63)).toInt ≤ (rShr q p).2 := by
  unfold rShr
  split
  · rename_i h
    have ey : y.toInt = p.1 := by omega
    have hp : (0 : Int) < 2 ^ p.1.toNat := Int.pow_pos (by omega)
    have e : (x >>> (y.toInt64 &&& 63)).toInt = x.toInt / 2 ^ p.1.toNat := by
      show (x.toBitVec.sshiftRight' ((y.toInt64 &&& 63).toBitVec.smod 64)).toInt = _
      rw [rShk (by omega) (by omega), ey]
      show (x.toBitVec.sshiftRight (BitVec.ofNat 64 p.1.toNat).toNat).toInt = _
      rw [BitVec.toNat_ofNat, Nat.mod_eq_of_lt (by omega), BitVec.toInt_sshiftRight, Int.shiftRight_eq_div_pow]
      rfl
    rw [e]
    exact ⟨Int.ediv_le_ediv hp x1, Int.ediv_le_ediv hp x2⟩
  · exact ⟨Int64.le_toInt _, Int64.toInt_le _⟩
