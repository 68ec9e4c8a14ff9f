/-! NUMBERS OF BOTH SIDES: as natural numbers -/
def uN (x : Int32) : Nat := x.toBitVec.toNat
theorem uN_lt (x : Int32) : uN x < 4294967296 := x.toBitVec.isLt
theorem uN_inj {x y : Int32} (h : uN x = uN y) : x = y := Int32.toBitVec_inj.1 (BitVec.eq_of_toNat_eq h)
theorem uN_and (x y : Int32) : uN (x &&& y) = uN x &&& uN y := by
  unfold uN
  rw [Int32.toBitVec_and, BitVec.toNat_and]
theorem uN_or (x y : Int32) : uN (x ||| y) = uN x ||| uN y := by
  unfold uN
  rw [Int32.toBitVec_or, BitVec.toNat_or]
theorem uN_add (x y : Int32) : uN (x + y) = (uN x + uN y) % 4294967296 := by
  unfold uN
  rw [Int32.toBitVec_add, BitVec.toNat_add]
theorem uN_mul (x y : Int32) : uN (x * y) = (uN x * uN y) % 4294967296 := by
  unfold uN
  rw [Int32.toBitVec_mul, BitVec.toNat_mul]
theorem uN_int (x : Int32) : x.toInt = if uN x < 2147483648 then (uN x : Int) else (uN x : Int) - 4294967296 := by
  have := uN_lt x
  unfold uN at *
  show x.toBitVec.toInt = _
  rw [BitVec.toInt_eq_toNat_cond]
  split <;> split <;> omega
theorem uN_nn {x : Int32} (h : 0 ≤ x.toInt) : uN x < 2147483648 ∧ x.toInt = uN x := by
  have h1 := uN_int x
  have := uN_lt x
  split at h1
  · exact ⟨by assumption, h1⟩
  · omega
theorem uN_lit (n : Nat) : uN (Int32.ofNat n) = n % 4294967296 := by
  unfold uN
  rw [Int32.toBitVec_ofNat']
  exact BitVec.toNat_ofNat n 32
theorem uN_shl {x k : Int32} {n : Nat} (hk : (k.toBitVec.smod 32).toNat = n) : uN (x <<< k) = uN x * 2 ^ n % 4294967296 := by
  unfold uN
  rw [Int32.toBitVec_shiftLeft, BitVec.shiftLeft_eq', BitVec.toNat_shiftLeft, Nat.shiftLeft_eq, hk]
theorem uN_mag (x : Int32) : uN (zMag x) = uN x / 2 := by
  show (x.toBitVec >>> 1).toNat = _
  rw [BitVec.toNat_ushiftRight, Nat.shiftRight_eq_div_pow]
  rfl
theorem zMag_nn (x : Int32) : 0 ≤ (zMag x).toInt := by
  have h1 := uN_int (zMag x)
  have h2 := uN_mag x
  have h3 := uN_lt x
  rw [h1, if_pos (by omega)]
  omega
theorem zMag_int (x : Int32) : (zMag x).toInt = (uN x / 2 : Nat) := by
  rw [(uN_nn (zMag_nn x)).2, uN_mag]
theorem uN_bit (x : Int32) : uN (x &&& 1) = uN x % 2 := by
  rw [uN_and, show uN 1 = 1 from rfl, Nat.and_one_is_mod]
theorem zBit_ite (x : Int32) : (if x &&& 1 = 1 then (1 : Int32) else 0) = x &&& 1 := by
  have h := uN_bit x
  split
  · rename_i h1
    exact h1.symm
  · rename_i h1
    apply uN_inj
    rw [h]
    have h2 : ¬ uN x % 2 = 1 := fun e => h1 (uN_inj (h.trans e))
    show 0 = _
    omega
theorem uN_lt_iff {x : Int32} {n : Nat} (hx : 0 ≤ x.toInt) (hn : n < 2147483648) : x < Int32.ofNat n ↔ uN x < n := by
  have h1 := uN_nn hx
  rw [Int32.lt_iff_toInt_lt, h1.2, Int32.toInt_ofNat_of_lt (by omega)]
  omega
