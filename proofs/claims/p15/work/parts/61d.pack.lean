/-! NAMES: packed characters as numbers -/
def uL (x : Int64) : Nat := x.toBitVec.toNat
theorem uL_inj {x y : Int64} (h : uL x = uL y) : x = y := Int64.toBitVec_inj.1 (BitVec.eq_of_toNat_eq h)
theorem uL_or (x y : Int64) : uL (x ||| y) = uL x ||| uL y := by
  unfold uL
  rw [Int64.toBitVec_or, BitVec.toNat_or]
theorem uL_and (x y : Int64) : uL (x &&& y) = uL x &&& uL y := by
  unfold uL
  rw [Int64.toBitVec_and, BitVec.toNat_and]
theorem uL_shl {x k : Int64} {n : Nat} (hk : (k.toBitVec.smod 64).toNat = n) : uL (x <<< k) = uL x * 2 ^ n % 18446744073709551616 := by
  unfold uL
  rw [Int64.toBitVec_shiftLeft, BitVec.shiftLeft_eq', BitVec.toNat_shiftLeft, Nat.shiftLeft_eq, hk]
theorem uL_shr {x k : Int64} {n : Nat} (hx : uL x < 9223372036854775808) (hk : (k.toBitVec.smod 64).toNat = n) : uL (x >>> k) = uL x / 2 ^ n := by
  unfold uL at *
  rw [Int64.toBitVec_shiftRight, BitVec.sshiftRight_eq', hk, BitVec.sshiftRight_eq_of_msb_false (BitVec.msb_eq_false_iff_two_mul_lt.mpr (by omega)), BitVec.toNat_ushiftRight, Nat.shiftRight_eq_div_pow]
theorem uL_32 (x : Int64) : uN x.toInt32 = uL x % 4294967296 := by
  unfold uN uL
  rw [Int64.toBitVec_toInt32, BitVec.toNat_signExtend, BitVec.toNat_setWidth]
  simp
theorem uL_of {c : Int32} (h : uN c < 2147483648) : uL c.toInt64 = uN c := by
  unfold uN uL at *
  rw [Int32.toBitVec_toInt64, BitVec.toNat_signExtend, BitVec.msb_eq_false_iff_two_mul_lt.mpr (by omega), BitVec.toNat_setWidth]
  simp
  omega
/-- the characters as one number -/
def pkn (T : Nat → Int32) (p : Int32) : Nat → Nat
  | 0 => 0
  | n + 1 => pkn T p n + 256 ^ n * uN (zChr T p n)
theorem pq_lt {T : Nat → Int32} {p : Int32} : ∀ (n : Nat), (∀ i, i < n → uN (zChr T p i) < 128) → pkn T p n < 256 ^ n
  | 0, _ => Nat.zero_lt_one
  | n + 1, h => by
    have h1 := pq_lt n (fun i hi => h i (by omega))
    have h2 := h n (by omega)
    show pkn T p n + 256 ^ n * uN (zChr T p n) < 256 ^ (n + 1)
    have h3 : 256 ^ n * uN (zChr T p n) ≤ 256 ^ n * 127 := Nat.mul_le_mul_left _ (by omega)
    rw [Nat.pow_succ]
    omega
theorem pq_zPk {T : Nat → Int32} {p : Int32} : ∀ (n : Nat), n ≤ 8 → (∀ i, i < n → uN (zChr T p i) < 128) → uL (zPk T p n) = pkn T p n
  | 0, _, _ => rfl
  | n + 1, h8, h => by
    have h1 := pq_zPk n (by omega) (fun i hi => h i (by omega))
    have h2 := h n (by omega)
    have h3 := pq_lt n (fun i hi => h i (by omega))
    have key : ∀ k : Fin 8, (((((Int8.ofInt 8).toInt32 * Int32.ofNat k.val).toInt64 &&& 63) : Int64).toBitVec.smod 64).toNat = 8 * k.val := by decide +kernel
    show uL (zPk T p n ||| ((zChr T p n).toInt64 <<< (((Int8.ofInt 8).toInt32 * Int32.ofNat n).toInt64 &&& 63))) = pkn T p n + 256 ^ n * uN (zChr T p n)
    rw [uL_or, h1, uL_shl (key ⟨n, by omega⟩), uL_of (by omega)]
    show pkn T p n ||| uN (zChr T p n) * 2 ^ (8 * n) % 18446744073709551616 = _
    have e : 2 ^ (8 * n) = 256 ^ n := by rw [Nat.pow_mul]
    have hb : 256 ^ n ≤ 256 ^ 7 := Nat.pow_le_pow_right (by omega) (by omega)
    have h4 : uN (zChr T p n) * 256 ^ n ≤ 127 * 256 ^ 7 := Nat.mul_le_mul (by omega) hb
    rw [e, Nat.mod_eq_of_lt (by omega), Nat.or_comm, Nat.mul_comm, ← e, ← Nat.two_pow_add_eq_or_of_lt (by rw [e]; exact h3), Nat.add_comm]
theorem pq_small {T : Nat → Int32} {p : Int32} {n : Nat} (h8 : n ≤ 7) (h : ∀ i, i < n → uN (zChr T p i) < 128) : pkn T p n < 9223372036854775808 := by
  have h1 := pq_lt n h
  have hb : 256 ^ n ≤ 256 ^ 7 := Nat.pow_le_pow_right (by omega) h8
  omega
/-- the first and the second character -/
theorem pq_0 {T : Nat → Int32} {p : Int32} : ∀ (n : Nat), 1 ≤ n → (∀ i, i < n → uN (zChr T p i) < 128) → pkn T p n % 256 = uN (zChr T p 0)
  | 1, _, h => by
    have := h 0 (by omega)
    show (0 + 256 ^ 0 * uN (zChr T p 0)) % 256 = _
    omega
  | n + 2, _, h => by
    have h1 := pq_0 (n + 1) (by omega) (fun i hi => h i (by omega))
    show (pkn T p (n + 1) + 256 ^ (n + 1) * uN (zChr T p (n + 1))) % 256 = _
    rw [Nat.pow_succ, Nat.mul_comm (256 ^ n) 256, Nat.mul_assoc, Nat.add_mul_mod_self_left]
    exact h1
theorem zD0_pk {T : Nat → Int32} {p : Int32} {n : Nat} (h0 : 1 ≤ n) (h8 : n ≤ 7) (h : ∀ i, i < n → uN (zChr T p i) < 128) : zD0 (zPk T p n) = zChr T p 0 - 48 := by
  have e : (zPk T p n &&& 255).toInt32 = zChr T p 0 := by
    apply uN_inj
    rw [uL_32, uL_and, pq_zPk n (by omega) h, show uL (255 : Int64) = 2 ^ 8 - 1 from rfl, Nat.and_two_pow_sub_one_eq_mod]
    have := pq_0 n h0 h
    have := h 0 (by omega)
    omega
  show (zPk T p n &&& 255).toInt32 - 48 = _
  rw [e]
theorem zN1_pk {T : Nat → Int32} {p : Int32} (h : ∀ i, i < 2 → uN (zChr T p i) < 128) : zN1 (zPk T p 2) = zChr T p 1 := by
  have h1 := pq_zPk 2 (by omega) h
  have h2 := pq_small (by omega) h
  apply uN_inj
  unfold zN1
  rw [uL_32, uL_shr (n := 8) (by omega) (by decide), h1]
  have := h 0 (by omega)
  have := h 1 (by omega)
  show (0 + 256 ^ 0 * uN (zChr T p 0) + 256 ^ 1 * uN (zChr T p 1)) / 2 ^ 8 % 4294967296 = _
  omega
