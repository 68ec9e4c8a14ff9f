/-! WORDS OF BOTH PROCESSORS -/
theorem uN_shr {x k : Int32} {n : Nat} (hx : uN x < 2147483648) (hk : (k.toBitVec.smod 32).toNat = n) : uN (x >>> k) = uN x / 2 ^ n := by
  unfold uN at *
  rw [Int32.toBitVec_shiftRight, BitVec.sshiftRight_eq', hk, BitVec.sshiftRight_eq_of_msb_false (BitVec.msb_eq_false_iff_two_mul_lt.mpr (by omega)), BitVec.toNat_ushiftRight, Nat.shiftRight_eq_div_pow]
theorem k31 (k : Int32) : ∃ n : Fin 32, k &&& 31 = Int32.ofNat n.val := by
  have h : uN (k &&& 31) < 32 := by
    rw [uN_and, show uN 31 = 31 from rfl]
    have := @Nat.and_le_right (uN k) 31
    omega
  refine ⟨⟨uN (k &&& 31), h⟩, uN_inj ?_⟩
  rw [uN_lit]
  show _ = uN (k &&& 31) % 4294967296
  omega
theorem ushr_nn {x : Int32} (k : Int32) (hx : 0 ≤ x.toInt) : (x.toUInt32 >>> (k.toUInt32 &&& Int32.toUInt32 31)).toInt32 = x >>> (k &&& 31) := by
  obtain ⟨n, hn⟩ := k31 k
  have h1 := (uN_nn hx).1
  have hk : k.toUInt32 &&& Int32.toUInt32 31 = (k &&& 31).toUInt32 := rfl
  rw [hk, hn]
  have key : ∀ n : Fin 32, ((Int32.ofNat n.val).toBitVec.smod 32).toNat = n.val ∧ ((Int32.ofNat n.val).toUInt32 % 32).toNat = n.val := by decide
  obtain ⟨k1, k2⟩ := key n
  apply uN_inj
  rw [uN_shr h1 k1]
  show (x.toBitVec >>> ((Int32.ofNat n.val).toUInt32 % 32).toBitVec).toNat = _
  rw [BitVec.ushiftRight_eq', BitVec.toNat_ushiftRight, Nat.shiftRight_eq_div_pow]
  show uN x / 2 ^ ((Int32.ofNat n.val).toUInt32 % 32).toNat = _
  rw [k2]
/-- fields -/
theorem zFo_ok {f : Int32} (hf : yOkf f) (w : Int32) : zFo w f = yPart w f := by
  have key : ∀ n : Fin 64, yOkf (Int32.ofNat n.val) → n.val = 0 ∨ (zLb (Int32.ofNat n.val) = yMk (Int32.ofNat n.val) ∧ zSh (Int32.ofNat n.val) &&& 31 = yPsh (Int32.ofNat n.val) &&& 31) := by decide +kernel
  obtain ⟨n, rfl⟩ := i64 hf.1 hf.2.1
  unfold zFo yPart
  rw [ushr_nn _ (zMag_nn w)]
  have hb : ∀ f : Int32, (if f < 8 then w &&& 1 else 0) = (if f < 8 ∧ w &&& 1 = 1 then (1 : Int32) else 0) := by
    intro f
    by_cases h : f < 8
    · rw [if_pos h]
      by_cases h2 : w &&& 1 = 1
      · rw [if_pos ⟨h, h2⟩]
        exact h2
      · rw [if_neg (fun q => h2 q.2)]
        have e := zBit_ite w
        rw [if_neg h2] at e
        exact e.symm
    · rw [if_neg h, if_neg (fun q => h q.1)]
  rw [hb, Int32.mul_comm]
  rcases key n hf with h | h
  · have e : Int32.ofNat n.val = 0 := by rw [h]; rfl
    rw [e, show zLb 0 = 0 by decide, show yMk 0 = 0 by decide, Int32.and_zero, Int32.and_zero]
  · rw [h.1, h.2]
/-- places -/
theorem zPlc_q (x : Int32) : zPlc x ↔ qPlc x := by
  unfold zPlc qPlc
  rw [Int32.lt_iff_toInt_lt, Int32.lt_iff_toInt_lt, Int32.lt_iff_toInt_lt, show (0 : Int32).toInt = 0 from rfl, show (200 : Int32).toInt = 200 from rfl, show (199 : Int32).toInt = 199 from rfl]
  omega
theorem arp_rw {a k : Int32} (h1 : 1 ≤ k.toInt) (h2 : k.toInt ≤ 63) : zArp a k ↔ yRw a k := by
  unfold zArp yRw qPlc
  have e0 : (0 : Int32).toInt = 0 := rfl
  have e2 : (200 - k).toInt = 200 - k.toInt := by
    rw [Int32.toInt_sub, show (200 : Int32).toInt = 200 from rfl, bm32 (by omega) (by omega)]
  rw [Int32.lt_iff_toInt_lt, Int32.lt_iff_toInt_lt, Int32.lt_iff_toInt_lt, Int32.lt_iff_toInt_lt, Int32.lt_iff_toInt_lt, e0, e2, show (199 : Int32).toInt = 199 from rfl]
  by_cases h : 0 ≤ a.toInt ∧ a.toInt ≤ 199
  · have e3 : (a + k - 1).toInt = a.toInt + k.toInt - 1 := by
      rw [Int32.toInt_sub, Int32.toInt_add, show (1 : Int32).toInt = 1 from rfl, bm32 (x := a.toInt + k.toInt) (by omega) (by omega), bm32 (by omega) (by omega)]
    rw [e3]
    omega
  · omega
/-- signs -/
theorem par (a v : Int32) : (a ^^^ v) &&& 1 = if a &&& 1 = 1 ↔ v &&& 1 = 1 then 0 else 1 := by
  have h1 := uN_bit a
  have h2 := uN_bit v
  have h3 : uN ((a ^^^ v) &&& 1) = (uN a + uN v) % 2 := by
    rw [uN_bit]
    unfold uN
    rw [Int32.toBitVec_xor, BitVec.toNat_xor]
    have k := @Nat.xor_mod_two_eq_one a.toBitVec.toNat v.toBitVec.toNat
    omega
  have e : ∀ x : Int32, x &&& 1 = 1 ↔ uN x % 2 = 1 := fun x => ⟨fun h => by rw [← uN_bit, h]; rfl, fun h => uN_inj (by rw [uN_bit, h]; rfl)⟩
  apply uN_inj
  rw [h3]
  by_cases q : a &&& 1 = 1 ↔ v &&& 1 = 1
  · rw [if_pos q]
    rw [e, e] at q
    show _ = 0
    omega
  · rw [if_neg q]
    rw [e, e] at q
    show _ = 1
    omega
/-- registers: entered, set -/
theorem zEn_yEn (r w : Int32) : zEnW r w = yEnW r w := by
  unfold zEnW yEnW
  split
  · rfl
  · rw [zBit_ite, Int32.mul_comm]
/-- long numbers that are not negative -/
theorem uL_nn {x : Int64} (h : 0 ≤ x.toInt) : uL x < 9223372036854775808 ∧ x.toInt = uL x := by
  have h1 : x.toInt = if uL x < 9223372036854775808 then (uL x : Int) else (uL x : Int) - 18446744073709551616 := by
    have := uL_lt x
    unfold uL at *
    show x.toBitVec.toInt = _
    rw [BitVec.toInt_eq_toNat_cond]
    split <;> split <;> omega
  have := uL_lt x
  split at h1
  · exact ⟨by assumption, h1⟩
  · omega
theorem uL_of_lt {x : Int64} (h : uL x < 9223372036854775808) : x.toInt = uL x := by
  unfold uL at *
  show x.toBitVec.toInt = _
  rw [BitVec.toInt_eq_toNat_cond]
  split <;> omega
