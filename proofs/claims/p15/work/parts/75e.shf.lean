/-! WORDS OF BOTH PROCESSORS: shifts, alike -/
theorem sm11 : ∀ n : Fin 11, ((((6 * Int32.ofNat n.val).toInt64 &&& 63)).toBitVec.smod 64).toNat = 6 * n.val := by decide +kernel
theorem sm10 : ∀ n : Fin 10, ((((60 - 6 * Int32.ofNat n.val).toInt64 &&& 63)).toBitVec.smod 64).toNat = 60 - 6 * n.val := by decide +kernel
theorem sm5 : ∀ n : Fin 5, (((i5 (Int32.ofNat n.val)).toInt64 &&& 63).toBitVec.smod 64).toNat = 6 * n.val ∧ (((6 * Int32.ofNat n.val).toInt64 &&& 63).toBitVec.smod 64).toNat = 6 * n.val ∧ (((6 * Int32.ofNat n.val) &&& 31).toBitVec.smod 32).toNat = 6 * n.val ∧ ¬ 4 < Int32.ofNat n.val := by decide +kernel
theorem iR_b {m : Int32} (hm : 0 ≤ m.toInt) : ∃ n : Fin 10, iR m = 6 * Int32.ofNat n.val ∧ (∀ f : Int32, ¬ f < 4 → (gN f m).toNatClampNeg = n.val) := by
  have h := rm10 hm
  refine ⟨⟨(m.toInt % 10).toNat, by omega⟩, ?_, fun f hf => ?_⟩
  · show 6 * (m - m / 10 * 10) = 6 * Int32.ofNat (m.toInt % 10).toNat
    have e : Int32.ofNat (m.toInt % 10).toNat = m - m / 10 * 10 := by
      apply Int32.toInt_inj.mp
      rw [zOfI (by omega), h]
      omega
    rw [e]
  · unfold gN
    rw [if_neg hf]
    show (m - m / 10 * 10).toInt.toNat = _
    rw [h]
theorem five_or {m : Int32} (hm : 0 ≤ m.toInt) : (4 < m ∧ i5 m = 30) ∨ ∃ n : Fin 5, m = Int32.ofNat n.val := by
  by_cases h : 4 < m
  · left
    refine ⟨h, ?_⟩
    show 6 * (if 5 < m then 5 else m) = 30
    by_cases q : 5 < m
    · rw [if_pos q]
      rfl
    · have : m = 5 := by
        apply Int32.toInt_inj.mp
        rw [Int32.lt_iff_toInt_lt] at h q
        rw [show (4 : Int32).toInt = 4 from rfl] at h
        rw [show (5 : Int32).toInt = 5 from rfl] at q ⊢
        omega
      rw [this]
      decide
  · right
    rw [Int32.lt_iff_toInt_lt, show (4 : Int32).toInt = 4 from rfl] at h
    refine ⟨⟨m.toInt.toNat, by omega⟩, ?_⟩
    apply Int32.toInt_inj.mp
    rw [zOfI (by show m.toInt.toNat ≤ 1000; omega)]
    show m.toInt = (m.toInt.toNat : Int)
    omega
theorem uL_bnd {x : Int64} {n : Nat} (h : uL x < n) (hn : n ≤ 9223372036854775808) : 0 ≤ x.toInt := by
  rw [uL_of_lt (by omega)]
  omega
theorem gV0 {w m : Int32} (hw : wOk w) (hm : 0 ≤ m.toInt) : (((zMag w).toInt64 <<< ((i5 m).toInt64 &&& 63)) &&& 1073741823).toInt32 = gV w 0 m := by
  have a := mag_lt hw
  have eu : uL (zMag w).toInt64 = uN (zMag w) := uL_of (by omega)
  unfold gV
  rcases five_or hm with ⟨h, e⟩ | ⟨n, rfl⟩
  · rw [if_pos h, e]
    apply uN_inj
    rw [uL_32, uL_mask30, uL_shl (n := 30) (by decide), eu]
    show _ = 0
    simp only [Nat.reducePow]
    omega
  · obtain ⟨s1, s2, s3, s4⟩ := sm5 n
    rw [if_neg s4, if_pos rfl]
    have hb : uL ((zMag w).toInt64 <<< ((6 * Int32.ofNat n.val).toInt64 &&& 63)) < 9223372036854775808 := by
      rw [uL_shl s2, eu]
      have hn := n.isLt
      have : 2 ^ (6 * n.val) ≤ 2 ^ 24 := Nat.pow_le_pow_right (by decide) (by omega)
      have h2 : uN (zMag w) * 2 ^ (6 * n.val) ≤ 1073741823 * 2 ^ 24 := Nat.mul_le_mul (by omega) this
      have h3 := Nat.mod_le (uN (zMag w) * 2 ^ (6 * n.val)) 18446744073709551616
      simp only [Nat.reducePow] at h2
      omega
    rw [← rem30 (uL_bnd hb (by decide))]
    congr 1
    apply uL_inj
    rw [uL_mask30, uL_mask30, uL_shl s1, uL_shl s2]
theorem gV1 {w m : Int32} (hw : wOk w) (hm : 0 ≤ m.toInt) : ((zMag w).toInt64 >>> ((i5 m).toInt64 &&& 63)).toInt32 = gV w 1 m := by
  have a := mag_lt hw
  have eu : uL (zMag w).toInt64 = uN (zMag w) := uL_of (by omega)
  unfold gV
  rcases five_or hm with ⟨h, e⟩ | ⟨n, rfl⟩
  · rw [if_pos h, e]
    apply uN_inj
    rw [uL_32, uL_shr (n := 30) (by omega) (by decide), eu]
    show _ = 0
    simp only [Nat.reducePow]
    omega
  · obtain ⟨s1, s2, s3, s4⟩ := sm5 n
    rw [if_neg s4, if_neg (by decide)]
    apply uN_inj
    rw [uL_32, uL_shr (by omega) s1, eu, uN_shr (by omega) s3]
    exact Nat.mod_eq_of_lt (Nat.lt_of_le_of_lt (Nat.div_le_self _ _) (by omega))
theorem shf_ok {R : Nat → Int32} {f m : Int32} (h0 : wOk (R 0)) (h7 : wOk (R 7)) (f0 : ¬ f < 0) (f6 : f < 6) (m0 : ¬ m < 0) : rShf R f m = qShf R f m := by
  have hm : 0 ≤ m.toInt := by
    rw [Int32.lt_iff_toInt_lt, show (0 : Int32).toInt = 0 from rfl] at m0
    omega
  have ht := ten_lt h0 h7
  obtain ⟨n, i1, i2⟩ := i10_b hm
  obtain ⟨j, j1, j2⟩ := iR_b hm
  have hf : f = 0 ∨ f = 1 ∨ f = 2 ∨ f = 3 ∨ f = 4 ∨ f = 5 := by
    rw [Int32.lt_iff_toInt_lt] at f0 f6
    rw [show (0 : Int32).toInt = 0 from rfl] at f0
    rw [show (6 : Int32).toInt = 6 from rfl] at f6
    have : f.toInt = 0 ∨ f.toInt = 1 ∨ f.toInt = 2 ∨ f.toInt = 3 ∨ f.toInt = 4 ∨ f.toInt = 5 := by omega
    rcases this with e | e | e | e | e | e
    · exact .inl (Int32.toInt_inj.mp e)
    · exact .inr (.inl (Int32.toInt_inj.mp e))
    · exact .inr (.inr (.inl (Int32.toInt_inj.mp e)))
    · exact .inr (.inr (.inr (.inl (Int32.toInt_inj.mp e))))
    · exact .inr (.inr (.inr (.inr (.inl (Int32.toInt_inj.mp e)))))
    · exact .inr (.inr (.inr (.inr (.inr (Int32.toInt_inj.mp e)))))
  unfold rShf qShf
  rcases hf with rfl | rfl | rfl | rfl | rfl | rfl
  · rw [if_pos rfl, if_pos (by decide), sm_ok, gV0 h0 hm]
  · rw [if_neg (by decide), if_pos rfl, if_pos (by decide), sm_ok, gV1 h0 hm]
  · rw [if_neg (by decide), if_neg (by decide), if_pos rfl, if_neg (by decide), sb_ok, i1, i2 2 (by decide)]
    congr 1
    apply uL_inj
    rw [uL_mask60, uL_shl (sm11 n), (gI_uL ht n.val (by omega)).2, if_pos rfl, it2_ok ht, p64]
    exact Nat.mod_mod_of_dvd _ ⟨16, by decide⟩
  · rw [if_neg (by decide), if_neg (by decide), if_neg (by decide), if_pos rfl, if_neg (by decide), sb_ok, i1, i2 3 (by decide)]
    congr 1
    apply uL_inj
    rw [uL_shr (by omega) (sm11 n), (gI_uL ht n.val (by omega)).2, if_neg (by decide), if_pos rfl, it3_ok, p64]
  · rw [if_neg (by decide), if_neg (by decide), if_neg (by decide), if_neg (by decide), if_pos rfl, if_neg (by decide), sb_ok, j1, j2 4 (by decide)]
    congr 1
    apply uL_inj
    have k1 := sm11 ⟨j.val, by omega⟩
    have k2 := sm10 j
    rw [uL_mask60, uL_or, uL_shl k1, uL_shr (by omega) k2, (gI_uL ht j.val (by omega)).2, if_neg (by decide), if_neg (by decide), if_pos rfl, it4_ok ht _ (by omega), ← or_l ht j.isLt]
  · rw [if_neg (by decide), if_neg (by decide), if_neg (by decide), if_neg (by decide), if_neg (by decide), if_neg (by decide), sb_ok, j1, j2 5 (by decide)]
    congr 1
    apply uL_inj
    have k1 := sm11 ⟨j.val, by omega⟩
    have k2 := sm10 j
    rw [uL_mask60, uL_or, uL_shl k2, uL_shr (by omega) k1, (gI_uL ht j.val (by omega)).2, if_neg (by decide), if_neg (by decide), if_neg (by decide), if_pos rfl, it5_ok ht _ (by omega), ← or_r ht j.isLt]
