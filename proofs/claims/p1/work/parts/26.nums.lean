/-! THE UNKNOWN NUMBERS OF ONE CALL: the script's words, the eight characters -/
def nE (xs : Nat → Int32) : Int64 := (xs 1).toInt64 <<< ((32 : Int32).toInt64 &&& 63) ||| ((xs 2).toInt64 &&& 4294967295)
def nLo (xs : Nat → Int32) (b : Nat) : Int64 := if b < 5 then (xs b).toInt64 else if b = 5 then (xs 1).toInt64 <<< ((32 : Int32).toInt64 &&& 63) else if b = 6 then (xs 2).toInt64 &&& 4294967295 else if b = 7 then nE xs else if b < 20 then nE xs >>> ((Int32.ofNat (8 * (b - 10))).toInt64 &&& 63) else (nE xs >>> ((Int32.ofNat (8 * (b - 20))).toInt64 &&& 63)) &&& 255
def nIn (xs : Nat → Int32) (b : Nat) : Int32 := if b = 5 then xs 0 &&& 15 else if 20 ≤ b ∧ b < 28 then (nLo xs b).toInt32 else xs b
theorem nAnd15 (x : Int32) : 0 ≤ (x &&& 15).toInt ∧ (x &&& 15).toInt ≤ 15 := by
  have e : (x &&& 15).toBitVec = x.toBitVec &&& 15#32 := rfl
  have h1 : (x &&& 15).toBitVec.toNat ≤ 15 := by
    rw [e, BitVec.toNat_and]
    exact Nat.and_le_right
  have h2 : (x &&& 15).toInt = (x &&& 15).toBitVec.toInt := rfl
  rw [h2, BitVec.toInt_eq_toNat_cond, if_pos (by omega)]
  omega
theorem nAnd255 (x : Int64) : 0 ≤ (x &&& 255).toInt ∧ (x &&& 255).toInt ≤ 255 := by
  have e : (x &&& 255).toBitVec = x.toBitVec &&& 255#64 := rfl
  have h1 : (x &&& 255).toBitVec.toNat ≤ 255 := by
    rw [e, BitVec.toNat_and]
    exact Nat.and_le_right
  have h2 : (x &&& 255).toInt = (x &&& 255).toBitVec.toInt := rfl
  rw [h2, BitVec.toInt_eq_toNat_cond, if_pos (by omega)]
  omega
theorem nDown {x : Int64} (h : 0 ≤ x.toInt ∧ x.toInt ≤ 255) : x.toInt32.toInt = x.toInt := by
  rw [Int64.toInt_toInt32]
  exact Int.bmod_eq_of_le_mul_two (by omega) (by omega)
theorem nChar {x : Int32} (h : 0 ≤ x.toInt ∧ x.toInt ≤ 255) : (x.toUInt32 % 65536).toInt32 = x := by
  have h2 : x.toInt = x.toBitVec.toInt := rfl
  have h3 : x.toBitVec.toNat < 65536 := by
    rw [h2, BitVec.toInt_eq_toNat_cond] at h
    split at h
    · omega
    · have := x.toBitVec.isLt
      omega
  have h4 : x.toUInt32 % 65536 = x.toUInt32 := by
    apply UInt32.toNat_inj.mp
    rw [UInt32.toNat_mod]
    exact Nat.mod_eq_of_lt h3
  rw [h4]
  rfl
theorem nCh_lo (xs : Nat → Int32) {b : Nat} (h1 : 20 ≤ b) : nLo xs b = (nE xs >>> ((Int32.ofNat (8 * (b - 20))).toInt64 &&& 63)) &&& 255 := by
  unfold nLo
  rw [if_neg (by omega), if_neg (by omega), if_neg (by omega), if_neg (by omega), if_neg (by omega)]
theorem nSh_lo (xs : Nat → Int32) {b : Nat} (h1 : 10 ≤ b) (h2 : b < 20) : nLo xs b = nE xs >>> ((Int32.ofNat (8 * (b - 10))).toInt64 &&& 63) := by
  unfold nLo
  rw [if_neg (by omega), if_neg (by omega), if_neg (by omega), if_neg (by omega), if_pos (by omega)]
theorem nCh_in (xs : Nat → Int32) {b : Nat} (h1 : 20 ≤ b) (h2 : b < 28) : nIn xs b = (nLo xs b).toInt32 := by
  unfold nIn
  rw [if_neg (by omega), if_pos ⟨h1, h2⟩]
theorem nCh_rng (xs : Nat → Int32) {b : Nat} (h1 : 20 ≤ b) : 0 ≤ (nLo xs b).toInt ∧ (nLo xs b).toInt ≤ 255 := by
  rw [nCh_lo xs h1]
  exact nAnd255 _
theorem nWd_in (xs : Nat → Int32) {b : Nat} (h1 : b < 5) : nIn xs b = xs b := by
  unfold nIn
  rw [if_neg (by omega), if_neg (by omega)]
theorem nDn (xs : Nat → Int32) : aDn (nIn xs) (nLo xs) := by
  refine ⟨fun b => ?_, fun b hb => ?_, rfl, fun b hb => ?_, rfl, rfl, rfl, fun k hk => ?_, fun k h1 h2 => ?_, fun k h1 h2 => nCh_in xs h1 h2, fun k h1 h2 => ?_⟩
  · unfold aDf
    split
    · rename_i hb
      subst hb
      exact ⟨_, List.mem_cons_self, nAnd15 (xs 0)⟩
    · split
      · rename_i hb
        rw [nCh_in xs hb.1 hb.2]
        have := nCh_rng xs hb.1
        refine ⟨_, List.mem_cons_self, ?_⟩
        rw [nDown this]
        exact this
      · exact ⟨_, List.mem_cons_self, Int32.le_toInt _, Int32.toInt_le _⟩
  · unfold aAg at hb
    rw [Bool.or_eq_true, Bool.and_eq_true, decide_eq_true_eq, decide_eq_true_eq, decide_eq_true_eq] at hb
    rcases hb with hb | hb
    · rw [nWd_in xs hb]
      unfold nLo
      rw [if_pos hb, Int32.toInt_toInt64]
    · rw [nCh_in xs hb.1 hb.2, nDown (nCh_rng xs hb.1)]
  · rw [nWd_in xs hb]
    unfold nLo
    rw [if_pos hb]
  · rw [nSh_lo xs (by omega) (by omega), Nat.add_sub_cancel_left]
    rfl
  · rw [nCh_lo xs (by omega), nSh_lo xs h1 (by omega)]
    have : k + 10 - 20 = k - 10 := by omega
    rw [this]
  · rw [nCh_in xs h1 h2]
    have := nCh_rng xs h1
    exact nChar (by rw [nDown this]; exact this)
