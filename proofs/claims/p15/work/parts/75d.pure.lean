/-! WORDS OF BOTH PROCESSORS: shifts -/
theorem p64 (j : Nat) : 64 ^ j = 2 ^ (6 * j) := by rw [Nat.pow_mul]
theorem dm_eq (X B : Nat) : X = X / B * B + X % B := by
  rw [Nat.mul_comm]
  exact (Nat.div_add_mod X B).symm
theorem mm_x {X B K M : Nat} (h : B * K = M) (hB : 0 < B) (hK : 0 < K) : X * K % M = X % B * K := by
  have := mm_mod (b := X / B) (d := X % B) h (Nat.mod_lt _ hB) hK
  rw [← dm_eq] at this
  exact this
theorem or_l {X j : Nat} (h : X < 1152921504606846976) (hj : j < 10) : ((X * 2 ^ (6 * j) % 18446744073709551616) ||| (X / 2 ^ (60 - 6 * j))) % 1152921504606846976 = X * 64 ^ j % 1152921504606846976 + X / 2 ^ (60 - 6 * j) := by
  have hB : 2 ^ (60 - 6 * j) * 2 ^ (6 * j) = 1152921504606846976 := by
    rw [← Nat.pow_add, show 60 - 6 * j + 6 * j = 60 by omega]
  have e1 : X * 2 ^ (6 * j) % 18446744073709551616 % 1152921504606846976 = X * 2 ^ (6 * j) % 1152921504606846976 := Nat.mod_mod_of_dvd _ ⟨16, by decide⟩
  have e3 : X * 2 ^ (6 * j) % 1152921504606846976 = X % 2 ^ (60 - 6 * j) * 2 ^ (6 * j) := mm_x hB (Nat.two_pow_pos _) (Nat.two_pow_pos _)
  have hb : X / 2 ^ (60 - 6 * j) < 2 ^ (6 * j) := Nat.div_lt_of_lt_mul (by rw [hB]; exact h)
  have hb2 : X / 2 ^ (60 - 6 * j) < 1152921504606846976 := Nat.lt_of_le_of_lt (Nat.div_le_self _ _) h
  rw [p64]
  rw [show (1152921504606846976 : Nat) = 2 ^ 60 from rfl, Nat.or_mod_two_pow, show (2 : Nat) ^ 60 = 1152921504606846976 from rfl, e1, e3, Nat.mod_eq_of_lt hb2, or_add hb]
theorem or_r {X j : Nat} (h : X < 1152921504606846976) (hj : j < 10) : ((X / 2 ^ (6 * j)) ||| (X * 2 ^ (60 - 6 * j) % 18446744073709551616)) % 1152921504606846976 = X / 64 ^ j + X % 64 ^ j * 2 ^ (60 - 6 * j) := by
  have hB : 2 ^ (6 * j) * 2 ^ (60 - 6 * j) = 1152921504606846976 := by
    rw [← Nat.pow_add, show 6 * j + (60 - 6 * j) = 60 by omega]
  have e1 : X * 2 ^ (60 - 6 * j) % 18446744073709551616 % 1152921504606846976 = X * 2 ^ (60 - 6 * j) % 1152921504606846976 := Nat.mod_mod_of_dvd _ ⟨16, by decide⟩
  have e3 : X * 2 ^ (60 - 6 * j) % 1152921504606846976 = X % 2 ^ (6 * j) * 2 ^ (60 - 6 * j) := mm_x hB (Nat.two_pow_pos _) (Nat.two_pow_pos _)
  have hb : X / 2 ^ (6 * j) < 2 ^ (60 - 6 * j) := Nat.div_lt_of_lt_mul (by rw [hB]; exact h)
  have hb2 : X / 2 ^ (6 * j) < 1152921504606846976 := Nat.lt_of_le_of_lt (Nat.div_le_self _ _) h
  rw [p64]
  rw [Nat.or_comm, show (1152921504606846976 : Nat) = 2 ^ 60 from rfl, Nat.or_mod_two_pow, show (2 : Nat) ^ 60 = 1152921504606846976 from rfl, e1, e3, Nat.mod_eq_of_lt hb2, or_add hb, Nat.add_comm]
theorem i10_b {m : Int32} (hm : 0 ≤ m.toInt) : ∃ n : Fin 11, i10 m = 6 * Int32.ofNat n.val ∧ (∀ f : Int32, f < 4 → (gN f m).toNatClampNeg = n.val) := by
  by_cases h : m.toInt < 10
  · refine ⟨⟨m.toInt.toNat, by omega⟩, ?_, fun f hf => ?_⟩
    · have e : Int32.ofNat m.toInt.toNat = m := by
        apply Int32.toInt_inj.mp
        rw [zOfI (by omega)]
        omega
      show 6 * (if 10 < m then 10 else m) = 6 * Int32.ofNat m.toInt.toNat
      rw [if_neg (fun q => by
        have := Int32.lt_iff_toInt_lt.mp q
        rw [show (10 : Int32).toInt = 10 from rfl] at this
        omega), e]
    · unfold gN
      rw [if_pos hf, if_neg (fun q => by
        have := Int32.lt_iff_toInt_lt.mp q
        rw [show (9 : Int32).toInt = 9 from rfl] at this
        omega)]
      rfl
  · refine ⟨⟨10, by omega⟩, ?_, fun f hf => ?_⟩
    · show 6 * (if 10 < m then 10 else m) = 6 * Int32.ofNat 10
      by_cases q : 10 < m
      · rw [if_pos q]
        rfl
      · rw [if_neg q]
        have : m = 10 := by
          apply Int32.toInt_inj.mp
          rw [Int32.lt_iff_toInt_lt, show (10 : Int32).toInt = 10 from rfl] at q
          rw [show (10 : Int32).toInt = 10 from rfl]
          omega
        rw [this]
        rfl
    · unfold gN
      rw [if_pos hf, if_pos (by
        rw [Int32.lt_iff_toInt_lt, show (9 : Int32).toInt = 9 from rfl]
        omega)]
      rfl
