/-! NUMBERS OF THE PROCESSORS -/
theorem uL_lt (x : Int64) : uL x < 18446744073709551616 := x.toBitVec.isLt
theorem uL_mask60 (x : Int64) : uL (x &&& 1152921504606846975) = uL x % 1152921504606846976 := by
  rw [uL_and, show uL 1152921504606846975 = 2 ^ 60 - 1 from rfl, Nat.and_two_pow_sub_one_eq_mod]
theorem uL_mask30 (x : Int64) : uL (x &&& 1073741823) = uL x % 1073741824 := by
  rw [uL_and, show uL 1073741823 = 2 ^ 30 - 1 from rfl, Nat.and_two_pow_sub_one_eq_mod]
/-- rounds of the reference's shifts, as numbers -/
def it2 (X : Nat) : Nat → Nat
  | 0 => X
  | n + 1 => it2 X n * 64 % 1152921504606846976
def it3 (X : Nat) : Nat → Nat
  | 0 => X
  | n + 1 => it3 X n / 64
def it4 (X : Nat) : Nat → Nat
  | 0 => X
  | n + 1 => it4 X n * 64 % 1152921504606846976 + it4 X n / 18014398509481984
def it5 (X : Nat) : Nat → Nat
  | 0 => X
  | n + 1 => it5 X n / 64 + it5 X n % 64 * 18014398509481984
theorem it2_ok {X : Nat} (h : X < 1152921504606846976) : ∀ n, it2 X n = X * 64 ^ n % 1152921504606846976
  | 0 => by
    show X = X * 1 % 1152921504606846976
    omega
  | n + 1 => by
    show it2 X n * 64 % 1152921504606846976 = _
    rw [it2_ok h n, Nat.pow_succ, ← Nat.mul_assoc, Nat.mod_mul_mod]
theorem it3_ok (X : Nat) : ∀ n, it3 X n = X / 64 ^ n
  | 0 => by
    show X = X / 1
    omega
  | n + 1 => by
    show it3 X n / 64 = _
    rw [it3_ok X n, Nat.pow_succ, Nat.div_div_eq_div_mul]
theorem mm_mod {b B d K M : Nat} (h : B * K = M) (hd : d < B) (hK : 0 < K) : (b * B + d) * K % M = d * K := by
  rw [Nat.add_mul, Nat.mul_assoc, h, Nat.mul_comm b M, Nat.mul_add_mod, Nat.mod_eq_of_lt (by rw [← h]; exact Nat.mul_lt_mul_of_pos_right hd hK)]
theorem rl_0 {X : Nat} (h : X < 1152921504606846976) : (X * 1 % 1152921504606846976 + X / 1152921504606846976) * 64 % 1152921504606846976 + (X * 1 % 1152921504606846976 + X / 1152921504606846976) / 18014398509481984 = X * 64 % 1152921504606846976 + X / 18014398509481984 := by
  have ⟨a, c, d, hx, hc, hd⟩ : ∃ a c d : Nat, X = a * 1152921504606846976 + (c * 18014398509481984 + d) ∧ c < 64 ∧ d < 18014398509481984 := ⟨X / 1152921504606846976, X % 1152921504606846976 / 18014398509481984, X % 1152921504606846976 % 18014398509481984, by omega, by omega, by omega⟩
  have ha : a < 1 := by omega
  have e1 : X * 1 % 1152921504606846976 = (c * 18014398509481984 + d) * 1 := by rw [hx]; exact mm_mod (by decide) (by omega) (by decide)
  have e2 : X / 1152921504606846976 = a := by clear e1; omega
  have e3 : ((c * 18014398509481984 + d) * 1 + a) * 64 % 1152921504606846976 = d * 64 + 64 * a := by clear e1 e2 hx h; omega
  have e4 : ((c * 18014398509481984 + d) * 1 + a) / 18014398509481984 = c := by clear e1 e2 e3 hx h; omega
  have e5 : X * 64 % 1152921504606846976 = d * 64 := by
    rw [show X = (64 * a + c) * 18014398509481984 + d by rw [hx, Nat.add_mul, Nat.mul_comm 64 a, Nat.mul_assoc, Nat.add_assoc, show 64 * 18014398509481984 = 1152921504606846976 from rfl]]
    exact mm_mod (by decide) hd (by decide)
  have e6 : X / 18014398509481984 = 64 * a + c := by clear e1 e2 e3 e4 e5; omega
  rw [e1, e2, e3, e4, e5, e6]
  clear e1 e2 e3 e4 e5 e6
  omega
theorem rr_0 {X : Nat} (h : X < 1152921504606846976) : (X / 1 + X % 1 * 1152921504606846976) / 64 + (X / 1 + X % 1 * 1152921504606846976) % 64 * 18014398509481984 = X / 64 + X % 64 * 18014398509481984 := by
  have ⟨a, c, d, hx, hc, hd⟩ : ∃ a c d : Nat, X = a * 64 + (c * 1 + d) ∧ c < 64 ∧ d < 1 := ⟨X / 64, X % 64 / 1, X % 64 % 1, by omega, by omega, by omega⟩
  have e1 : X / 1 = 64 * a + c := by omega
  have e2 : X % 1 = d := by clear e1; omega
  have e3 : (64 * a + c + d * 1152921504606846976) / 64 = a + d * 18014398509481984 := by clear e1 e2 hx h; omega
  have e4 : (64 * a + c + d * 1152921504606846976) % 64 = c := by clear e1 e2 e3 hx h; omega
  have e5 : X / 64 = a := by clear e1 e2 e3 e4; omega
  have e6 : X % 64 = c * 1 + d := by clear e1 e2 e3 e4 e5; omega
  rw [e1, e2, e3, e4, e5, e6]
  clear e1 e2 e3 e4 e5 e6
  omega
theorem rl_1 {X : Nat} (h : X < 1152921504606846976) : (X * 64 % 1152921504606846976 + X / 18014398509481984) * 64 % 1152921504606846976 + (X * 64 % 1152921504606846976 + X / 18014398509481984) / 18014398509481984 = X * 4096 % 1152921504606846976 + X / 281474976710656 := by
  have ⟨a, c, d, hx, hc, hd⟩ : ∃ a c d : Nat, X = a * 18014398509481984 + (c * 281474976710656 + d) ∧ c < 64 ∧ d < 281474976710656 := ⟨X / 18014398509481984, X % 18014398509481984 / 281474976710656, X % 18014398509481984 % 281474976710656, by omega, by omega, by omega⟩
  have ha : a < 64 := by omega
  have e1 : X * 64 % 1152921504606846976 = (c * 281474976710656 + d) * 64 := by rw [hx]; exact mm_mod (by decide) (by omega) (by decide)
  have e2 : X / 18014398509481984 = a := by clear e1; omega
  have e3 : ((c * 281474976710656 + d) * 64 + a) * 64 % 1152921504606846976 = d * 4096 + 64 * a := by clear e1 e2 hx h; omega
  have e4 : ((c * 281474976710656 + d) * 64 + a) / 18014398509481984 = c := by clear e1 e2 e3 hx h; omega
  have e5 : X * 4096 % 1152921504606846976 = d * 4096 := by
    rw [show X = (64 * a + c) * 281474976710656 + d by rw [hx, Nat.add_mul, Nat.mul_comm 64 a, Nat.mul_assoc, Nat.add_assoc, show 64 * 281474976710656 = 18014398509481984 from rfl]]
    exact mm_mod (by decide) hd (by decide)
  have e6 : X / 281474976710656 = 64 * a + c := by clear e1 e2 e3 e4 e5; omega
  rw [e1, e2, e3, e4, e5, e6]
  clear e1 e2 e3 e4 e5 e6
  omega
theorem rr_1 {X : Nat} (h : X < 1152921504606846976) : (X / 64 + X % 64 * 18014398509481984) / 64 + (X / 64 + X % 64 * 18014398509481984) % 64 * 18014398509481984 = X / 4096 + X % 4096 * 281474976710656 := by
  have ⟨a, c, d, hx, hc, hd⟩ : ∃ a c d : Nat, X = a * 4096 + (c * 64 + d) ∧ c < 64 ∧ d < 64 := ⟨X / 4096, X % 4096 / 64, X % 4096 % 64, by omega, by omega, by omega⟩
  have e1 : X / 64 = 64 * a + c := by omega
  have e2 : X % 64 = d := by clear e1; omega
  have e3 : (64 * a + c + d * 18014398509481984) / 64 = a + d * 281474976710656 := by clear e1 e2 hx h; omega
  have e4 : (64 * a + c + d * 18014398509481984) % 64 = c := by clear e1 e2 e3 hx h; omega
  have e5 : X / 4096 = a := by clear e1 e2 e3 e4; omega
  have e6 : X % 4096 = c * 64 + d := by clear e1 e2 e3 e4 e5; omega
  rw [e1, e2, e3, e4, e5, e6]
  clear e1 e2 e3 e4 e5 e6
  omega
theorem rl_2 {X : Nat} (h : X < 1152921504606846976) : (X * 4096 % 1152921504606846976 + X / 281474976710656) * 64 % 1152921504606846976 + (X * 4096 % 1152921504606846976 + X / 281474976710656) / 18014398509481984 = X * 262144 % 1152921504606846976 + X / 4398046511104 := by
  have ⟨a, c, d, hx, hc, hd⟩ : ∃ a c d : Nat, X = a * 281474976710656 + (c * 4398046511104 + d) ∧ c < 64 ∧ d < 4398046511104 := ⟨X / 281474976710656, X % 281474976710656 / 4398046511104, X % 281474976710656 % 4398046511104, by omega, by omega, by omega⟩
  have ha : a < 4096 := by omega
  have e1 : X * 4096 % 1152921504606846976 = (c * 4398046511104 + d) * 4096 := by rw [hx]; exact mm_mod (by decide) (by omega) (by decide)
  have e2 : X / 281474976710656 = a := by clear e1; omega
  have e3 : ((c * 4398046511104 + d) * 4096 + a) * 64 % 1152921504606846976 = d * 262144 + 64 * a := by clear e1 e2 hx h; omega
  have e4 : ((c * 4398046511104 + d) * 4096 + a) / 18014398509481984 = c := by clear e1 e2 e3 hx h; omega
  have e5 : X * 262144 % 1152921504606846976 = d * 262144 := by
    rw [show X = (64 * a + c) * 4398046511104 + d by rw [hx, Nat.add_mul, Nat.mul_comm 64 a, Nat.mul_assoc, Nat.add_assoc, show 64 * 4398046511104 = 281474976710656 from rfl]]
    exact mm_mod (by decide) hd (by decide)
  have e6 : X / 4398046511104 = 64 * a + c := by clear e1 e2 e3 e4 e5; omega
  rw [e1, e2, e3, e4, e5, e6]
  clear e1 e2 e3 e4 e5 e6
  omega
theorem rr_2 {X : Nat} (h : X < 1152921504606846976) : (X / 4096 + X % 4096 * 281474976710656) / 64 + (X / 4096 + X % 4096 * 281474976710656) % 64 * 18014398509481984 = X / 262144 + X % 262144 * 4398046511104 := by
  have ⟨a, c, d, hx, hc, hd⟩ : ∃ a c d : Nat, X = a * 262144 + (c * 4096 + d) ∧ c < 64 ∧ d < 4096 := ⟨X / 262144, X % 262144 / 4096, X % 262144 % 4096, by omega, by omega, by omega⟩
  have e1 : X / 4096 = 64 * a + c := by omega
  have e2 : X % 4096 = d := by clear e1; omega
  have e3 : (64 * a + c + d * 281474976710656) / 64 = a + d * 4398046511104 := by clear e1 e2 hx h; omega
  have e4 : (64 * a + c + d * 281474976710656) % 64 = c := by clear e1 e2 e3 hx h; omega
  have e5 : X / 262144 = a := by clear e1 e2 e3 e4; omega
  have e6 : X % 262144 = c * 4096 + d := by clear e1 e2 e3 e4 e5; omega
  rw [e1, e2, e3, e4, e5, e6]
  clear e1 e2 e3 e4 e5 e6
  omega
theorem rl_3 {X : Nat} (h : X < 1152921504606846976) : (X * 262144 % 1152921504606846976 + X / 4398046511104) * 64 % 1152921504606846976 + (X * 262144 % 1152921504606846976 + X / 4398046511104) / 18014398509481984 = X * 16777216 % 1152921504606846976 + X / 68719476736 := by
  have ⟨a, c, d, hx, hc, hd⟩ : ∃ a c d : Nat, X = a * 4398046511104 + (c * 68719476736 + d) ∧ c < 64 ∧ d < 68719476736 := ⟨X / 4398046511104, X % 4398046511104 / 68719476736, X % 4398046511104 % 68719476736, by omega, by omega, by omega⟩
  have ha : a < 262144 := by omega
  have e1 : X * 262144 % 1152921504606846976 = (c * 68719476736 + d) * 262144 := by rw [hx]; exact mm_mod (by decide) (by omega) (by decide)
  have e2 : X / 4398046511104 = a := by clear e1; omega
  have e3 : ((c * 68719476736 + d) * 262144 + a) * 64 % 1152921504606846976 = d * 16777216 + 64 * a := by clear e1 e2 hx h; omega
  have e4 : ((c * 68719476736 + d) * 262144 + a) / 18014398509481984 = c := by clear e1 e2 e3 hx h; omega
  have e5 : X * 16777216 % 1152921504606846976 = d * 16777216 := by
    rw [show X = (64 * a + c) * 68719476736 + d by rw [hx, Nat.add_mul, Nat.mul_comm 64 a, Nat.mul_assoc, Nat.add_assoc, show 64 * 68719476736 = 4398046511104 from rfl]]
    exact mm_mod (by decide) hd (by decide)
  have e6 : X / 68719476736 = 64 * a + c := by clear e1 e2 e3 e4 e5; omega
  rw [e1, e2, e3, e4, e5, e6]
  clear e1 e2 e3 e4 e5 e6
  omega
theorem rr_3 {X : Nat} (h : X < 1152921504606846976) : (X / 262144 + X % 262144 * 4398046511104) / 64 + (X / 262144 + X % 262144 * 4398046511104) % 64 * 18014398509481984 = X / 16777216 + X % 16777216 * 68719476736 := by
  have ⟨a, c, d, hx, hc, hd⟩ : ∃ a c d : Nat, X = a * 16777216 + (c * 262144 + d) ∧ c < 64 ∧ d < 262144 := ⟨X / 16777216, X % 16777216 / 262144, X % 16777216 % 262144, by omega, by omega, by omega⟩
  have e1 : X / 262144 = 64 * a + c := by omega
  have e2 : X % 262144 = d := by clear e1; omega
  have e3 : (64 * a + c + d * 4398046511104) / 64 = a + d * 68719476736 := by clear e1 e2 hx h; omega
  have e4 : (64 * a + c + d * 4398046511104) % 64 = c := by clear e1 e2 e3 hx h; omega
  have e5 : X / 16777216 = a := by clear e1 e2 e3 e4; omega
  have e6 : X % 16777216 = c * 262144 + d := by clear e1 e2 e3 e4 e5; omega
  rw [e1, e2, e3, e4, e5, e6]
  clear e1 e2 e3 e4 e5 e6
  omega
theorem rl_4 {X : Nat} (h : X < 1152921504606846976) : (X * 16777216 % 1152921504606846976 + X / 68719476736) * 64 % 1152921504606846976 + (X * 16777216 % 1152921504606846976 + X / 68719476736) / 18014398509481984 = X * 1073741824 % 1152921504606846976 + X / 1073741824 := by
  have ⟨a, c, d, hx, hc, hd⟩ : ∃ a c d : Nat, X = a * 68719476736 + (c * 1073741824 + d) ∧ c < 64 ∧ d < 1073741824 := ⟨X / 68719476736, X % 68719476736 / 1073741824, X % 68719476736 % 1073741824, by omega, by omega, by omega⟩
  have ha : a < 16777216 := by omega
  have e1 : X * 16777216 % 1152921504606846976 = (c * 1073741824 + d) * 16777216 := by rw [hx]; exact mm_mod (by decide) (by omega) (by decide)
  have e2 : X / 68719476736 = a := by clear e1; omega
  have e3 : ((c * 1073741824 + d) * 16777216 + a) * 64 % 1152921504606846976 = d * 1073741824 + 64 * a := by clear e1 e2 hx h; omega
  have e4 : ((c * 1073741824 + d) * 16777216 + a) / 18014398509481984 = c := by clear e1 e2 e3 hx h; omega
  have e5 : X * 1073741824 % 1152921504606846976 = d * 1073741824 := by
    rw [show X = (64 * a + c) * 1073741824 + d by rw [hx, Nat.add_mul, Nat.mul_comm 64 a, Nat.mul_assoc, Nat.add_assoc, show 64 * 1073741824 = 68719476736 from rfl]]
    exact mm_mod (by decide) hd (by decide)
  have e6 : X / 1073741824 = 64 * a + c := by clear e1 e2 e3 e4 e5; omega
  rw [e1, e2, e3, e4, e5, e6]
  clear e1 e2 e3 e4 e5 e6
  omega
theorem rr_4 {X : Nat} (h : X < 1152921504606846976) : (X / 16777216 + X % 16777216 * 68719476736) / 64 + (X / 16777216 + X % 16777216 * 68719476736) % 64 * 18014398509481984 = X / 1073741824 + X % 1073741824 * 1073741824 := by
  have ⟨a, c, d, hx, hc, hd⟩ : ∃ a c d : Nat, X = a * 1073741824 + (c * 16777216 + d) ∧ c < 64 ∧ d < 16777216 := ⟨X / 1073741824, X % 1073741824 / 16777216, X % 1073741824 % 16777216, by omega, by omega, by omega⟩
  have e1 : X / 16777216 = 64 * a + c := by omega
  have e2 : X % 16777216 = d := by clear e1; omega
  have e3 : (64 * a + c + d * 68719476736) / 64 = a + d * 1073741824 := by clear e1 e2 hx h; omega
  have e4 : (64 * a + c + d * 68719476736) % 64 = c := by clear e1 e2 e3 hx h; omega
  have e5 : X / 1073741824 = a := by clear e1 e2 e3 e4; omega
  have e6 : X % 1073741824 = c * 16777216 + d := by clear e1 e2 e3 e4 e5; omega
  rw [e1, e2, e3, e4, e5, e6]
  clear e1 e2 e3 e4 e5 e6
  omega
theorem rl_5 {X : Nat} (h : X < 1152921504606846976) : (X * 1073741824 % 1152921504606846976 + X / 1073741824) * 64 % 1152921504606846976 + (X * 1073741824 % 1152921504606846976 + X / 1073741824) / 18014398509481984 = X * 68719476736 % 1152921504606846976 + X / 16777216 := by
  have ⟨a, c, d, hx, hc, hd⟩ : ∃ a c d : Nat, X = a * 1073741824 + (c * 16777216 + d) ∧ c < 64 ∧ d < 16777216 := ⟨X / 1073741824, X % 1073741824 / 16777216, X % 1073741824 % 16777216, by omega, by omega, by omega⟩
  have ha : a < 1073741824 := by omega
  have e1 : X * 1073741824 % 1152921504606846976 = (c * 16777216 + d) * 1073741824 := by rw [hx]; exact mm_mod (by decide) (by omega) (by decide)
  have e2 : X / 1073741824 = a := by clear e1; omega
  have e3 : ((c * 16777216 + d) * 1073741824 + a) * 64 % 1152921504606846976 = d * 68719476736 + 64 * a := by clear e1 e2 hx h; omega
  have e4 : ((c * 16777216 + d) * 1073741824 + a) / 18014398509481984 = c := by clear e1 e2 e3 hx h; omega
  have e5 : X * 68719476736 % 1152921504606846976 = d * 68719476736 := by
    rw [show X = (64 * a + c) * 16777216 + d by rw [hx, Nat.add_mul, Nat.mul_comm 64 a, Nat.mul_assoc, Nat.add_assoc, show 64 * 16777216 = 1073741824 from rfl]]
    exact mm_mod (by decide) hd (by decide)
  have e6 : X / 16777216 = 64 * a + c := by clear e1 e2 e3 e4 e5; omega
  rw [e1, e2, e3, e4, e5, e6]
  clear e1 e2 e3 e4 e5 e6
  omega
theorem rr_5 {X : Nat} (h : X < 1152921504606846976) : (X / 1073741824 + X % 1073741824 * 1073741824) / 64 + (X / 1073741824 + X % 1073741824 * 1073741824) % 64 * 18014398509481984 = X / 68719476736 + X % 68719476736 * 16777216 := by
  have ⟨a, c, d, hx, hc, hd⟩ : ∃ a c d : Nat, X = a * 68719476736 + (c * 1073741824 + d) ∧ c < 64 ∧ d < 1073741824 := ⟨X / 68719476736, X % 68719476736 / 1073741824, X % 68719476736 % 1073741824, by omega, by omega, by omega⟩
  have e1 : X / 1073741824 = 64 * a + c := by omega
  have e2 : X % 1073741824 = d := by clear e1; omega
  have e3 : (64 * a + c + d * 1073741824) / 64 = a + d * 16777216 := by clear e1 e2 hx h; omega
  have e4 : (64 * a + c + d * 1073741824) % 64 = c := by clear e1 e2 e3 hx h; omega
  have e5 : X / 68719476736 = a := by clear e1 e2 e3 e4; omega
  have e6 : X % 68719476736 = c * 1073741824 + d := by clear e1 e2 e3 e4 e5; omega
  rw [e1, e2, e3, e4, e5, e6]
  clear e1 e2 e3 e4 e5 e6
  omega
theorem rl_6 {X : Nat} (h : X < 1152921504606846976) : (X * 68719476736 % 1152921504606846976 + X / 16777216) * 64 % 1152921504606846976 + (X * 68719476736 % 1152921504606846976 + X / 16777216) / 18014398509481984 = X * 4398046511104 % 1152921504606846976 + X / 262144 := by
  have ⟨a, c, d, hx, hc, hd⟩ : ∃ a c d : Nat, X = a * 16777216 + (c * 262144 + d) ∧ c < 64 ∧ d < 262144 := ⟨X / 16777216, X % 16777216 / 262144, X % 16777216 % 262144, by omega, by omega, by omega⟩
  have ha : a < 68719476736 := by omega
  have e1 : X * 68719476736 % 1152921504606846976 = (c * 262144 + d) * 68719476736 := by rw [hx]; exact mm_mod (by decide) (by omega) (by decide)
  have e2 : X / 16777216 = a := by clear e1; omega
  have e3 : ((c * 262144 + d) * 68719476736 + a) * 64 % 1152921504606846976 = d * 4398046511104 + 64 * a := by clear e1 e2 hx h; omega
  have e4 : ((c * 262144 + d) * 68719476736 + a) / 18014398509481984 = c := by clear e1 e2 e3 hx h; omega
  have e5 : X * 4398046511104 % 1152921504606846976 = d * 4398046511104 := by
    rw [show X = (64 * a + c) * 262144 + d by rw [hx, Nat.add_mul, Nat.mul_comm 64 a, Nat.mul_assoc, Nat.add_assoc, show 64 * 262144 = 16777216 from rfl]]
    exact mm_mod (by decide) hd (by decide)
  have e6 : X / 262144 = 64 * a + c := by clear e1 e2 e3 e4 e5; omega
  rw [e1, e2, e3, e4, e5, e6]
  clear e1 e2 e3 e4 e5 e6
  omega
theorem rr_6 {X : Nat} (h : X < 1152921504606846976) : (X / 68719476736 + X % 68719476736 * 16777216) / 64 + (X / 68719476736 + X % 68719476736 * 16777216) % 64 * 18014398509481984 = X / 4398046511104 + X % 4398046511104 * 262144 := by
  have ⟨a, c, d, hx, hc, hd⟩ : ∃ a c d : Nat, X = a * 4398046511104 + (c * 68719476736 + d) ∧ c < 64 ∧ d < 68719476736 := ⟨X / 4398046511104, X % 4398046511104 / 68719476736, X % 4398046511104 % 68719476736, by omega, by omega, by omega⟩
  have e1 : X / 68719476736 = 64 * a + c := by omega
  have e2 : X % 68719476736 = d := by clear e1; omega
  have e3 : (64 * a + c + d * 16777216) / 64 = a + d * 262144 := by clear e1 e2 hx h; omega
  have e4 : (64 * a + c + d * 16777216) % 64 = c := by clear e1 e2 e3 hx h; omega
  have e5 : X / 4398046511104 = a := by clear e1 e2 e3 e4; omega
  have e6 : X % 4398046511104 = c * 68719476736 + d := by clear e1 e2 e3 e4 e5; omega
  rw [e1, e2, e3, e4, e5, e6]
  clear e1 e2 e3 e4 e5 e6
  omega
theorem rl_7 {X : Nat} (h : X < 1152921504606846976) : (X * 4398046511104 % 1152921504606846976 + X / 262144) * 64 % 1152921504606846976 + (X * 4398046511104 % 1152921504606846976 + X / 262144) / 18014398509481984 = X * 281474976710656 % 1152921504606846976 + X / 4096 := by
  have ⟨a, c, d, hx, hc, hd⟩ : ∃ a c d : Nat, X = a * 262144 + (c * 4096 + d) ∧ c < 64 ∧ d < 4096 := ⟨X / 262144, X % 262144 / 4096, X % 262144 % 4096, by omega, by omega, by omega⟩
  have ha : a < 4398046511104 := by omega
  have e1 : X * 4398046511104 % 1152921504606846976 = (c * 4096 + d) * 4398046511104 := by rw [hx]; exact mm_mod (by decide) (by omega) (by decide)
  have e2 : X / 262144 = a := by clear e1; omega
  have e3 : ((c * 4096 + d) * 4398046511104 + a) * 64 % 1152921504606846976 = d * 281474976710656 + 64 * a := by clear e1 e2 hx h; omega
  have e4 : ((c * 4096 + d) * 4398046511104 + a) / 18014398509481984 = c := by clear e1 e2 e3 hx h; omega
  have e5 : X * 281474976710656 % 1152921504606846976 = d * 281474976710656 := by
    rw [show X = (64 * a + c) * 4096 + d by rw [hx, Nat.add_mul, Nat.mul_comm 64 a, Nat.mul_assoc, Nat.add_assoc, show 64 * 4096 = 262144 from rfl]]
    exact mm_mod (by decide) hd (by decide)
  have e6 : X / 4096 = 64 * a + c := by clear e1 e2 e3 e4 e5; omega
  rw [e1, e2, e3, e4, e5, e6]
  clear e1 e2 e3 e4 e5 e6
  omega
theorem rr_7 {X : Nat} (h : X < 1152921504606846976) : (X / 4398046511104 + X % 4398046511104 * 262144) / 64 + (X / 4398046511104 + X % 4398046511104 * 262144) % 64 * 18014398509481984 = X / 281474976710656 + X % 281474976710656 * 4096 := by
  have ⟨a, c, d, hx, hc, hd⟩ : ∃ a c d : Nat, X = a * 281474976710656 + (c * 4398046511104 + d) ∧ c < 64 ∧ d < 4398046511104 := ⟨X / 281474976710656, X % 281474976710656 / 4398046511104, X % 281474976710656 % 4398046511104, by omega, by omega, by omega⟩
  have e1 : X / 4398046511104 = 64 * a + c := by omega
  have e2 : X % 4398046511104 = d := by clear e1; omega
  have e3 : (64 * a + c + d * 262144) / 64 = a + d * 4096 := by clear e1 e2 hx h; omega
  have e4 : (64 * a + c + d * 262144) % 64 = c := by clear e1 e2 e3 hx h; omega
  have e5 : X / 281474976710656 = a := by clear e1 e2 e3 e4; omega
  have e6 : X % 281474976710656 = c * 4398046511104 + d := by clear e1 e2 e3 e4 e5; omega
  rw [e1, e2, e3, e4, e5, e6]
  clear e1 e2 e3 e4 e5 e6
  omega
theorem rl_8 {X : Nat} (h : X < 1152921504606846976) : (X * 281474976710656 % 1152921504606846976 + X / 4096) * 64 % 1152921504606846976 + (X * 281474976710656 % 1152921504606846976 + X / 4096) / 18014398509481984 = X * 18014398509481984 % 1152921504606846976 + X / 64 := by
  have ⟨a, c, d, hx, hc, hd⟩ : ∃ a c d : Nat, X = a * 4096 + (c * 64 + d) ∧ c < 64 ∧ d < 64 := ⟨X / 4096, X % 4096 / 64, X % 4096 % 64, by omega, by omega, by omega⟩
  have ha : a < 281474976710656 := by omega
  have e1 : X * 281474976710656 % 1152921504606846976 = (c * 64 + d) * 281474976710656 := by rw [hx]; exact mm_mod (by decide) (by omega) (by decide)
  have e2 : X / 4096 = a := by clear e1; omega
  have e3 : ((c * 64 + d) * 281474976710656 + a) * 64 % 1152921504606846976 = d * 18014398509481984 + 64 * a := by clear e1 e2 hx h; omega
  have e4 : ((c * 64 + d) * 281474976710656 + a) / 18014398509481984 = c := by clear e1 e2 e3 hx h; omega
  have e5 : X * 18014398509481984 % 1152921504606846976 = d * 18014398509481984 := by
    rw [show X = (64 * a + c) * 64 + d by rw [hx, Nat.add_mul, Nat.mul_comm 64 a, Nat.mul_assoc, Nat.add_assoc, show 64 * 64 = 4096 from rfl]]
    exact mm_mod (by decide) hd (by decide)
  have e6 : X / 64 = 64 * a + c := by clear e1 e2 e3 e4 e5; omega
  rw [e1, e2, e3, e4, e5, e6]
  clear e1 e2 e3 e4 e5 e6
  omega
theorem rr_8 {X : Nat} (h : X < 1152921504606846976) : (X / 281474976710656 + X % 281474976710656 * 4096) / 64 + (X / 281474976710656 + X % 281474976710656 * 4096) % 64 * 18014398509481984 = X / 18014398509481984 + X % 18014398509481984 * 64 := by
  have ⟨a, c, d, hx, hc, hd⟩ : ∃ a c d : Nat, X = a * 18014398509481984 + (c * 281474976710656 + d) ∧ c < 64 ∧ d < 281474976710656 := ⟨X / 18014398509481984, X % 18014398509481984 / 281474976710656, X % 18014398509481984 % 281474976710656, by omega, by omega, by omega⟩
  have e1 : X / 281474976710656 = 64 * a + c := by omega
  have e2 : X % 281474976710656 = d := by clear e1; omega
  have e3 : (64 * a + c + d * 4096) / 64 = a + d * 64 := by clear e1 e2 hx h; omega
  have e4 : (64 * a + c + d * 4096) % 64 = c := by clear e1 e2 e3 hx h; omega
  have e5 : X / 18014398509481984 = a := by clear e1 e2 e3 e4; omega
  have e6 : X % 18014398509481984 = c * 281474976710656 + d := by clear e1 e2 e3 e4 e5; omega
  rw [e1, e2, e3, e4, e5, e6]
  clear e1 e2 e3 e4 e5 e6
  omega
theorem rl_9 {X : Nat} (h : X < 1152921504606846976) : (X * 18014398509481984 % 1152921504606846976 + X / 64) * 64 % 1152921504606846976 + (X * 18014398509481984 % 1152921504606846976 + X / 64) / 18014398509481984 = X * 1152921504606846976 % 1152921504606846976 + X / 1 := by
  have ⟨a, c, d, hx, hc, hd⟩ : ∃ a c d : Nat, X = a * 64 + (c * 1 + d) ∧ c < 64 ∧ d < 1 := ⟨X / 64, X % 64 / 1, X % 64 % 1, by omega, by omega, by omega⟩
  have ha : a < 18014398509481984 := by omega
  have e1 : X * 18014398509481984 % 1152921504606846976 = (c * 1 + d) * 18014398509481984 := by rw [hx]; exact mm_mod (by decide) (by omega) (by decide)
  have e2 : X / 64 = a := by clear e1; omega
  have e3 : ((c * 1 + d) * 18014398509481984 + a) * 64 % 1152921504606846976 = d * 1152921504606846976 + 64 * a := by clear e1 e2 hx h; omega
  have e4 : ((c * 1 + d) * 18014398509481984 + a) / 18014398509481984 = c := by clear e1 e2 e3 hx h; omega
  have e5 : X * 1152921504606846976 % 1152921504606846976 = d * 1152921504606846976 := by
    rw [show X = (64 * a + c) * 1 + d by rw [hx, Nat.add_mul, Nat.mul_comm 64 a, Nat.mul_assoc, Nat.add_assoc, show 64 * 1 = 64 from rfl]]
    exact mm_mod (by decide) hd (by decide)
  have e6 : X / 1 = 64 * a + c := by clear e1 e2 e3 e4 e5; omega
  rw [e1, e2, e3, e4, e5, e6]
  clear e1 e2 e3 e4 e5 e6
  omega
theorem rr_9 {X : Nat} (h : X < 1152921504606846976) : (X / 18014398509481984 + X % 18014398509481984 * 64) / 64 + (X / 18014398509481984 + X % 18014398509481984 * 64) % 64 * 18014398509481984 = X / 1152921504606846976 + X % 1152921504606846976 * 1 := by
  have ⟨a, c, d, hx, hc, hd⟩ : ∃ a c d : Nat, X = a * 1152921504606846976 + (c * 18014398509481984 + d) ∧ c < 64 ∧ d < 18014398509481984 := ⟨X / 1152921504606846976, X % 1152921504606846976 / 18014398509481984, X % 1152921504606846976 % 18014398509481984, by omega, by omega, by omega⟩
  have e1 : X / 18014398509481984 = 64 * a + c := by omega
  have e2 : X % 18014398509481984 = d := by clear e1; omega
  have e3 : (64 * a + c + d * 64) / 64 = a + d * 1 := by clear e1 e2 hx h; omega
  have e4 : (64 * a + c + d * 64) % 64 = c := by clear e1 e2 e3 hx h; omega
  have e5 : X / 1152921504606846976 = a := by clear e1 e2 e3 e4; omega
  have e6 : X % 1152921504606846976 = c * 18014398509481984 + d := by clear e1 e2 e3 e4 e5; omega
  rw [e1, e2, e3, e4, e5, e6]
  clear e1 e2 e3 e4 e5 e6
  omega
theorem rot_l {X n : Nat} (h : X < 1152921504606846976) (hn : n < 10) : (X * 64 ^ n % 1152921504606846976 + X / 2 ^ (60 - 6 * n)) * 64 % 1152921504606846976 + (X * 64 ^ n % 1152921504606846976 + X / 2 ^ (60 - 6 * n)) / 18014398509481984 = X * 64 ^ (n + 1) % 1152921504606846976 + X / 2 ^ (60 - 6 * (n + 1)) := by
  have : n = 0 ∨ n = 1 ∨ n = 2 ∨ n = 3 ∨ n = 4 ∨ n = 5 ∨ n = 6 ∨ n = 7 ∨ n = 8 ∨ n = 9 := by omega
  rcases this with rfl | rfl | rfl | rfl | rfl | rfl | rfl | rfl | rfl | rfl <;> simp only [Nat.reducePow, Nat.reduceMul, Nat.reduceAdd, Nat.reduceSub]
  · exact rl_0 h
  · exact rl_1 h
  · exact rl_2 h
  · exact rl_3 h
  · exact rl_4 h
  · exact rl_5 h
  · exact rl_6 h
  · exact rl_7 h
  · exact rl_8 h
  · exact rl_9 h
theorem rot_r {X n : Nat} (h : X < 1152921504606846976) (hn : n < 10) : (X / 64 ^ n + X % 64 ^ n * 2 ^ (60 - 6 * n)) / 64 + (X / 64 ^ n + X % 64 ^ n * 2 ^ (60 - 6 * n)) % 64 * 18014398509481984 = X / 64 ^ (n + 1) + X % 64 ^ (n + 1) * 2 ^ (60 - 6 * (n + 1)) := by
  have : n = 0 ∨ n = 1 ∨ n = 2 ∨ n = 3 ∨ n = 4 ∨ n = 5 ∨ n = 6 ∨ n = 7 ∨ n = 8 ∨ n = 9 := by omega
  rcases this with rfl | rfl | rfl | rfl | rfl | rfl | rfl | rfl | rfl | rfl <;> simp only [Nat.reducePow, Nat.reduceMul, Nat.reduceAdd, Nat.reduceSub]
  · exact rr_0 h
  · exact rr_1 h
  · exact rr_2 h
  · exact rr_3 h
  · exact rr_4 h
  · exact rr_5 h
  · exact rr_6 h
  · exact rr_7 h
  · exact rr_8 h
  · exact rr_9 h
theorem it4_ok {X : Nat} (h : X < 1152921504606846976) : ∀ n, n ≤ 10 → it4 X n = X * 64 ^ n % 1152921504606846976 + X / 2 ^ (60 - 6 * n)
  | 0, _ => by
    show X = X * 1 % 1152921504606846976 + X / 1152921504606846976
    omega
  | n + 1, hn => by
    show it4 X n * 64 % 1152921504606846976 + it4 X n / 18014398509481984 = _
    rw [it4_ok h n (by omega), rot_l h (by omega)]
theorem it5_ok {X : Nat} (h : X < 1152921504606846976) : ∀ n, n ≤ 10 → it5 X n = X / 64 ^ n + X % 64 ^ n * 2 ^ (60 - 6 * n)
  | 0, _ => by
    show X = X / 1 + X % 1 * 1152921504606846976
    omega
  | n + 1, hn => by
    show it5 X n / 64 + it5 X n % 64 * 18014398509481984 = _
    rw [it5_ok h n (by omega), rot_r h (by omega)]
theorem or_add {a b k : Nat} (hb : b < 2 ^ k) : (a * 2 ^ k) ||| b = a * 2 ^ k + b := by
  rw [Nat.mul_comm a, Nat.two_pow_add_eq_or_of_lt hb]
theorem dv32 {m b : Int32} (h : 0 ≤ m.toInt) (hb : 1 ≤ b.toInt) : (m / b).toInt = m.toInt / b.toInt := by
  have h1 := Int32.toInt_lt m
  have h2 : 0 ≤ m.toInt / b.toInt := Int.ediv_nonneg h (by omega)
  have h3 : m.toInt / b.toInt ≤ m.toInt := Int.ediv_le_self _ h
  rw [Int32.toInt_div, Int.tdiv_eq_ediv_of_nonneg h, bm32 (by omega) (by omega)]
theorem rm10 {m : Int32} (h : 0 ≤ m.toInt) : (m - m / 10 * 10).toInt = m.toInt % 10 := by
  have h1 := Int32.toInt_lt m
  have e := dv32 (b := 10) h (by decide)
  rw [show (10 : Int32).toInt = 10 from rfl] at e
  rw [Int32.toInt_sub, Int32.toInt_mul, e, show (10 : Int32).toInt = 10 from rfl, bm32 (x := m.toInt / 10 * 10) (by omega) (by omega), bm32 (by omega) (by omega)]
  omega
