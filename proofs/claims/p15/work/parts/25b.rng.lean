/-! THE MACHINE WITH RANGES IS SOUND: arithmetic -/
section RA
variable {ρ : List Int} {fs : rF}
theorem rNi_ok2 (hO : rOk ρ fs) (hn : fs.length < 60000) {l u : Int} {x : Int32} (h : rI0 ≤ l → u ≤ rI1 → l ≤ x.toInt ∧ x.toInt ≤ u) : ∃ e, rOk (ρ ++ e) (rNi fs l u).1 ∧ rE (ρ ++ e) (rNi fs l u).2 = some (.int x) := by
  by_cases hc : rI0 ≤ l ∧ u ≤ rI1
  · obtain ⟨h1, h2⟩ := h hc.1 hc.2
    exact rNi_ok hO hn h1 h2
  · have e1 : rNi fs l u = rNi fs rI0 rI1 := by
      unfold rNi
      rw [if_neg (fun q => hc ⟨by omega, by omega⟩), if_neg hc, if_neg (by unfold rI0 rI1; omega), if_pos ⟨Int.le_refl _, Int.le_refl _⟩]
    rw [e1]
    exact rNi_ok hO hn (Int32.le_toInt x) (Int32.toInt_le x)
theorem rBm {z : Int} (h1 : rI0 ≤ z) (h2 : z ≤ rI1) : z.bmod (2 ^ 32) = z := by
  unfold rI0 at h1
  unfold rI1 at h2
  exact Int.bmod_eq_of_le_mul_two (by show -((4294967296 : Nat) : Int) ≤ z * 2; omega) (by show z * 2 < ((4294967296 : Nat) : Int); omega)
theorem rAdd_ok {x y : Int32} (h1 : rI0 ≤ x.toInt + y.toInt) (h2 : x.toInt + y.toInt ≤ rI1) : (x + y).toInt = x.toInt + y.toInt := by
  rw [Int32.toInt_add]
  exact rBm h1 h2
theorem rSub_ok {x y : Int32} (h1 : rI0 ≤ x.toInt - y.toInt) (h2 : x.toInt - y.toInt ≤ rI1) : (x - y).toInt = x.toInt - y.toInt := by
  rw [Int32.toInt_sub]
  exact rBm h1 h2
theorem rMul_ok {x y : Int32} (h1 : rI0 ≤ x.toInt * y.toInt) (h2 : x.toInt * y.toInt ≤ rI1) : (x * y).toInt = x.toInt * y.toInt := by
  rw [Int32.toInt_mul]
  exact rBm h1 h2
theorem rNat {x : Int32} (h : x.toBitVec.toNat < 2147483648) : x.toInt = (x.toBitVec.toNat : Int) := by
  have h2 : x.toInt = x.toBitVec.toInt := rfl
  rw [h2, BitVec.toInt_eq_toNat_cond, if_pos (by omega)]
theorem rNat' {x : Int32} (h : 0 ≤ x.toInt) : x.toBitVec.toNat < 2147483648 := by
  have h2 : x.toInt = x.toBitVec.toInt := rfl
  rw [h2, BitVec.toInt_eq_toNat_cond] at h
  split at h
  · omega
  · have := x.toBitVec.isLt
    omega
theorem rAnd_ok {x y : Int32} (h : 0 ≤ y.toInt) : 0 ≤ (x &&& y).toInt ∧ (x &&& y).toInt ≤ y.toInt := by
  have h1 := rNat' h
  have e : (x &&& y).toBitVec.toNat ≤ y.toBitVec.toNat := by
    show (x.toBitVec &&& y.toBitVec).toNat ≤ _
    rw [BitVec.toNat_and]
    exact Nat.and_le_right
  rw [rNat (x := x &&& y) (by omega), rNat h1]
  omega
theorem rRem_ok {x y : Int32} (hx : 0 ≤ x.toInt) (hy : 1 ≤ y.toInt) : 0 ≤ (x - x / y * y).toInt ∧ (x - x / y * y).toInt ≤ y.toInt - 1 := by
  have hx2 := Int32.toInt_le x
  have hx3 : x.toInt ≤ 2147483647 := hx2
  have d0 : 0 ≤ x.toInt / y.toInt := Int.ediv_nonneg hx (by omega)
  have d1 : x.toInt / y.toInt * y.toInt ≤ x.toInt := Int.ediv_mul_le _ (by omega)
  have d2 : x.toInt / y.toInt ≤ x.toInt := Int.ediv_le_self _ hx
  have d4 : 0 ≤ x.toInt / y.toInt * y.toInt := Int.mul_nonneg d0 (by omega)
  have e1 : (x / y).toInt = x.toInt / y.toInt := by
    rw [Int32.toInt_div, Int.tdiv_eq_ediv_of_nonneg hx]
    exact rBm (by unfold rI0; omega) (by unfold rI1; omega)
  have e2 : (x / y * y).toInt = x.toInt / y.toInt * y.toInt := by
    rw [rMul_ok (by rw [e1]; unfold rI0; omega) (by rw [e1]; unfold rI1; omega), e1]
  have e3 : (x - x / y * y).toInt = x.toInt - x.toInt / y.toInt * y.toInt := by
    rw [rSub_ok (by rw [e2]; unfold rI0; omega) (by rw [e2]; unfold rI1; omega), e2]
  have d3 := Int.emod_lt_of_pos x.toInt (show 0 < y.toInt by omega)
  have d5 := Int.emod_nonneg x.toInt (show y.toInt ≠ 0 by omega)
  have d6 := Int.emod_def x.toInt y.toInt
  rw [Int.mul_comm] at d6
  rw [e3]
  omega
theorem rUsh_ok {x y : Int32} (h : (y.toUInt32 &&& Int32.toUInt32 31).toNat % 32 ≠ 0) : 0 ≤ (x.toUInt32 >>> (y.toUInt32 &&& Int32.toUInt32 31)).toInt32.toInt := by
  have e : (x.toUInt32 >>> (y.toUInt32 &&& Int32.toUInt32 31)).toInt32.toBitVec.toNat < 2147483648 := by
    show (x.toUInt32 >>> (y.toUInt32 &&& Int32.toUInt32 31)).toNat < _
    rw [UInt32.toNat_shiftRight, Nat.shiftRight_eq_div_pow]
    have h1 := x.toUInt32.toNat_lt
    have h2 : 2 ≤ 2 ^ ((y.toUInt32 &&& Int32.toUInt32 31).toNat % 32) := by
      have := Nat.pow_le_pow_right (n := 2) (by omega) (show 1 ≤ (y.toUInt32 &&& Int32.toUInt32 31).toNat % 32 by omega)
      simpa using this
    have h3 : x.toUInt32.toNat / 2 ^ ((y.toUInt32 &&& Int32.toUInt32 31).toNat % 32) ≤ x.toUInt32.toNat / 2 := Nat.div_le_div_left h2 (by omega)
    omega
  rw [rNat e]
  omega
theorem rAny (w : Int32) : rI0 ≤ rI0 → rI1 ≤ rI1 → rI0 ≤ w.toInt ∧ w.toInt ≤ rI1 := fun _ _ => ⟨Int32.le_toInt w, Int32.toInt_le w⟩
theorem rSh31 : ∀ k : Fin 32, k.val ≠ 0 → ((Int32.ofNat k.val).toUInt32 &&& Int32.toUInt32 31).toNat % 32 ≠ 0 := by decide +kernel
theorem rBin_ok {i : Instr} {p q z : Int × Int} {x y : Int32} (hb : rBin i p q = some z) (x1 : p.1 ≤ x.toInt) (x2 : x.toInt ≤ p.2) (y1 : q.1 ≤ y.toInt) (y2 : y.toInt ≤ q.2) (r : List Value) : ∃ w, mA i (.int y :: .int x :: r) = some (.int w :: r) ∧ (rI0 ≤ z.1 → z.2 ≤ rI1 → z.1 ≤ w.toInt ∧ w.toInt ≤ z.2) := by
  cases i <;> simp only [rBin, reduceCtorEq] at hb
  case iadd =>
    cases hb
    refine ⟨x + y, rfl, fun h1 h2 => ?_⟩
    dsimp only at h1 h2 ⊢
    rw [rAdd_ok (by omega) (by omega)]
    omega
  case isub =>
    cases hb
    refine ⟨x - y, rfl, fun h1 h2 => ?_⟩
    dsimp only at h1 h2 ⊢
    rw [rSub_ok (by omega) (by omega)]
    omega
  case imul =>
    split at hb
    · rename_i hq
      cases hb
      refine ⟨x * y, rfl, fun h1 h2 => ?_⟩
      dsimp only at h1 h2 ⊢
      have m1 : 0 ≤ x.toInt * y.toInt := Int.mul_nonneg (by omega) (by omega)
      have m2 : x.toInt * y.toInt ≤ p.2 * q.2 := Int.mul_le_mul x2 y2 (by omega) (by omega)
      rw [rMul_ok (by unfold rI0; omega) (by omega)]
      omega
    · cases hb
      exact ⟨_, rfl, rAny _⟩
  case idiv =>
    split at hb
    · rename_i hq
      cases hb
      have hy : ¬ y = 0 := fun h => by subst h; have : (0 : Int32).toInt = 0 := rfl; omega
      refine ⟨x / y, ?_, rAny _⟩
      show (if y = 0 then none else some (Value.int (x / y) :: r)) = _
      rw [if_neg hy]
    · cases hb
  case irem =>
    split at hb
    · rename_i hq
      have hy : ¬ y = 0 := fun h => by subst h; have : (0 : Int32).toInt = 0 := rfl; omega
      refine ⟨x - x / y * y, ?_, ?_⟩
      · show (if y = 0 then none else some (Value.int (x - x / y * y) :: r)) = _
        rw [if_neg hy]
      · split at hb
        · rename_i hp
          cases hb
          intro h1 h2
          have := rRem_ok (x := x) (y := y) (by omega) (by omega)
          dsimp only at h1 h2 ⊢
          omega
        · cases hb
          exact rAny _
    · cases hb
  case iand =>
    split at hb
    · rename_i hq
      cases hb
      refine ⟨x &&& y, rfl, fun h1 h2 => ?_⟩
      have := rAnd_ok (x := x) (y := y) (by omega)
      dsimp only at h1 h2 ⊢
      omega
    · cases hb
      exact ⟨_, rfl, rAny _⟩
  case iushr =>
    split at hb
    · rename_i hq
      cases hb
      refine ⟨_, rfl, fun h1 h2 => ⟨?_, Int32.toInt_le _⟩⟩
      refine rUsh_ok ?_
      have hk : y = Int32.ofNat y.toInt.toNat := by
        apply Int32.toInt_inj.mp
        show y.toInt = (Int32.ofInt (y.toInt.toNat : Int)).toInt
        rw [Int.toNat_of_nonneg (by omega), rInt (by unfold rI0; omega) (by unfold rI1; omega)]
      have := rSh31 ⟨y.toInt.toNat, by omega⟩ (by show y.toInt.toNat ≠ 0; omega)
      dsimp only at this
      rw [← hk] at this
      exact this
    · cases hb
      exact ⟨_, rfl, rAny _⟩
  all_goals
    cases hb
    exact ⟨_, rfl, rAny _⟩
end RA
