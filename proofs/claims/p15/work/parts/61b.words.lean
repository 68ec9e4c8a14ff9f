/-! WORDS OF BOTH SIDES ARE THE SAME -/
theorem zSto_yPut {f : Int32} (h1 : zLb f = yMk f) (h2 : zSh f &&& 31 = yShf f &&& 31) (w fr : Int32) : zSto w f fr = yPut w f fr := by
  unfold zSto yPut yMade
  rw [h1, h2, zBit_ite, Int32.mul_comm]
theorem zSto_0 (w fr : Int32) : zSto w 0 fr = yPut w 0 fr := by
  have e1 : zLb 0 = 0 := by decide
  have e2 : yMk 0 = 0 := by decide
  unfold zSto yPut yMade
  rw [e1, e2, zBit_ite, Int32.mul_comm]
  have z : ∀ k : Int32, (0 : Int32) <<< k = 0 := fun k => Int32.toBitVec_inj.1 (by
    rw [Int32.toBitVec_shiftLeft]
    show (0#32) <<< _ = 0#32
    exact BitVec.zero_shiftLeft _)
  rw [Int32.and_zero, z, z]
theorem zOf_yOf (v : Int32) : zOfL v.toInt64 = yOf v := by
  unfold zOfL yOf yMade
  have e : v.toInt64.toInt = v.toInt := Int32.toInt_toInt64 v
  by_cases h : v < 0
  · have h1 := Int32.lt_iff_toInt_lt.mp h
    rw [if_pos (by rw [e]; exact h1), if_pos h, if_pos h, Int32.mul_comm]
    have : (-v.toInt64).toInt32 = -v := by
      rw [Int64.toInt32_neg, Int32.toInt32_toInt64]
    rw [this]
  · rw [if_neg (by rw [e]; exact fun g => h (Int32.lt_iff_toInt_lt.mpr g)), if_neg h, if_neg h, Int32.mul_comm, Int32.toInt32_toInt64, Int32.add_zero]
/-- the fields -/
theorem zFld_ok {f : Int32} : zFld f.toInt64 ↔ yOkf f := by
  have key : ∀ n : Fin 64, zFld (Int32.ofNat n.val).toInt64 ↔ yOkf (Int32.ofNat n.val) := by decide +kernel
  by_cases h : 0 ≤ f.toInt ∧ f.toInt < 64
  · obtain ⟨n, rfl⟩ : ∃ n : Fin 64, f = Int32.ofNat n.val := ⟨⟨f.toInt.toNat, by omega⟩, by
      apply Int32.toInt_inj.mp
      rw [Int32.toInt_ofNat_of_lt (by show f.toInt.toNat < _; omega)]
      show f.toInt = (f.toInt.toNat : Int)
      omega⟩
    exact key n
  · constructor
    · intro g
      exfalso
      have e : f.toInt64.toInt = f.toInt := Int32.toInt_toInt64 f
      have g1 := g.1
      have g2 := g.2.1
      have g3 := g.2.2
      rw [e] at g1
      have s : (f.toInt64 >>> (((3 : Int32).toInt64) &&& 63)).toInt = f.toInt / 8 := by
        show (f.toInt64.toBitVec.sshiftRight 3).toInt = _
        rw [BitVec.toInt_sshiftRight, Int.shiftRight_eq_div_pow]
        show f.toInt64.toInt / 8 = _
        rw [e]
      rw [s] at g2
      omega
    · intro g
      exfalso
      have g1 := g.1
      have g2 := g.2.1
      rw [Int32.lt_iff_toInt_lt] at g1 g2
      rw [show (0 : Int32).toInt = 0 from rfl] at g1
      rw [show (63 : Int32).toInt = 63 from rfl] at g2
      omega
