/-! WORDS: not negative, and the same on both sides -/
abbrev wOk (w : Int32) : Prop := 0 ≤ w.toInt
theorem bm32 {x : Int} (h1 : -2147483648 ≤ x) (h2 : x < 2147483648) : x.bmod (2 ^ 32) = x := Int.bmod_eq_of_le (by omega) (by omega)
theorem bm64 {x : Int} (h1 : -9223372036854775808 ≤ x) (h2 : x < 9223372036854775808) : x.bmod (2 ^ 64) = x := Int.bmod_eq_of_le (by omega) (by omega)
theorem i64 {f : Int32} (h1 : ¬ f < 0) (h2 : ¬ 63 < f) : ∃ n : Fin 64, f = Int32.ofNat n.val := by
  rw [Int32.lt_iff_toInt_lt] at h1 h2
  rw [show (0 : Int32).toInt = 0 from rfl] at h1
  rw [show (63 : Int32).toInt = 63 from rfl] at h2
  refine ⟨⟨f.toInt.toNat, by omega⟩, ?_⟩
  apply Int32.toInt_inj.mp
  rw [Int32.toInt_ofNat_of_lt (by show f.toInt.toNat < _; omega)]
  show f.toInt = (f.toInt.toNat : Int)
  omega
theorem zSto_ok {f : Int32} (hf : yOkf f) (w fr : Int32) : zSto w f fr = yPut w f fr := by
  have key : ∀ n : Fin 64, yOkf (Int32.ofNat n.val) → n.val = 0 ∨ (zLb (Int32.ofNat n.val) = yMk (Int32.ofNat n.val) ∧ zSh (Int32.ofNat n.val) &&& 31 = yShf (Int32.ofNat n.val) &&& 31) := by decide +kernel
  obtain ⟨n, rfl⟩ := i64 hf.1 hf.2.1
  rcases key n hf with h | h
  · have e : Int32.ofNat n.val = 0 := by rw [h]; rfl
    rw [e]
    exact zSto_0 w fr
  · exact zSto_yPut h.1 h.2 w fr
theorem yMade_nn {m : Int32} (h : uN m < 1073741824) (neg : Prop) [Decidable neg] : wOk (yMade m neg) ∧ uN (yMade m neg) = 2 * uN m + (if neg then 1 else 0) := by
  have e : uN (yMade m neg) = 2 * uN m + (if neg then 1 else 0) := by
    unfold yMade
    rw [uN_add, uN_mul, show uN (2 : Int32) = 2 from rfl]
    split
    · rw [show uN (1 : Int32) = 1 from rfl]
      omega
    · rw [show uN (0 : Int32) = 0 from rfl]
      omega
  refine ⟨?_, e⟩
  show 0 ≤ (yMade m neg).toInt
  rw [uN_int, if_pos (by rw [e]; split <;> omega)]
  omega
theorem wOk_lt {w : Int32} (h : wOk w) : uN w < 2147483648 := (uN_nn h).1
theorem yPut_nn {f : Int32} (hf : yOkf f) {w : Int32} (hw : wOk w) (fr : Int32) : wOk (yPut w f fr) := by
  have key : ∀ n : Fin 64, yOkf (Int32.ofNat n.val) → uN (yMk (Int32.ofNat n.val)) * 2 ^ ((yShf (Int32.ofNat n.val) &&& 31).toBitVec.smod 32).toNat < 1073741824 := by decide +kernel
  obtain ⟨n, rfl⟩ := i64 hf.1 hf.2.1
  have hk := key n hf
  generalize Int32.ofNat n.val = f at hk
  have hm := uN_mag w
  have hl := wOk_lt hw
  have hb : uN ((zMag fr &&& yMk f) <<< (yShf f &&& 31)) < 2 ^ 30 := by
    rw [uN_shl rfl, uN_and]
    have h1 : uN (zMag fr) &&& uN (yMk f) ≤ uN (yMk f) := Nat.and_le_right
    have h2 := Nat.mul_le_mul_right (2 ^ ((yShf f &&& 31).toBitVec.smod 32).toNat) h1
    exact Nat.lt_of_le_of_lt (Nat.mod_le _ _) (Nat.lt_of_le_of_lt h2 hk)
  have ha : uN (zMag w &&& ((yMk f <<< (yShf f &&& 31)) ^^^ (-1))) < 2 ^ 30 := by
    rw [uN_and]
    have h1 : uN (zMag w) &&& uN ((yMk f <<< (yShf f &&& 31)) ^^^ (-1)) ≤ uN (zMag w) := Nat.and_le_left
    omega
  unfold yPut
  refine (yMade_nn ?_ _).1
  rw [uN_or]
  exact Nat.or_lt_two_pow ha hb
theorem zNeg_int {v : Int32} (h : -2147483648 < v.toInt) : (-v).toInt = -v.toInt := by
  have := Int32.toInt_lt v
  rw [Int32.toInt_neg, bm32 (by omega) (by omega)]
/-- small enough -/
abbrev vOk (v : Int32) : Prop := -1073741824 < v.toInt ∧ v.toInt < 1073741824
theorem yOf_nn {v : Int32} (h : vOk v) : wOk (yOf v) ∧ uN (zMag (yOf v)) = v.toInt.natAbs ∧ (yOf v &&& 1 = 1 ↔ v < 0) := by
  have ha : uN (if v < 0 then -v else v) = v.toInt.natAbs := by
    split
    · rename_i g
      rw [Int32.lt_iff_toInt_lt, show (0 : Int32).toInt = 0 from rfl] at g
      have e := zNeg_int (v := v) (by omega)
      have := (uN_nn (x := -v) (by omega)).2
      omega
    · rename_i g
      rw [Int32.lt_iff_toInt_lt, show (0 : Int32).toInt = 0 from rfl] at g
      have := (uN_nn (x := v) (by omega)).2
      omega
  have hm := yMade_nn (m := if v < 0 then -v else v) (by omega) (v < 0)
  refine ⟨hm.1, ?_, ?_⟩
  · rw [uN_mag]
    show uN (yMade _ _) / 2 = _
    rw [hm.2, ha]
    split <;> omega
  · have h1 := uN_bit (yOf v)
    have h2 : uN (yOf v) = _ := hm.2
    constructor
    · intro g
      rw [g, show uN (1 : Int32) = 1 from rfl, h2] at h1
      by_cases hv : v < 0
      · exact hv
      · simp only [if_neg hv] at h1
        omega
    · intro g
      rw [h2] at h1
      simp only [if_pos g] at h1
      apply uN_inj
      rw [h1, show uN (1 : Int32) = 1 from rfl]
      omega
theorem zVal_ok {w : Int32} (h : wOk w) : vOk (zVal w) := by
  have h1 := zMag_int w
  have h2 := wOk_lt h
  unfold zVal
  split
  · have := zNeg_int (v := zMag w) (by omega)
    exact ⟨by omega, by omega⟩
  · exact ⟨by omega, by omega⟩
/-- the bits that stay -/
theorem nAnd18 {m : Nat} (h : m < 1073741824) : m &&& 3221487615 = m &&& 262143 := by
  apply Nat.eq_of_testBit_eq
  intro j
  rw [Nat.testBit_and, Nat.testBit_and]
  by_cases hj : j < 30
  · have key : ∀ j : Fin 30, Nat.testBit 3221487615 j.val = Nat.testBit 262143 j.val := by decide +kernel
    rw [key ⟨j, hj⟩]
  · rw [Nat.testBit_lt_two_pow (Nat.lt_of_lt_of_le h (Nat.pow_le_pow_right (show 0 < 2 by omega) (show 30 ≤ j by omega)))]
    rfl
theorem nAnd12 {m : Nat} (h : m < 4096) : m &&& 4095 = m := Nat.and_two_pow_sub_one_of_lt_two_pow (n := 12) h
/-- a sign and a magnitude -/
theorem zSgn {m s m' : Int32} {neg : Prop} [Decidable neg] (hm : uN m = uN m') (hs : s &&& 1 = 1 ↔ neg) : m * 2 + (s &&& 1) = yMade m' neg := by
  rw [uN_inj hm, Int32.mul_comm]
  unfold yMade
  rw [← zBit_ite s]
  by_cases g : neg
  · rw [if_pos g, if_pos (hs.2 g)]
  · rw [if_neg g, if_neg (fun q => g (hs.1 q))]
theorem zSto2 (w fr : Int32) : zSto w 2 fr = ((zMag w &&& (-1073479681)) ||| ((zMag fr &&& 4095) <<< (18 : Int32))) * 2 + (fr &&& 1) := by
  have e1 : zLb 2 = 4095 := by decide +kernel
  have e2 : zSh 2 &&& 31 = 18 := by decide +kernel
  have e3 : ((4095 : Int32) <<< (18 : Int32)) ^^^ (-1) = -1073479681 := by decide +kernel
  unfold zSto
  rw [e1, e2, e3, if_pos (by decide)]
/-- an address put into a word -/
theorem zSto_adr {w x : Int32} (hx : wOk x) (hw : zMag w < 4096) : zSto x 2 w = yAdr w x := by
  rw [zSto2]
  have hw' : uN (zMag w) < 4096 := (uN_lt_iff (n := 4096) (zMag_nn w) (by omega)).1 hw
  unfold yAdr
  refine zSgn ?_ Iff.rfl
  rw [uN_or, uN_or, uN_and, uN_and, show uN (-1073479681 : Int32) = 3221487615 from rfl, show uN (262143 : Int32) = 262143 from rfl, nAnd18 (by have := uN_mag x; have := wOk_lt hx; omega), uN_shl (n := 18) rfl, uN_shl (n := 18) (by decide), uN_and, show uN (4095 : Int32) = 4095 from rfl, nAnd12 hw', Nat.or_comm]
theorem yAdr_nn {w x : Int32} (hw : zMag w < 4096) : wOk (yAdr w x) := by
  have hw' : uN (zMag w) < 4096 := (uN_lt_iff (n := 4096) (zMag_nn w) (by omega)).1 hw
  unfold yAdr
  refine (yMade_nn ?_ _).1
  rw [uN_or, uN_shl (n := 18) (by decide), uN_and, show uN (262143 : Int32) = 262143 from rfl]
  refine Nat.or_lt_two_pow (n := 30) ?_ ?_
  · exact Nat.lt_of_le_of_lt (Nat.mod_le _ _) (by omega)
  · exact Nat.lt_of_le_of_lt Nat.and_le_right (by omega)
theorem nAnd18m {m : Nat} (h : m < 262144) : m &&& 262143 = m := Nat.and_two_pow_sub_one_of_lt_two_pow (n := 18) h
/-- an instruction's word -/
theorem zWd_yWd {i f c v n : Int32} (hi : uN i ≤ 6) (hf : uN f ≤ 63) (hc : uN c < 64) (hn : n - n / 128 * 128 = c) (hv : uN (zMag (yOf v)) < 4096) : zWd i f c (yOf v) = yWd v i f n ∧ wOk (yWd v i f n) := by
  have hm : uN (((i <<< ((12 : Int32) &&& (31 : Int32))) ||| (f <<< ((6 : Int32) &&& (31 : Int32)))) ||| c) < 262144 := by
    rw [uN_or, uN_or, uN_shl (n := 12) (by decide), uN_shl (n := 6) (by decide)]
    refine Nat.or_lt_two_pow (n := 18) (Nat.or_lt_two_pow ?_ ?_) ?_
    · exact Nat.lt_of_le_of_lt (Nat.mod_le _ _) (by omega)
    · exact Nat.lt_of_le_of_lt (Nat.mod_le _ _) (by omega)
    · omega
  have hg : uN (zMag ((((i <<< ((12 : Int32) &&& (31 : Int32))) ||| (f <<< ((6 : Int32) &&& (31 : Int32)))) ||| c) * 2 + 0)) = uN (((i <<< ((12 : Int32) &&& (31 : Int32))) ||| (f <<< ((6 : Int32) &&& (31 : Int32)))) ||| c) := by
    rw [uN_mag, uN_add, uN_mul, show uN (2 : Int32) = 2 from rfl, show uN (0 : Int32) = 0 from rfl]
    omega
  have hs : uN (zMag (yOf v) <<< ((18 : Int32) &&& (31 : Int32))) = uN (zMag (yOf v)) * 2 ^ 18 % 4294967296 := uN_shl (n := 18) (by decide)
  have e : uN (((((zMag (yOf v) <<< ((18 : Int32) &&& (31 : Int32))) ||| (i <<< ((12 : Int32) &&& (31 : Int32)))) ||| (f <<< ((6 : Int32) &&& (31 : Int32)))) ||| c)) = uN (((i <<< ((12 : Int32) &&& (31 : Int32))) ||| (f <<< ((6 : Int32) &&& (31 : Int32)))) ||| c) ||| (uN (zMag (yOf v)) * 2 ^ 18 % 4294967296) := by
    rw [uN_or, uN_or, uN_or, uN_or, uN_or, hs]
    ac_rfl
  unfold zWd yWd
  rw [hn]
  refine ⟨?_, ?_⟩
  · rw [zSto2]
    refine zSgn ?_ Iff.rfl
    rw [e, uN_or, uN_and, hg, show uN (-1073479681 : Int32) = 3221487615 from rfl, nAnd18 (by omega), nAnd18m hm, uN_shl (n := 18) rfl, uN_and, show uN (4095 : Int32) = 4095 from rfl, nAnd12 hv]
  · refine (yMade_nn ?_ _).1
    rw [e]
    refine Nat.or_lt_two_pow (n := 30) (by omega) ?_
    exact Nat.lt_of_le_of_lt (Nat.mod_le _ _) (by omega)
