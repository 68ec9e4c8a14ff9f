/-! OPERATIONS: the names that the reference knows -/
def rgB : List Nat := [65, 88, 49, 50, 51, 52, 53, 54]
theorem yLt_in {c : Int32} (h : ¬ yLt c < 0) : uN c ∈ rgB := by
  unfold yLt at h
  split at h
  · rename_i k
    rw [k]
    decide
  · split at h
    · rename_i k
      rw [k]
      decide
    · split at h
      · rename_i k
        simp only [Int32.lt_iff_toInt_lt, show (49 : Int32).toInt = 49 from rfl, show (54 : Int32).toInt = 54 from rfl] at k
        have h1 := (uN_nn (x := c) (by omega)).2
        have h2 : uN c = 49 ∨ uN c = 50 ∨ uN c = 51 ∨ uN c = 52 ∨ uN c = 53 ∨ uN c = 54 := by omega
        rcases h2 with e | e | e | e | e | e <;> rw [e] <;> decide
      · exact absurd (by decide) h
def lkp : List (Int64 × Int32) → Int64 → Int32
  | [], _ => -1
  | p :: r, w => if w = p.1 then p.2 else lkp r w
theorem lkp_in : ∀ (t : List (Int64 × Int32)) (w : Int64), ¬ lkp t w < 0 → ∃ p ∈ t, w = p.1
  | [], _, h => absurd (show (-1 : Int32) < 0 by decide) h
  | p :: r, w, h => by
    unfold lkp at h
    by_cases k : w = p.1
    · exact ⟨p, List.mem_cons_self, k⟩
    · rw [if_neg k] at h
      obtain ⟨q, h1, h2⟩ := lkp_in r w h
      exact ⟨q, List.mem_cons_of_mem _ h1, h2⟩
def y1t : List (Int64 × Int32) := [(5263182, 0), (4473921, 641), (4347219, 642), (5002573, 643), (5654852, 644), (5068110, 8197), (1380010051, 8325), (5524552, 8453), (4279379, 8198), (4280915, 8326), (1480674387, 8454), (1480675923, 8582), (4410451, 8710), (4411987, 8838), (1163284301, 135), (4871251, 288)]
theorem y1_t (w : Int64) : y1 w = lkp y1t w := rfl
theorem y1_L : ∀ p ∈ y1t, uL p.1 ∈ LT := by decide +kernel
theorem y1_in {w : Int64} (h : ¬ y1 w < 0) : uL w ∈ LT := by
  obtain ⟨p, h1, h2⟩ := lkp_in y1t w h
  rw [h2]
  exact y1_L p h1
def y2t : List (Int64 × Int32) := [(5919827, 673), (1398096458, 34), (4411209, 35), (20041, 36), (5526863, 37), (1145393738, 38), (5262666, 8231), (4870986, 8359), (5656394, 8487), (1448037962, 8615), (19530, 8743), (17738, 8871), (18250, 8999), (4540234, 9127), (4542026, 9255), (4541514, 9383), (5591365, 100), (1195987535, 101), (5132099, 102), (4476485, 103)]
theorem y2_t (w : Int64) : y2 w = lkp y2t w := rfl
theorem y2_L : ∀ p ∈ y2t, uL p.1 ∈ LT := by decide +kernel
theorem y2_in {w : Int64} (h : ¬ y2 w < 0) : uL w ∈ LT := by
  obtain ⟨p, h1, h2⟩ := lkp_in y2t w h
  rw [h2]
  exact y2_L p h1
def y4t : List (Int64 × Int32) := [(78, 0), (90, 1), (80, 2), (20046, 3), (23118, 4), (20558, 5)]
theorem y4_t (w : Int64) : y4 w = lkp y4t w := rfl
theorem y4_L : ∀ p ∈ y4t, uL p.1 ∈ ([78, 90, 80, 20046, 23118, 20558] : List Nat) := by decide +kernel
theorem y4_in {w : Int64} (h : ¬ y4 w < 0) : uL w ∈ [78, 90, 80, 20046, 23118, 20558] := by
  obtain ⟨p, h1, h2⟩ := lkp_in y4t w h
  rw [h2]
  exact y4_L p h1
theorem bLD : ∀ b ∈ rgB, 17484 + 65536 * b ∈ LT ∧ 17484 + 65536 * b + 16777216 * 78 ∈ LT ∧ 21587 + 65536 * b ∈ LT ∧ 5262659 + 16777216 * b ∈ LT ∧ 4410953 + 16777216 * b ∈ LT ∧ 4408644 + 16777216 * b ∈ LT ∧ 5525061 + 16777216 * b ∈ LT ∧ 5131845 + 16777216 * b ∈ LT ∧ ∀ y ∈ [78, 90, 80, 20046, 23118, 20558], 74 + 256 * b + 65536 * y ∈ LT := by decide +kernel
theorem uByte {w : Int64} (hx : uL w < 9223372036854775808) {k : Int64} {n : Nat} (hk : (k.toBitVec.smod 64).toNat = n) : uN ((w >>> k) &&& 255).toInt32 = uL w / 2 ^ n % 256 := by
  rw [uL_32, uL_and, uL_shr hx hk, show uL (255 : Int64) = 2 ^ 8 - 1 from rfl, Nat.and_two_pow_sub_one_eq_mod]
  have : uL w / 2 ^ n % 2 ^ 8 < 256 := Nat.mod_lt _ (by omega)
  omega
theorem uLow {w m : Int64} {n : Nat} (hm : uL m = 2 ^ n - 1) (hn : n ≤ 31) : uN (w &&& m).toInt32 = uL w % 2 ^ n := by
  rw [uL_32, uL_and, hm, Nat.and_two_pow_sub_one_eq_mod]
  have h1 : uL w % 2 ^ n < 2 ^ n := Nat.mod_lt _ (Nat.two_pow_pos n)
  have h2 : 2 ^ n ≤ 2 ^ 31 := Nat.pow_le_pow_right (by omega) hn
  omega
theorem yOp_in {w : Int64} {ln last : Int32} (hx : uL w < 9223372036854775808) (h3 : ln = 3 → uL w < 16777216) (h4 : ln = 4 → uL w < 4294967296 ∧ uL w / 16777216 = uN last) (h : ¬ yOp w ln last < 0) : uL w ∈ LT := by
  have w2 : uN (yW2 w) = uL w % 65536 := uLow (n := 16) rfl (by omega)
  have w3 : uN (yW3 w) = uL w % 16777216 := uLow (n := 24) rfl (by omega)
  have b1 := uByte hx (k := ((Int8.ofInt 8).toInt32).toInt64 &&& 63) (n := 8) (by decide)
  have b2 := uByte hx (k := ((Int8.ofInt 16).toInt32).toInt64 &&& 63) (n := 16) (by decide)
  have b3 := uByte hx (k := ((Int8.ofInt 24).toInt32).toInt64 &&& 63) (n := 24) (by decide)
  unfold yOp at h
  split at h
  · rename_i k
    unfold yN at k
    split at k
    · exact y2_in k
    · rename_i k2
      exact y1_in k2
  · unfold yO1 at h
    split at h
    · rename_i k
      have r := yLt_in k.2.1
      rw [b2] at r
      have e2 : uL w % 65536 = 17484 := by rw [← w2, k.1]; rfl
      rcases k.2.2 with l | l
      · have := h3 l
        have e : 17484 + 65536 * (uL w / 2 ^ 16 % 256) = uL w := by omega
        rw [← e]
        exact (bLD _ r).1
      · have := h4 l.1
        have e8 : uN last = 78 := by rw [l.2]; rfl
        have e : 17484 + 65536 * (uL w / 2 ^ 16 % 256) + 16777216 * 78 = uL w := by omega
        rw [← e]
        exact (bLD _ r).2.1
    · unfold yO2 at h
      split at h
      · rename_i k
        have r := yLt_in k.2.1
        rw [b2] at r
        have e2 : uL w % 65536 = 21587 := by rw [← w2, k.1]; rfl
        have := h3 k.2.2
        have e : 21587 + 65536 * (uL w / 2 ^ 16 % 256) = uL w := by omega
        rw [← e]
        exact (bLD _ r).2.2.1
      · unfold yO3 at h
        split at h
        · rename_i k
          have r := yLt_in k.2.1
          rw [b1] at r
          have e1 : uL w % 256 = 74 := by
            have := congrArg uL k.1
            rw [uL_and, show uL (255 : Int64) = 2 ^ 8 - 1 from rfl, Nat.and_two_pow_sub_one_eq_mod] at this
            exact this
          have y := y4_in k.2.2
          rw [uL_shr hx (n := 16) (by decide)] at y
          have e : 74 + 256 * (uL w / 2 ^ 8 % 256) + 65536 * (uL w / 2 ^ 16) = uL w := by omega
          rw [← e]
          exact (bLD _ r).2.2.2.2.2.2.2.2 _ y
        · unfold yO4 at h
          split at h
          · exact absurd (by decide) h
          · rename_i k
            have k1 : ln = 4 := Decidable.byContradiction fun q => k (.inl q)
            have k2 : ¬ yB3 w < 0 := fun q => k (.inr q)
            have r := yLt_in k2
            rw [b3] at r
            have := h4 k1
            split at h
            · rename_i k5
              unfold yO5 at k5
              split at k5
              · rename_i q
                have e2 : uL w % 16777216 = 4410953 := by rw [← w3, q]; rfl
                have e : 4410953 + 16777216 * (uL w / 2 ^ 24 % 256) = uL w := by omega
                rw [← e]
                exact (bLD _ r).2.2.2.2.1
              · split at k5
                · rename_i q
                  have e2 : uL w % 16777216 = 4408644 := by rw [← w3, q]; rfl
                  have e : 4408644 + 16777216 * (uL w / 2 ^ 24 % 256) = uL w := by omega
                  rw [← e]
                  exact (bLD _ r).2.2.2.2.2.1
                · split at k5
                  · rename_i q
                    have e2 : uL w % 16777216 = 5525061 := by rw [← w3, q]; rfl
                    have e : 5525061 + 16777216 * (uL w / 2 ^ 24 % 256) = uL w := by omega
                    rw [← e]
                    exact (bLD _ r).2.2.2.2.2.2.1
                  · split at k5
                    · rename_i q
                      have e2 : uL w % 16777216 = 5131845 := by rw [← w3, q]; rfl
                      have e : 5131845 + 16777216 * (uL w / 2 ^ 24 % 256) = uL w := by omega
                      rw [← e]
                      exact (bLD _ r).2.2.2.2.2.2.2.1
                    · exact absurd (by decide) k5
            · split at h
              · rename_i q
                have e2 : uL w % 16777216 = 5262659 := by rw [← w3, q]; rfl
                have e : 5262659 + 16777216 * (uL w / 2 ^ 24 % 256) = uL w := by omega
                rw [← e]
                exact (bLD _ r).2.2.2.1
              · exact absurd (by decide) h
theorem yOp_0 (ln last : Int32) : yOp 0 ln last < 0 := by
  have e1 : yN 0 = -1 := by decide
  have e2 : ¬ yW2 0 = 17484 := by decide
  have e3 : ¬ yW2 0 = 21587 := by decide
  have e4 : ¬ (0 : Int64) &&& 255 = 74 := by decide
  have e5 : yB3 0 < 0 := by decide
  unfold yOp
  rw [e1, if_neg (by decide)]
  unfold yO1
  rw [if_neg (fun k => e2 k.1)]
  unfold yO2
  rw [if_neg (fun k => e3 k.1)]
  unfold yO3
  rw [if_neg (fun k => e4 k.1)]
  unfold yO4
  rw [if_pos (.inr e5)]
  decide
