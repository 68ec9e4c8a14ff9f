/-! OPERATIONS: the names that the class knows -/
def LT : List Nat := [5263182, 4473921, 4347219, 5002573, 5654852, 5068110, 1380010051, 5524552, 4279379, 4280915, 1480674387, 1480675923, 4410451, 4411987, 1163284301, 4277324, 3228748, 3294284, 3359820, 3425356, 3490892, 3556428, 5784652, 1312900172, 1311851596, 1311917132, 1311982668, 1312048204, 1312113740, 1312179276, 1314407500, 4281427, 3232851, 3298387, 3363923, 3429459, 3494995, 3560531, 5788755, 4871251, 5919827, 1398096458, 4411209, 20041, 5526863, 1145393738, 5262666, 4870986, 5656394, 1448037962, 19530, 17738, 18250, 4540234, 4542026, 4541514, 5128522, 5124426, 5124682, 5124938, 5125194, 5125450, 5125706, 5134410, 5914954, 5910858, 5911114, 5911370, 5911626, 5911882, 5912138, 5920842, 5259594, 5255498, 5255754, 5256010, 5256266, 5256522, 5256778, 5265482, 1313751370, 1313747274, 1313747530, 1313747786, 1313748042, 1313748298, 1313748554, 1313757258, 1515077962, 1515073866, 1515074122, 1515074378, 1515074634, 1515074890, 1515075146, 1515083850, 1347305802, 1347301706, 1347301962, 1347302218, 1347302474, 1347302730, 1347302986, 1347311690, 1094929993, 826494537, 843271753, 860048969, 876826185, 893603401, 910380617, 1480805961, 1094927684, 826492228, 843269444, 860046660, 876823876, 893601092, 910378308, 1480803652, 1096044101, 827608645, 844385861, 861163077, 877940293, 894717509, 911494725, 1481920069, 1095650885, 827215429, 843992645, 860769861, 877547077, 894324293, 911101509, 1481526853, 1095781699, 827346243, 844123459, 860900675, 877677891, 894455107, 911232323, 1481657667, 5591365, 1195987535, 5132099, 4476485]
/-- a pattern against a number -/
def mtc : List Int32 → Nat → Int32 → Option Int32
  | [], x, g => if x = 0 ∧ ¬ g < 0 then some g else none
  | c :: r, x, g => if c = 63 then mtc r (x / 256) (zRx (Int32.ofNat (x % 256))) else if x % 256 = uN c then mtc r (x / 256) g else none
def rgs : List (Nat × Int32) := [(65, 0), (49, 1), (50, 2), (51, 3), (52, 4), (53, 5), (54, 6), (88, 7)]
def exs : List Int32 → Int32 → List (Nat × Int32)
  | [], g => [(0, g)]
  | c :: r, g => if c = 63 then rgs.flatMap (fun b => (exs r b.2).map (fun y => (y.1 * 256 + b.1, y.2))) else (exs r g).map (fun y => (y.1 * 256 + uN c, y.2))
def one63 : List Int32 → Bool
  | [] => true
  | c :: r => if c = 63 then !r.contains 63 else one63 r
theorem mtc_neg : ∀ (r : List Int32) (x : Nat) (g : Int32), g < 0 → r.contains 63 = false → mtc r x g = none
  | [], x, g, h, _ => if_neg (fun k => k.2 h)
  | c :: r, x, g, h, hr => by
    have h1 : ¬ c = 63 := fun e => by rw [e] at hr; simp at hr
    have h2 : r.contains 63 = false := by
      rw [List.contains_cons] at hr
      exact (Bool.or_eq_false_iff.mp hr).2
    unfold mtc
    rw [if_neg h1]
    split
    · exact mtc_neg r _ g h h2
    · rfl
theorem zRx_rg : ∀ b : Fin 256, (b.val, zRx (Int32.ofNat b.val)) ∈ rgs ∨ zRx (Int32.ofNat b.val) < 0 := by decide +kernel
theorem mtc_ex : ∀ (r : List Int32) (x : Nat) (g h : Int32), one63 r = true → mtc r x g = some h → (x, h) ∈ exs r g
  | [], x, g, h, _, hm => by
    unfold mtc at hm
    split at hm
    · rename_i k
      cases hm
      rw [k.1]
      exact List.mem_cons_self
    · cases hm
  | c :: r, x, g, h, ho, hm => by
    unfold mtc at hm
    unfold exs
    unfold one63 at ho
    have hx : x / 256 * 256 + x % 256 = x := Nat.div_add_mod' x 256
    split at hm
    · rename_i k
      rw [if_pos k] at ho ⊢
      have hno : r.contains 63 = false := by simpa using ho
      rcases zRx_rg ⟨x % 256, Nat.mod_lt _ (by omega)⟩ with a | a
      · rw [List.mem_flatMap]
        refine ⟨_, a, ?_⟩
        rw [List.mem_map]
        refine ⟨(x / 256, h), mtc_ex r _ _ h ?_ hm, ?_⟩
        · clear hm a ho hx
          revert hno
          induction r with
          | nil => intro _; rfl
          | cons d s ih =>
            intro hno
            rw [List.contains_cons] at hno
            have h2 := (Bool.or_eq_false_iff.mp hno)
            have h1 : ¬ d = 63 := fun e => by rw [e] at h2; simp at h2
            unfold one63
            rw [if_neg h1]
            exact ih h2.2
        · show (x / 256 * 256 + x % 256, h) = (x, h)
          rw [hx]
      · rw [mtc_neg r _ _ a hno] at hm
        cases hm
    · rename_i k
      rw [if_neg k] at ho ⊢
      split at hm
      · rename_i k2
        rw [List.mem_map]
        refine ⟨(x / 256, h), mtc_ex r _ _ h ho hm, ?_⟩
        show (x / 256 * 256 + uN c, h) = (x, h)
        rw [← k2, hx]
      · cases hm
theorem exs_LT : ∀ k : Fin 50, one63 (nBy k.val) = true ∧ ∀ y ∈ exs (nBy k.val) 0, y.1 ∈ LT := by decide +kernel
theorem nBy_b : ∀ k : Fin 50, (nBy k.val).length ≤ 4 ∧ ∀ i : Fin 5, ((((nBy k.val).getD i.val 0 &&& 255).toUInt32 % 65536).toInt32 = (nBy k.val).getD i.val 0) := by decide +kernel
theorem key8 : ∀ k : Fin 8, (((((Int8.ofInt 8).toInt32 * Int32.ofNat k.val).toInt64 &&& 63) : Int64).toBitVec.smod 64).toNat = 8 * k.val := by decide +kernel
theorem c16 {c : Int32} (h : uN c < 65536) : (c.toUInt32 % 65536).toInt32 = c := by
  apply Int32.toBitVec_inj.1
  apply BitVec.eq_of_toNat_eq
  show ((c.toUInt32 % 65536).toBitVec).toNat = uN c
  rw [UInt32.toBitVec_mod, BitVec.toNat_umod]
  show uN c % 65536 = uN c
  omega
theorem zByt_n {nm : Int64} {i : Nat} (hn : uL nm < 9223372036854775808) (hi : i < 8) : zByt nm i = Int32.ofNat (uL nm / 256 ^ i % 256) := by
  have e : uL ((nm >>> (((Int8.ofInt 8).toInt32 * Int32.ofNat i).toInt64 &&& 63)) &&& 255) = uL nm / 256 ^ i % 256 := by
    rw [uL_and, uL_shr hn (key8 ⟨i, hi⟩), show uL (255 : Int64) = 2 ^ 8 - 1 from rfl, Nat.and_two_pow_sub_one_eq_mod]
    show uL nm / 2 ^ (8 * i) % 2 ^ 8 = _
    rw [Nat.pow_mul]
  have hl : uL nm / 256 ^ i % 256 < 256 := Nat.mod_lt _ (by omega)
  unfold zByt
  have e2 : ((nm >>> (((Int8.ofInt 8).toInt32 * Int32.ofNat i).toInt64 &&& 63)) &&& 255).toInt32 = Int32.ofNat (uL nm / 256 ^ i % 256) := by
    apply uN_inj
    rw [uL_32, e, uN_lit]
  rw [e2, c16 (by rw [uN_lit]; omega)]
theorem uN_of {n : Nat} (h : n < 4294967296) : uN (Int32.ofNat n) = n := by rw [uN_lit, Nat.mod_eq_of_lt h]
theorem zSb_k {k : Nat} (hk : k < 50) : zSb (zPs (k + 2)) = nBy k := by
  have e : nSix k = 55 + 2 * k := if_neg (by omega)
  unfold zSb zKs
  show nBy (if nSix k = 53 then 50 else (nSix k - 55) / 2) = _
  rw [e, if_neg (by omega)]
  congr 1
  omega
theorem opL_mtc {k : Nat} (hk : k < 50) {nm : Int64} (hn : uL nm < 9223372036854775808) : ∀ (j i : Nat) (g : Int32), i + j = (nBy k).length → (match opL (zPs (k + 2)) nm j i g with
    | none => none
    | some g => if nm >>> (((Int8.ofInt 8).toInt32 * Int32.ofNat (nBy k).length).toInt64 &&& 63) = 0 ∧ ¬ g < 0 then some g else none) = mtc ((nBy k).drop i) (uL nm / 256 ^ i) g
  | 0, i, g, h => by
    have hb := (nBy_b ⟨k, hk⟩).1
    have hb' : (nBy k).length ≤ 4 := hb
    have hi : i = (nBy k).length := by omega
    rw [hi, List.drop_length]
    show (if _ then some g else none) = (if _ then some g else none)
    have e : uL (nm >>> (((Int8.ofInt 8).toInt32 * Int32.ofNat (nBy k).length).toInt64 &&& 63)) = uL nm / 256 ^ (nBy k).length := by
      rw [uL_shr hn (key8 ⟨(nBy k).length, by omega⟩)]
      show uL nm / 2 ^ (8 * (nBy k).length) = _
      rw [Nat.pow_mul]
    have e2 : (nm >>> (((Int8.ofInt 8).toInt32 * Int32.ofNat (nBy k).length).toInt64 &&& 63) = 0 ∧ ¬ g < 0) ↔ (uL nm / 256 ^ (nBy k).length = 0 ∧ ¬ g < 0) := by
      rw [← e]
      constructor
      · intro q
        exact ⟨by rw [q.1]; rfl, q.2⟩
      · intro q
        exact ⟨uL_inj q.1, q.2⟩
    by_cases q : uL nm / 256 ^ (nBy k).length = 0 ∧ ¬ g < 0
    · rw [if_pos (e2.2 q), if_pos q]
    · rw [if_neg (fun w => q (e2.1 w)), if_neg q]
  | j + 1, i, g, h => by
    have hb := nBy_b ⟨k, hk⟩
    have hb' : (nBy k).length ≤ 4 := hb.1
    have hlt : i < (nBy k).length := by omega
    have hg : (nBy k).getD i 0 = (nBy k)[i] := by simp [List.getD, hlt]
    have hc : zCh (zPs (k + 2)) (Int32.ofNat i) = (nBy k)[i] := by
      have e1 := zSb_k hk
      unfold zCh
      rw [e1]
      have e2 : (Int32.ofNat i).toNatClampNeg = i := by
        show (Int32.ofNat i).toInt.toNat = i
        rw [zOfI (by omega)]
        omega
      rw [e2]
      exact (hb.2 ⟨i, by omega⟩).trans hg
    have hd : (nBy k).drop i = (nBy k)[i] :: (nBy k).drop (i + 1) := List.drop_eq_getElem_cons hlt
    have hx : uL nm / 256 ^ i / 256 = uL nm / 256 ^ (i + 1) := by rw [Nat.div_div_eq_div_mul, Nat.pow_succ]
    have ih := fun g => opL_mtc hk hn j (i + 1) g (by omega)
    rw [hd]
    unfold opL mtc
    rw [hc, hx, zByt_n hn (by omega)]
    by_cases q : (nBy k)[i] = 63
    · rw [if_pos q, if_pos q]
      exact ih _
    · rw [if_neg q, if_neg q]
      have hl : uL nm / 256 ^ i % 256 < 256 := Nat.mod_lt _ (by omega)
      by_cases q2 : uL nm / 256 ^ i % 256 = uN (nBy k)[i]
      · rw [if_pos q2, if_pos]
        · exact ih _
        · apply uN_inj
          rw [uN_of (by omega)]
          exact q2
      · rw [if_neg q2, if_neg]
        intro w
        apply q2
        rw [← w, uN_of (by omega)]
theorem opC_LT {k : Nat} (hk : k < 50) {nm : Int64} (hn : uL nm < 9223372036854775808) (h : ¬ opC (k + 2) nm = -1) : uL nm ∈ LT := by
  have e1 := zSb_k hk
  have hm := opL_mtc hk hn (nBy k).length 0 0 (by omega)
  have he := exs_LT ⟨k, hk⟩
  unfold opC at h
  rw [e1] at h
  cases hl : opL (zPs (k + 2)) nm (nBy k).length 0 0 with
  | none =>
    rw [hl] at h
    exact absurd rfl h
  | some g =>
    rw [hl] at h hm
    dsimp only at h hm
    by_cases q : nm >>> (((Int8.ofInt 8).toInt32 * Int32.ofNat (nBy k).length).toInt64 &&& 63) = 0 ∧ ¬ g < 0
    · rw [if_pos q] at hm
      have h3 := mtc_ex _ _ _ g (by rw [List.drop_zero]; exact he.1) hm.symm
      rw [List.drop_zero, Nat.pow_zero, Nat.div_one] at h3
      exact he.2 _ h3
    · rw [if_neg q] at h
      exact absurd rfl h
theorem opF_LT {nm : Int64} (hn : uL nm < 9223372036854775808) {r : Nat × Int32} : ∀ (j i : Nat), i + j = 50 → opF nm j i = some r → uL nm ∈ LT
  | 0, _, _, h => by cases h
  | j + 1, i, hi, h => by
    unfold opF at h
    by_cases q : opC (i + 2) nm = -1
    · rw [if_pos q] at h
      exact opF_LT hn j (i + 1) (by omega) h
    · exact opC_LT (by omega) hn q
