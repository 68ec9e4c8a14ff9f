/-! WORDS: what is written is a word -/
theorem wOk_of {w : Int32} (h : uN w < 2147483648) : wOk w := by
  show 0 ≤ w.toInt
  rw [uN_int, if_pos h]
  omega
theorem mkw {x b : Int32} (hx : uN x < 1073741824) (hb : b = 0 ∨ b = 1) : wOk (2 * x + b) ∧ uN (2 * x + b) = 2 * uN x + uN b := by
  have e : uN (2 * x + b) = 2 * uN x + uN b := by
    rw [uN_add, uN_mul, show uN 2 = 2 from rfl]
    rcases hb with rfl | rfl
    · rw [show uN 0 = 0 from rfl]
      omega
    · rw [show uN 1 = 1 from rfl]
      omega
  refine ⟨wOk_of ?_, e⟩
  rw [e]
  rcases hb with rfl | rfl
  · rw [show uN 0 = 0 from rfl]
    omega
  · rw [show uN 1 = 1 from rfl]
    omega
theorem b01 (p : Prop) [Decidable p] : (if p then (1 : Int32) else 0) = 0 ∨ (if p then (1 : Int32) else 0) = 1 := by
  by_cases h : p
  · exact .inr (if_pos h)
  · exact .inl (if_neg h)
theorem b10 (p : Prop) [Decidable p] : (if p then (0 : Int32) else 1) = 0 ∨ (if p then (0 : Int32) else 1) = 1 := by
  by_cases h : p
  · exact .inl (if_pos h)
  · exact .inr (if_neg h)
theorem b_le {b : Int32} (hb : b = 0 ∨ b = 1) : uN b ≤ 1 := by
  rcases hb with rfl | rfl <;> decide
theorem shr_le {x : Int32} (s : Int32) (hx : uN x < 2147483648) : uN (x >>> (s &&& 31)) ≤ uN x := by
  obtain ⟨n, hn⟩ := k31 s
  have key : ∀ n : Fin 32, ((Int32.ofNat n.val).toBitVec.smod 32).toNat = n.val := by decide
  rw [hn, uN_shr hx (key n)]
  exact Nat.div_le_self _ _
theorem part_w {w : Int32} (hw : wOk w) (f : Int32) : wOk (yPart w f) := by
  unfold yPart
  have a := mag_lt hw
  refine (mkw ?_ (b01 _)).1
  rw [uN_and]
  have h1 := @Nat.and_le_left (uN (zMag w >>> (yPsh f &&& 31))) (uN (yMk f))
  have h2 := shr_le (yPsh f) (x := zMag w) (by omega)
  omega
theorem xor1_w {w : Int32} (hw : wOk w) : wOk (w ^^^ 1) := by
  apply wOk_of
  unfold uN
  rw [Int32.toBitVec_xor, BitVec.toNat_xor]
  exact Nat.xor_lt_two_pow (n := 31) (wOk_lt hw) (by decide)
/-- registers -/
def gOk (R : Nat → Int32) : Prop := ∀ j, j < 9 → wOk (R j) ∧ (1 ≤ j → j ≤ 6 → uN (R j) < 8192)
theorem gOk_upd {R : Nat → Int32} (h : gOk R) (i : Nat) {w : Int32} (hw : wOk w) (hi : 1 ≤ i → i ≤ 6 → uN w < 8192) : gOk (upd R i w) := by
  intro j hj
  rw [upd_eq]
  by_cases q : j = i
  · rw [if_pos q]
    exact ⟨hw, fun a b => hi (by omega) (by omega)⟩
  · rw [if_neg q]
    exact h j hj
theorem en_w {w : Int32} (r : Int32) (hw : wOk w) : wOk (yEnW r w) ∧ (¬ (r = 0 ∨ r = 7) → uN (yEnW r w) < 8192) := by
  unfold yEnW
  by_cases h : r = 0 ∨ r = 7
  · rw [if_pos h]
    exact ⟨hw, fun q => absurd h q⟩
  · rw [if_neg h]
    have e := rm32 (l := 4096) (zMag_nn w) (by decide)
    rw [show (4096 : Int32).toInt = 4096 from rfl] at e
    have hn := uN_nn (x := zMag w - zMag w / 4096 * 4096) (by rw [e]; omega)
    have hb := b_le (b01 (w &&& 1 = 1))
    have hx : uN (zMag w - zMag w / 4096 * 4096) < 4096 := by
      have := hn.2
      rw [e] at this
      omega
    obtain ⟨a, b⟩ := mkw (x := zMag w - zMag w / 4096 * 4096) (by omega) (b01 (w &&& 1 = 1))
    exact ⟨a, fun _ => by rw [b]; omega⟩
theorem ix16 {r : Int32} {j : Nat} (hr : r.toNatClampNeg = j) (h1 : 1 ≤ j) (h6 : j ≤ 6) : ¬ (r = 0 ∨ r = 7) := by
  rintro (rfl | rfl)
  · have : (0 : Int32).toNatClampNeg = 0 := by decide
    omega
  · have : (7 : Int32).toNatClampNeg = 7 := by decide
    omega
theorem en_r {R : Nat → Int32} (h : gOk R) (r : Int32) {w : Int32} (hw : wOk w) : gOk (upd R r.toNatClampNeg (yEnW r w)) :=
  gOk_upd h _ (en_w r hw).1 (fun a b => (en_w r hw).2 (ix16 rfl a b))
theorem lN32 {x : Int64} {n : Nat} (h : uL x < n) (hn : n ≤ 4294967296) : uN x.toInt32 = uL x := by
  rw [uL_32]
  exact Nat.mod_eq_of_lt (by omega)
theorem ad_r {R : Nat → Int32} (h : gOk R) (r a : Int32) (hr : r.toNatClampNeg < 9) : gOk (upd R r.toNatClampNeg (wAy r (R r.toNatClampNeg) a)) := by
  have hx : uN (xAy r (R r.toNatClampNeg) a) < 1073741824 ∧ (¬ (r = 0 ∨ r = 7) → uN (xAy r (R r.toNatClampNeg) a) < 4096) := by
    have hg := gAd_nn (R r.toNatClampNeg) a
    unfold xAy lAd
    by_cases q : isAX r
    · rw [if_pos q]
      have e := rm64 (l := (1073741824 : Int32).toInt64) hg (by decide)
      rw [show ((1073741824 : Int32).toInt64).toInt = 1073741824 from rfl] at e
      obtain ⟨e1, e2⟩ := uL_nn (x := gAd (sAd (R r.toNatClampNeg) a) - gAd (sAd (R r.toNatClampNeg) a) / (1073741824 : Int32).toInt64 * (1073741824 : Int32).toInt64) (by rw [e]; omega)
      rw [e] at e2
      refine ⟨?_, fun z => absurd q z⟩
      rw [lN32 (n := 1073741824) (by omega) (by decide)]
      omega
    · rw [if_neg q]
      have e := rm64 (l := (4096 : Int32).toInt64) hg (by decide)
      rw [show ((4096 : Int32).toInt64).toInt = 4096 from rfl] at e
      obtain ⟨e1, e2⟩ := uL_nn (x := gAd (sAd (R r.toNatClampNeg) a) - gAd (sAd (R r.toNatClampNeg) a) / (4096 : Int32).toInt64 * (4096 : Int32).toInt64) (by rw [e]; omega)
      rw [e] at e2
      rw [lN32 (n := 4096) (by omega) (by decide)]
      exact ⟨by omega, fun _ => by omega⟩
  unfold wAy
  obtain ⟨m1, m2⟩ := mkw hx.1 (b01 (if xAy r (R r.toNatClampNeg) a = 0 then (R r.toNatClampNeg) &&& 1 = 1 else (sAd (R r.toNatClampNeg) a).toInt < 0))
  have hb := b_le (b01 (if xAy r (R r.toNatClampNeg) a = 0 then (R r.toNatClampNeg) &&& 1 = 1 else (sAd (R r.toNatClampNeg) a).toInt < 0))
  refine gOk_upd h _ m1 (fun a1 b1 => ?_)
  have := hx.2 (ix16 rfl a1 b1)
  rw [m2]
  omega
theorem uL_mul (x y : Int64) : uL (x * y) = uL x * uL y % 18446744073709551616 := by
  unfold uL
  rw [Int64.toBitVec_mul, BitVec.toNat_mul]
theorem hi30 {t : Int64} (h : uL t < 1152921504606846976) : uN (t >>> ((Int8.ofInt 30).toInt32.toInt64 &&& 63)).toInt32 < 1073741824 := by
  have e : uL (t >>> ((Int8.ofInt 30).toInt32.toInt64 &&& 63)) = uL t / 1073741824 := uL_shr (n := 30) (by omega) (by decide)
  rw [lN32 (n := 1073741824) (by rw [e]; omega) (by decide), e]
  omega
theorem lo30 (t : Int64) : uN (t &&& 1073741823).toInt32 < 1073741824 := by
  have e := uL_mask30 t
  rw [lN32 (n := 1073741824) (by rw [e]; omega) (by decide), e]
  omega
theorem ax_r {R : Nat → Int32} (h : gOk R) {x y b c : Int32} (hx : uN x < 1073741824) (hy : uN y < 1073741824) (hb : b = 0 ∨ b = 1) (hc : c = 0 ∨ c = 1) : gOk (upd (upd R 0 (2 * x + b)) 7 (2 * y + c)) :=
  gOk_upd (gOk_upd h 0 (mkw hx hb).1 (fun a _ => absurd a (by decide))) 7 (mkw hy hc).1 (fun _ b => absurd b (by decide))
theorem mu_r {R : Nat → Int32} (h : gOk R) {v : Int32} (hv : wOk v) : gOk (qMu R v) := by
  have a := mag_lt (h 0 (by decide)).1
  have b := mag_lt hv
  have e : uL ((zMag (R 0)).toInt64 * (zMag v).toInt64) < 1152921504606846976 := by
    rw [uL_mul, uL_of (by omega), uL_of (by omega)]
    have : uN (zMag (R 0)) * uN (zMag v) ≤ 1073741823 * 1073741823 := Nat.mul_le_mul (by omega) (by omega)
    have := Nat.mod_le (uN (zMag (R 0)) * uN (zMag v)) 18446744073709551616
    omega
  unfold qMu
  exact ax_r h (hi30 e) (lo30 _) (b10 _) (b10 _)
theorem dv_r {R : Nat → Int32} (h : gOk R) {v : Int32} (hv : wOk v) (hl : zMag (R 0) < zMag v) : gOk (qDv R v) := by
  have a := mag_lt (h 0 (by decide)).1
  have b := mag_lt hv
  have c := mag_lt (h 7 (by decide)).1
  have ht := ten_uL (h 0 (by decide)).1 (h 7 (by decide)).1
  have hlt := ten_lt (h 0 (by decide)).1 (h 7 (by decide)).1
  have hl := Int32.lt_iff_toInt_lt.mp hl
  rw [(uN_nn (zMag_nn (R 0))).2, (uN_nn (zMag_nn v)).2] at hl
  have et : (zTen R).toInt = uL (zTen R) := uL_of_lt (by omega)
  have ev : (zMag v).toInt64.toInt = uN (zMag v) := by rw [Int32.toInt_toInt64, (uN_nn (zMag_nn v)).2]
  have e1 := dv64 (x := zTen R) (l := (zMag v).toInt64) (by omega) (by omega)
  have e2 := rm64 (x := zTen R) (l := (zMag v).toInt64) (by omega) (by omega)
  rw [et, ev] at e1 e2
  have q0 : (uL (zTen R) : Int) / (uN (zMag v) : Int) = ((uL (zTen R) / uN (zMag v) : Nat) : Int) := (Int.natCast_ediv _ _).symm
  have r0 : (uL (zTen R) : Int) % (uN (zMag v) : Int) = ((uL (zTen R) % uN (zMag v) : Nat) : Int) := (Int.natCast_emod _ _).symm
  rw [q0] at e1
  rw [r0] at e2
  have q1 : uL (zTen R) / uN (zMag v) < 1073741824 := Nat.div_lt_of_lt_mul (by
    have : (uN (zMag (R 0)) + 1) * 1073741824 ≤ uN (zMag v) * 1073741824 := Nat.mul_le_mul_right _ (by omega)
    omega)
  have r1 : uL (zTen R) % uN (zMag v) < uN (zMag v) := Nat.mod_lt _ (by omega)
  have n1 : 0 ≤ ((uL (zTen R) / uN (zMag v) : Nat) : Int) := Int.natCast_nonneg _
  have u1 := (uL_nn (x := zTen R / (zMag v).toInt64) (by omega)).2
  have u2 := (uL_nn (x := zTen R - zTen R / (zMag v).toInt64 * (zMag v).toInt64) (by omega)).2
  unfold qDv
  refine ax_r h ?_ ?_ (b10 _) (b01 _)
  · rw [lN32 (n := 1073741824) (by omega) (by decide)]
    omega
  · rw [lN32 (n := 1073741824) (by omega) (by decide)]
    omega
theorem smr {R : Nat → Int32} (h : gOk R) {r : Nat} (hr : r = 0 ∨ r = 7) {x : Int32} (hx : uN x < 1073741824) : gOk (qSM R r x) := by
  unfold qSM
  exact gOk_upd h r (mkw hx (b01 _)).1 (fun a b => by omega)
theorem sbr {R : Nat → Int32} (h : gOk R) {t : Int64} (ht : uL t < 1152921504606846976) : gOk (qSB R t) := by
  unfold qSB
  exact smr (smr h (.inl rfl) (hi30 ht)) (.inr rfl) (lo30 t)
theorem num_r {R : Nat → Int32} (h : gOk R) : gOk (qSM R 0 (eN R 10 - eN R 10 / 1073741824 * 1073741824).toInt32) ∧ (dN (zTen R) 10 &&& 1073741823).toInt32 = (eN R 10 - eN R 10 / 1073741824 * 1073741824).toInt32 := by
  obtain ⟨d1, d2, d3⟩ := dN_ok (h 0 (by decide)).1 (h 7 (by decide)).1 10 (Nat.le_refl _)
  have e := rem30 d2
  refine ⟨?_, by rw [d1, e]⟩
  rw [← e]
  exact smr h (.inl rfl) (lo30 _)
theorem eQ_nn {w : Int32} (h : 0 ≤ w.toInt) (k : Nat) : 0 ≤ (eQ w.toInt64 k).toInt := by
  obtain ⟨a, b⟩ := dQ_ok h k
  rw [b, Int32.toInt_toInt64]
  exact a
theorem eC_lt {w : Int32} (h : 0 ≤ w.toInt) : ∀ k, k ≤ 10 → uL (eC w.toInt64 k) < 2 ^ (6 * k)
  | 0, _ => by
    show uL 0 < 1
    decide
  | k + 1, hk => by
    have ih := eC_lt h k (by omega)
    have hq := eQ_nn h k
    have e := rm64 (l := 10) hq (by decide)
    rw [show (10 : Int64).toInt = 10 from rfl] at e
    have e2 : (eQ w.toInt64 k - eQ w.toInt64 k / 10 * 10 + 30).toInt = (eQ w.toInt64 k).toInt % 10 + 30 := by
      rw [Int64.toInt_add, e, show (30 : Int64).toInt = 30 from rfl, bm64 (by omega) (by omega)]
    have u := (uL_nn (x := eQ w.toInt64 k - eQ w.toInt64 k / 10 * 10 + 30) (by omega)).2
    have key : ∀ n : Fin 10, (((6 * Int32.ofNat n.val).toInt64 &&& 63).toBitVec.smod 64).toNat = 6 * n.val := by decide +kernel
    unfold eC
    rw [uL_or, uL_shl (key ⟨k, by omega⟩)]
    have p1 : 2 ^ (6 * (k + 1)) = 64 * 2 ^ (6 * k) := by
      rw [show 6 * (k + 1) = 6 + 6 * k by omega, Nat.pow_add]
    have p2 : uL (eQ w.toInt64 k - eQ w.toInt64 k / 10 * 10 + 30) * 2 ^ (6 * k) < 2 ^ (6 * (k + 1)) := by
      rw [p1]
      exact Nat.mul_lt_mul_of_pos_right (by omega) (Nat.two_pow_pos _)
    have p3 := Nat.mod_le (uL (eQ w.toInt64 k - eQ w.toInt64 k / 10 * 10 + 30) * 2 ^ (6 * k)) 18446744073709551616
    exact Nat.or_lt_two_pow (Nat.lt_of_lt_of_le ih (Nat.pow_le_pow_right (by decide) (by omega))) (Nat.lt_of_le_of_lt p3 p2)
theorem chr_r {R : Nat → Int32} (h : gOk R) : gOk (qSB R (eC (zMag (R 0)).toInt64 10)) ∧ dC (zMag (R 0)) 10 = eC (zMag (R 0)).toInt64 10 := by
  have hn := zMag_nn (R 0)
  exact ⟨sbr h (eC_lt hn 10 (Nat.le_refl _)), dC_ok hn 10 (Nat.le_refl _)⟩
theorem gV_lt {w f m : Int32} (hw : wOk w) (hf : f = 0 ∨ f = 1) (hm : 0 ≤ m.toInt) : uN (gV w f m) < 1073741824 := by
  rcases hf with rfl | rfl
  · rw [← gV0 hw hm]
    exact lo30 _
  · have a := mag_lt hw
    unfold gV
    split
    · decide
    · rw [if_neg (by decide)]
      have := shr_le (6 * m) (x := zMag w) (by omega)
      omega
theorem shf_r {R : Nat → Int32} (h : gOk R) {f m : Int32} (f0 : ¬ f < 0) (hm : 0 ≤ m.toInt) : gOk (qShf R f m) := by
  unfold qShf
  by_cases q : f < 2
  · rw [if_pos q]
    refine smr h (.inl rfl) (gV_lt (h 0 (by decide)).1 ?_ hm)
    rw [Int32.lt_iff_toInt_lt] at f0 q
    rw [show (0 : Int32).toInt = 0 from rfl] at f0
    rw [show (2 : Int32).toInt = 2 from rfl] at q
    have : f.toInt = 0 ∨ f.toInt = 1 := by omega
    rcases this with e | e
    · exact .inl (Int32.toInt_inj.mp e)
    · exact .inr (Int32.toInt_inj.mp e)
  · rw [if_neg q]
    refine sbr h (gI_uL (ten_lt (h 0 (by decide)).1 (h 7 (by decide)).1) _ ?_).1
    obtain ⟨n, i1, i2⟩ := i10_b hm
    obtain ⟨j, j1, j2⟩ := iR_b hm
    by_cases q4 : f < 4
    · rw [i2 f q4]
      omega
    · rw [j2 f q4]
      omega
