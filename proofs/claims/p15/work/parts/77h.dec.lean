/-! ONE STEP on both sides: what is fetched -/
/-- the relation between steps: the next place is not asked for -/
def pQ (σ τ : zS) : Prop := pR9 σ (zI τ 25 7 (σ.1 7 9))
theorem ad18 {w : Int32} (hw : wOk w) : uN (zMag w >>> ((18 : Int32) &&& 31)) < 4096 ∧ zFo w 2 = (2 : Int32) * (zMag w >>> ((18 : Int32) &&& 31)) + (if w &&& 1 = 1 then (1 : Int32) else 0) := by
  have a := mag_lt hw
  have e : uN (zMag w >>> (18 &&& 31)) = uN (zMag w) / 262144 := uN_shr (n := 18) (by omega) (by decide)
  have hA : uN (zMag w >>> (18 &&& 31)) < 4096 := by
    rw [e]
    omega
  refine ⟨hA, ?_⟩
  rw [zFo_ok (by decide)]
  unfold yPart
  have e1 : yPsh 2 &&& 31 = 18 &&& 31 := by decide
  have e2 : yMk 2 = 4095 := by decide
  have e3 : (zMag w >>> ((18 : Int32) &&& 31)) &&& (4095 : Int32) = zMag w >>> ((18 : Int32) &&& 31) := by
    apply uN_inj
    rw [uN_and, show uN 4095 = 4095 from rfl]
    exact nAnd12 hA
  rw [e1, e2, e3]
  congr 1
  by_cases q : w &&& 1 = 1
  · rw [if_pos q, if_pos ⟨by decide, q⟩]
  · rw [if_neg q, if_neg (fun z => q z.2)]
theorem val2 {x : Int32} (hx : uN x < 1073741824) {p : Prop} [Decidable p] : zVal (2 * x + (if p then (1 : Int32) else 0)) = if p then -x else x := by
  have hm : zMag (2 * x + (if p then (1 : Int32) else 0)) = x := by
    obtain ⟨_, e⟩ := mkw hx (b01 p)
    apply uN_inj
    rw [uN_mag, e]
    have := b_le (b01 p)
    omega
  have hb : (2 * x + (if p then (1 : Int32) else 0)) &&& 1 = 1 ↔ p := by
    obtain ⟨_, e⟩ := mkw hx (b01 p)
    constructor
    · intro q
      have := uN_bit (2 * x + (if p then (1 : Int32) else 0))
      rw [q, e, show uN 1 = 1 from rfl] at this
      by_cases hp : p
      · exact hp
      · rw [if_neg hp, show uN 0 = 0 from rfl] at this
        omega
    · intro hp
      apply uN_inj
      rw [uN_bit, e, if_pos hp, show uN 1 = 1 from rfl]
      omega
  unfold zVal
  rw [hm]
  by_cases hp : p
  · rw [if_pos (hb.mpr hp), if_pos hp]
  · rw [if_neg (fun z => hp (hb.mp z)), if_neg hp]
theorem sm_i {x : Int32} {n : Nat} (h : uN x < n) (hn : n ≤ 1073741824) : x.toInt = uN x ∧ (-x).toInt = -(uN x : Int) := by
  have e : x.toInt = uN x := by
    rw [uN_int, if_pos (by omega)]
  refine ⟨e, ?_⟩
  rw [zNeg_int (by omega), e]
theorem dI_b (w : Int32) : 0 ≤ (dI w).toInt ∧ (dI w).toInt ≤ 63 := by
  have e : uN (dI w) < 64 := by
    unfold dI
    rw [n63]
    omega
  have := (sm_i (n := 64) e (by decide)).1
  omega
theorem n63_b (x : Int32) : ¬ (x &&& 63) < 0 ∧ ¬ 63 < (x &&& 63) := by
  have e : uN (x &&& 63) < 64 := by
    rw [n63]
    omega
  have := (sm_i (n := 64) e (by decide)).1
  rw [Int32.lt_iff_toInt_lt, Int32.lt_iff_toInt_lt, show (0 : Int32).toInt = 0 from rfl, show (63 : Int32).toInt = 63 from rfl]
  omega
theorem val_ix {x : Int32} (hx : uN x < 8192) : -4095 ≤ (zVal x).toInt ∧ (zVal x).toInt ≤ 4095 := by
  have hm : uN (zMag x) < 4096 := by
    rw [uN_mag]
    omega
  obtain ⟨a, b⟩ := sm_i (n := 4096) hm (by decide)
  unfold zVal
  split
  · rw [b]
    omega
  · rw [a]
    omega
theorem lt_i {a b : Int32} {x y : Int} (ha : a.toInt = x) (hb : b.toInt = y) : a < b ↔ x < y := by
  rw [Int32.lt_iff_toInt_lt, ha, hb]
/-- the address, on both sides -/
theorem adr_ok {R : Nat → Int32} {w : Int32} (hw : wOk w) (hR : gOk R) (h6 : ¬ 6 < dI w) : dM R w = eM R w ∧ (-8190 ≤ (eM R w).toInt ∧ (eM R w).toInt ≤ 8190) ∧ dW R w = 2 * (if eM R w < 0 then -(eM R w) else eM R w) + (if eG R w then 1 else 0) := by
  obtain ⟨hA, hF⟩ := ad18 hw
  have hv : zVal (zFo w 2) = if w &&& 1 = 1 then -(zMag w >>> (18 &&& 31)) else zMag w >>> (18 &&& 31) := by
    rw [hF]
    exact val2 (by omega)
  obtain ⟨i1, i2⟩ := sm_i (n := 4096) hA (by decide)
  have hvb : -4095 ≤ (zVal (zFo w 2)).toInt ∧ (zVal (zFo w 2)).toInt ≤ 4095 := by
    rw [hv]
    split
    · rw [i2]
      omega
    · rw [i1]
      omega
  have e0 : (0 : Int32).toInt = 0 := rfl
  have hd := dI_b w
  have h6' : (dI w).toInt ≤ 6 := by
    rw [Int32.lt_iff_toInt_lt, show (6 : Int32).toInt = 6 from rfl] at h6
    omega
  by_cases k : 0 < dI w
  · have k' := Int32.lt_iff_toInt_lt.mp k
    rw [e0] at k'
    have e1 : eM R w = zVal (zFo w 2) + zVal (R (dI w).toNatClampNeg) := by
      unfold eM
      rw [if_pos k, hv]
    have e2 : dM R w = zVal (zFo w 2) + zVal (R (dI w).toNatClampNeg) := by
      unfold dM
      rw [if_pos ⟨k, h6⟩]
    have ix := val_ix ((hR (dI w).toNatClampNeg (by rw [tnN]; omega)).2 (by rw [tnN]; omega) (by rw [tnN]; omega))
    have hb : -8190 ≤ (eM R w).toInt ∧ (eM R w).toInt ≤ 8190 := by
      rw [e1, Int32.toInt_add, bm32 (by omega) (by omega)]
      omega
    refine ⟨e2.trans e1.symm, hb, ?_⟩
    unfold dW
    rw [if_pos ⟨k, h6⟩, e2, ← e1, zOf_yOf]
    unfold yOf yMade
    congr 1
    by_cases q : eM R w < 0
    · rw [if_pos q, if_pos (.inl q)]
    · rw [if_neg q, if_neg (fun z => z.elim q (fun z => by
        rw [z.2.1] at k'
        omega))]
  · have k' : (dI w).toInt = 0 := by
      rw [Int32.lt_iff_toInt_lt, e0] at k
      omega
    have d0 : dI w = 0 := Int32.toInt_inj.mp k'
    have e1 : eM R w = zVal (zFo w 2) := by
      unfold eM
      rw [if_neg k, hv, Int32.add_zero]
    have e2 : dM R w = zVal (zFo w 2) := by
      unfold dM
      rw [if_neg (fun z => k z.1)]
    refine ⟨e2.trans e1.symm, by rw [e1]; omega, ?_⟩
    have e3 : dW R w = zFo w 2 := by
      unfold dW
      rw [if_neg (fun z => k z.1)]
    rw [e3, hF]
    have g0 : eG R w ↔ w &&& 1 = 1 := by
      show (eM R w < 0 ∨ (eM R w = 0 ∧ dI w = 0 ∧ w &&& 1 = 1)) ↔ _
      rw [e1, hv]
      by_cases q : w &&& 1 = 1
      · rw [if_pos q]
        refine ⟨fun _ => q, fun _ => ?_⟩
        by_cases z : uN (zMag w >>> (18 &&& 31)) = 0
        · right
          refine ⟨Int32.toInt_inj.mp ?_, d0, q⟩
          rw [i2, e0]
          omega
        · left
          rw [Int32.lt_iff_toInt_lt, i2, e0]
          omega
      · rw [if_neg q]
        refine ⟨fun z => ?_, fun z => absurd z q⟩
        rcases z with z | z
        · rw [Int32.lt_iff_toInt_lt, i1, e0] at z
          omega
        · exact z.2.2
    have m0 : (if eM R w < 0 then -(eM R w) else eM R w) = zMag w >>> (18 &&& 31) := by
      rw [e1, hv]
      by_cases q : w &&& 1 = 1
      · rw [if_pos q]
        by_cases z : -(zMag w >>> (18 &&& 31)) < 0
        · rw [if_pos z]
          apply Int32.toInt_inj.mp
          rw [zNeg_int (by omega), i2, i1]
          omega
        · rw [if_neg z]
          apply Int32.toInt_inj.mp
          rw [Int32.lt_iff_toInt_lt, i2, e0] at z
          rw [i2, i1]
          omega
      · rw [if_neg q, if_neg (fun z => by
          rw [Int32.lt_iff_toInt_lt, i1, e0] at z
          omega)]
    rw [m0]
    congr 1
    by_cases q : w &&& 1 = 1
    · rw [if_pos q, if_pos (g0.mpr q)]
    · rw [if_neg q, if_neg (fun z => q (g0.mp z))]
