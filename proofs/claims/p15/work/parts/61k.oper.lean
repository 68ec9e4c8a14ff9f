/-! OPERATIONS: the same on both sides -/
abbrev opRel (q : Nat) (c n : Int32) : Prop := ¬ n < 0 ∧ (2 ≤ q ∧ q < 52) ∧ (q = 48 ↔ n = 100) ∧ (q = 49 ↔ n = 101) ∧ (q = 50 ↔ n = 102) ∧ (q = 51 ↔ n = 103) ∧ (zCd q < 64 ↔ yIns n) ∧ (zTel (zCd q) ↔ ¬ n < 8192) ∧ zFf q = yF0 n ∧ uN (zFf q) ≤ 63 ∧ (zCd q < 64 → uN c < 64 ∧ n - n / 128 * 128 = c)
def lenB (x : Nat) : Nat := if x < 256 then 1 else if x < 65536 then 2 else if x < 16777216 then 3 else 4
def lstB (x : Nat) : Nat := x / 256 ^ (lenB x - 1)
def chkOp (x : Nat) : Bool := match opF (Int64.ofNat x) 50 0 with
  | none => false
  | some r => decide (opRel r.1 r.2 (yOp (Int64.ofNat x) (Int32.ofNat (lenB x)) (Int32.ofNat (lstB x))))
theorem chkOp_all : LT.all chkOp = true := by decide +kernel
theorem LT_b : ∀ x ∈ LT, x < 4294967296 ∧ ∀ i : Fin 4, i.val < lenB x → zPb (Int32.ofNat (x / 256 ^ i.val % 256)) = true := by decide +kernel
theorem LT_0 : ¬ 0 ∈ LT := by decide +kernel
theorem pq_byte {T : Nat → Int32} {p : Int32} : ∀ (n i : Nat), i < n → (∀ j, j < n → uN (zChr T p j) < 128) → pkn T p n / 256 ^ i % 256 = uN (zChr T p i)
  | 0, _, h, _ => absurd h (Nat.not_lt_zero _)
  | n + 1, i, hi, h => by
    have hl := pq_lt n (fun j hj => h j (by omega))
    have hc := h n (by omega)
    show (pkn T p n + 256 ^ n * uN (zChr T p n)) / 256 ^ i % 256 = _
    by_cases e : i = n
    · rw [e, Nat.add_mul_div_left _ _ (Nat.pow_pos (by omega)), Nat.div_eq_of_lt hl]
      omega
    · have ih := pq_byte n i (by omega) (fun j hj => h j (by omega))
      have e2 : 256 ^ n = 256 ^ i * (256 * 256 ^ (n - i - 1)) := by
        rw [← Nat.pow_succ', ← Nat.pow_add]
        congr 1
        omega
      rw [e2, Nat.mul_assoc, Nat.add_mul_div_left _ _ (Nat.pow_pos (by omega)), Nat.mul_assoc, Nat.add_mul_mod_self_left]
      exact ih
theorem pq_ge {T : Nat → Int32} {p : Int32} {n : Nat} (h : 1 ≤ uN (zChr T p n)) : 256 ^ n ≤ pkn T p (n + 1) := by
  show 256 ^ n ≤ pkn T p n + 256 ^ n * uN (zChr T p n)
  have : 256 ^ n * 1 ≤ 256 ^ n * uN (zChr T p n) := Nat.mul_le_mul_left _ h
  omega
theorem op_ok {T : Nat → Int32} {o e : Int32} (h0 : 0 ≤ o.toInt) (hoe : o.toInt < e.toInt) (he : e.toInt ≤ 240) (hT : ∀ k : Int32, 0 ≤ k.toInt → k.toInt < e.toInt → 1 ≤ uN (T k.toNatClampNeg) ∧ uN (T k.toNatClampNeg) < 128) :
    ((opF (zPk T o (min (zDn o (zRun T e o)) 6)) 50 0 = none ∨ zRun T e o < e) ∧ yOp (if e - o < 6 then zPk T o (min (zDn o e) 8) else 0) (e - o) (T (e - 1).toNatClampNeg) < 0) ∨ ∃ q c, opF (zPk T o (min (zDn o (zRun T e o)) 6)) 50 0 = some (q, c) ∧ ¬ zRun T e o < e ∧ opRel q c (yOp (if e - o < 6 then zPk T o (min (zDn o e) 8) else 0) (e - o) (T (e - 1).toNatClampNeg)) := by
  obtain ⟨nO, hd, hn, hq, hi, hpl⟩ := run_ok (T := T) (e := e) h0 (by omega) he
  have hle := zSc_le (fun k => zPb (T k.toNatClampNeg)) e o
  have hq' : zSc (fun k => zPb (T k.toNatClampNeg)) e o = zRun T e o := rfl
  rw [hq'] at hle
  have hm : ∃ m : Nat, (m : Int) = e.toInt - o.toInt := ⟨(e.toInt - o.toInt).toNat, by omega⟩
  obtain ⟨m, hm⟩ := hm
  have hdn : zDn o e = m := by
    show (e.toInt - o.toInt).toNat = m
    omega
  have heo : e - o = Int32.ofNat m := by
    apply Int32.toInt_inj.mp
    rw [Int32.toInt_sub, zOfI (by omega), bm32 (by omega) (by omega)]
    omega
  have hkk : ∀ i, i < m → (o + Int32.ofNat i).toInt = o.toInt + i := fun i hi => by
    rw [Int32.toInt_add, zOfI (by omega), bm32 (by omega) (by omega)]
  have hC : ∀ i, i < m → 1 ≤ uN (zChr T o i) ∧ uN (zChr T o i) < 128 := fun i hi => by
    have := hkk i hi
    exact hT (o + Int32.ofNat i) (by omega) (by omega)
  have hend : ¬ zRun T e o < e → nO = m := fun k => by
    rw [Int32.lt_iff_toInt_lt] at k
    rcases hle.2.1 with a | a
    · omega
    · rw [a] at k
      omega
  rw [hd, hdn, heo]
  by_cases h6 : 6 ≤ m
  · rw [if_neg (by rw [Int32.lt_iff_toInt_lt, zOfI (by omega), show (6 : Int32).toInt = 6 from rfl]; omega)]
    left
    refine ⟨?_, yOp_0 _ _⟩
    by_cases k : zRun T e o < e
    · exact .inr k
    · left
      have e6 : nO = m := hend k
      have hu : uL (zPk T o (min nO 6)) = pkn T o 6 := by
        rw [Nat.min_eq_right (by omega)]
        exact pq_zPk 6 (by omega) (fun i hi => (hC i (by omega)).2)
      have hs : pkn T o 6 < 9223372036854775808 := pq_small (by omega) (fun i hi => (hC i (by omega)).2)
      have hg : 256 ^ 5 ≤ pkn T o 6 := pq_ge (hC 5 (by omega)).1
      cases hf : opF (zPk T o (min nO 6)) 50 0 with
      | none => rfl
      | some r =>
        have h1 := opF_LT (by rw [hu]; exact hs) 50 0 (by omega) hf
        rw [hu] at h1
        have := (LT_b _ h1).1
        omega
  · rw [if_pos (by rw [Int32.lt_iff_toInt_lt, zOfI (by omega), show (6 : Int32).toInt = 6 from rfl]; omega), Nat.min_eq_left (by omega : m ≤ 8)]
    have hu : uL (zPk T o m) = pkn T o m := pq_zPk m (by omega) (fun i hi => (hC i hi).2)
    have hs : pkn T o m < 9223372036854775808 := pq_small (by omega) (fun i hi => (hC i hi).2)
    have hlt : pkn T o m < 256 ^ m := pq_lt m (fun i hi => (hC i hi).2)
    have hm1 : 1 ≤ m := by omega
    have hlast : T (e - 1).toNatClampNeg = zChr T o (m - 1) := by
      unfold zChr
      congr 2
      apply Int32.toInt_inj.mp
      rw [hkk (m - 1) (by omega), Int32.toInt_sub, show (1 : Int32).toInt = 1 from rfl, bm32 (by omega) (by omega)]
      omega
    have hby : ∀ i, i < m → pkn T o m / 256 ^ i % 256 = uN (zChr T o i) := fun i hi => pq_byte m i hi (fun j hj => (hC j hj).2)
    have hge : 256 ^ (m - 1) ≤ pkn T o m := by
      have := pq_ge (T := T) (p := o) (hC (m - 1) (by omega)).1
      rw [Nat.sub_add_cancel hm1] at this
      exact this
    have htop : pkn T o m / 256 ^ (m - 1) = uN (zChr T o (m - 1)) := by
      have h1 := hby (m - 1) (by omega)
      have h2 : pkn T o m / 256 ^ (m - 1) < 256 := by
        rw [Nat.div_lt_iff_lt_mul (Nat.pow_pos (by omega)), Nat.mul_comm, ← Nat.pow_succ, Nat.succ_eq_add_one, Nat.sub_add_cancel hm1]
        exact hlt
      rw [Nat.mod_eq_of_lt h2] at h1
      exact h1
    rw [hlast]
    have hwhole : ¬ zRun T e o < e → zPk T o (min nO 6) = zPk T o m := fun k => by
      rw [hend k, Nat.min_eq_left (by omega)]
    by_cases hmem : pkn T o m ∈ LT
    · have hb := LT_b _ hmem
      have hm4 : m ≤ 4 := by
        rcases Nat.lt_or_ge 4 m with a | a
        · exfalso
          have : m = 5 := by omega
          rw [this] at hge hb
          have := hb.1
          omega
        · exact a
      have hlen : lenB (pkn T o m) = m := by
        unfold lenB
        have c : m = 1 ∨ m = 2 ∨ m = 3 ∨ m = 4 := by omega
        rcases c with c | c | c | c
        · rw [if_pos (by rw [c] at hlt ⊢; exact hlt), c]
        · rw [if_neg (by rw [c] at hge ⊢; exact Nat.not_lt.mpr hge), if_pos (by rw [c] at hlt ⊢; exact hlt), c]
        · rw [if_neg (by rw [c] at hge ⊢; omega), if_neg (by rw [c] at hge ⊢; exact Nat.not_lt.mpr hge), if_pos (by rw [c] at hlt ⊢; exact hlt), c]
        · rw [if_neg (by rw [c] at hge ⊢; omega), if_neg (by rw [c] at hge ⊢; omega), if_neg (by rw [c] at hge ⊢; exact Nat.not_lt.mpr hge), c]
      have hlst : lstB (pkn T o m) = uN (zChr T o (m - 1)) := by
        unfold lstB
        rw [hlen]
        exact htop
      have hrun : ¬ zRun T e o < e := fun k => by
        rw [Int32.lt_iff_toInt_lt] at k
        have h1 := hle.2.2 k
        have h2 := hb.2 ⟨nO, by omega⟩ (by rw [hlen]; show nO < m; omega)
        have h3 : pkn T o m / 256 ^ nO % 256 = uN (zChr T o nO) := hby nO (by omega)
        have h4 : Int32.ofNat (pkn T o m / 256 ^ nO % 256) = zChr T o nO := by
          apply uN_inj
          rw [h3, uN_of (uN_lt _)]
        have h5 : zRun T e o = o + Int32.ofNat nO := by
          apply Int32.toInt_inj.mp
          rw [hkk nO (by omega), hi]
        have h6 : zPb (zChr T o nO) = false := by
          have h1' : zPb (T (zRun T e o).toNatClampNeg) = false := h1
          rw [h5] at h1'
          exact h1'
        rw [show Int32.ofNat (pkn T o m / 256 ^ (⟨nO, by omega⟩ : Fin 4).val % 256) = zChr T o nO from h4, h6] at h2
        cases h2
      have hw : zPk T o m = Int64.ofNat (pkn T o m) := by
        apply uL_inj
        rw [hu]
        show _ = (Int64.ofNat (pkn T o m)).toBitVec.toNat
        rw [Int64.toBitVec_ofNat', BitVec.toNat_ofNat, Nat.mod_eq_of_lt (by omega)]
      have hck := List.all_eq_true.mp chkOp_all _ hmem
      right
      rw [hwhole hrun]
      unfold chkOp at hck
      rw [hlen, hlst, ← hw] at hck
      have hz : Int32.ofNat (uN (zChr T o (m - 1))) = zChr T o (m - 1) := by
        apply uN_inj
        rw [uN_of (uN_lt _)]
      rw [hz] at hck
      cases hf : opF (zPk T o m) 50 0 with
      | none => rw [hf] at hck; cases hck
      | some r =>
        rw [hf] at hck
        exact ⟨r.1, r.2, rfl, hrun, of_decide_eq_true hck⟩
    · left
      refine ⟨?_, ?_⟩
      · by_cases k : zRun T e o < e
        · exact .inr k
        · left
          rw [hwhole k]
          cases hf : opF (zPk T o m) 50 0 with
          | none => rfl
          | some r =>
            have h1 := opF_LT (by rw [hu]; exact hs) 50 0 (by omega) hf
            rw [hu] at h1
            exact absurd h1 hmem
      · apply Decidable.byContradiction
        intro k
        apply hmem
        rw [← hu]
        refine yOp_in (by rw [hu]; exact hs) ?_ ?_ k
        · intro g
          have : m = 3 := (ofN_inj (b := 3) (by omega) (by omega)).1 g
          rw [hu]
          have h := hlt
          rw [this] at h ⊢
          exact h
        · intro g
          have : m = 4 := (ofN_inj (b := 4) (by omega) (by omega)).1 g
          rw [hu]
          have h := hlt
          have h' := htop
          rw [this] at h h' ⊢
          exact ⟨h, h'⟩
theorem op_none (T : Nat → Int32) (o : Int32) : opF (zPk T o (min 0 6)) 50 0 = none := by
  cases hf : opF (zPk T o (min 0 6)) 50 0 with
  | none => rfl
  | some r =>
    have h1 := opF_LT (show uL (0 : Int64) < 9223372036854775808 by decide) 50 0 (by omega) hf
    exact absurd h1 LT_0
