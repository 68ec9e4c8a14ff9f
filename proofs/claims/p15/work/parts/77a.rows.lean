/-! ROWS OF BOTH SIDES -/
theorem tnN {x : Int32} : x.toNatClampNeg = x.toInt.toNat := rfl
theorem adN {a : Int32} {k : Nat} (h0 : 0 ≤ a.toInt) (h : a.toInt + k < 2147483648) (hk : k ≤ 1000) : (a + Int32.ofNat k).toNatClampNeg = a.toInt.toNat + k := by
  rw [tnN, Int32.toInt_add, zOfI hk, bm32 (by omega) (by omega)]
  omega
theorem ofN {k : Nat} (hk : k ≤ 1000) : (Int32.ofNat k).toNatClampNeg = k := by
  rw [tnN, zOfI hk]
  omega
theorem cp1_get {M T : Nat → Int32} {a b : Int32} (ha : 0 ≤ a.toInt) (hb : 0 ≤ b.toInt) : ∀ n : Nat, n ≤ 1000 → a.toInt + n < 2147483648 → b.toInt + n < 2147483648 → ∀ j, cp1 M T a b n j = if a.toInt.toNat ≤ j ∧ j < a.toInt.toNat + n then T (b.toInt.toNat + (j - a.toInt.toNat)) else M j
  | 0, _, _, _, j => by
    rw [if_neg (by omega)]
    rfl
  | n + 1, hn, h1, h2, j => by
    show upd (cp1 M T a b n) (a + Int32.ofNat n).toNatClampNeg (T (b + Int32.ofNat n).toNatClampNeg) j = _
    rw [upd_eq, adN ha (by omega) (by omega), adN hb (by omega) (by omega)]
    by_cases q : j = a.toInt.toNat + n
    · rw [if_pos q, if_pos (by omega), show b.toInt.toNat + (j - a.toInt.toNat) = b.toInt.toNat + n by omega]
    · rw [if_neg q, cp1_get ha hb n (by omega) (by omega) (by omega) j]
      by_cases w : a.toInt.toNat ≤ j ∧ j < a.toInt.toNat + n
      · rw [if_pos w, if_pos (by omega)]
      · rw [if_neg w, if_neg (by omega)]
/-- a copy at once is a copy word by word -/
theorem cp1_ok {M T : Nat → Int32} {a b : Int32} {n : Nat} (ha : 0 ≤ a.toInt) (hb : 0 ≤ b.toInt) (hn : n ≤ 1000) (h1 : a.toInt + n < 2147483648) (h2 : b.toInt + n < 2147483648) : va_cpy T M b.toNatClampNeg a.toNatClampNeg n = cp1 M T a b n := by
  funext j
  rw [cp1_get ha hb n hn h1 h2]
  unfold va_cpy
  rfl
theorem cp2_get {M T : Nat → Int32} {a : Int32} (ha : 0 ≤ a.toInt) : ∀ n : Nat, n ≤ 1000 → a.toInt + n < 2147483648 → ∀ j, cp2 M T a n j = if a.toInt.toNat ≤ j ∧ j < a.toInt.toNat + n then T (j - a.toInt.toNat) else M j
  | 0, _, _, j => by
    rw [if_neg (by omega)]
    rfl
  | n + 1, hn, h1, j => by
    show upd (cp2 M T a n) (a + Int32.ofNat n).toNatClampNeg (T (Int32.ofNat n).toNatClampNeg) j = _
    rw [upd_eq, adN ha (by omega) (by omega), ofN (by omega)]
    by_cases q : j = a.toInt.toNat + n
    · rw [if_pos q, if_pos (by omega), show j - a.toInt.toNat = n by omega]
    · rw [if_neg q, cp2_get ha n (by omega) (by omega) j]
      by_cases w : a.toInt.toNat ≤ j ∧ j < a.toInt.toNat + n
      · rw [if_pos w, if_pos (by omega)]
      · rw [if_neg w, if_neg (by omega)]
theorem cp3_get {P M : Nat → Int32} {b : Int32} (hb : 0 ≤ b.toInt) : ∀ n : Nat, n ≤ 1000 → b.toInt + n < 2147483648 → ∀ j, cp3 P M b n j = if j < n then M (b.toInt.toNat + j) else P j
  | 0, _, _, j => by
    rw [if_neg (by omega)]
    rfl
  | n + 1, hn, h1, j => by
    show upd (cp3 P M b n) (Int32.ofNat n).toNatClampNeg (M (b + Int32.ofNat n).toNatClampNeg) j = _
    rw [upd_eq, adN hb (by omega) (by omega), ofN (by omega)]
    by_cases q : j = n
    · rw [if_pos q, if_pos (by omega), q]
    · rw [if_neg q, cp3_get hb n (by omega) (by omega) j]
      by_cases w : j < n
      · rw [if_pos w, if_pos (by omega)]
      · rw [if_neg w, if_neg (by omega)]
theorem sh4_get {C : Nat → Int32} : ∀ n : Nat, n ≤ 900 → ∀ j, sh4 C n j = if j < n then C (j + 4) else C j
  | 0, _, j => by
    rw [if_neg (by omega)]
    rfl
  | n + 1, hn, j => by
    show upd (sh4 C n) (Int32.ofNat n).toNatClampNeg (sh4 C n (Int32.ofNat n + 4).toNatClampNeg) j = _
    have e : (Int32.ofNat n + 4).toNatClampNeg = n + 4 := by
      rw [tnN, Int32.toInt_add, zOfI (by omega), show (4 : Int32).toInt = 4 from rfl, bm32 (by omega) (by omega)]
      omega
    rw [upd_eq, ofN (by omega), e]
    by_cases q : j = n
    · rw [if_pos q, if_pos (by omega), sh4_get n (by omega), if_neg (by omega), q]
    · rw [if_neg q, sh4_get n (by omega) j]
      by_cases w : j < n
      · rw [if_pos w, if_pos (by omega)]
      · rw [if_neg w, if_neg (by omega)]
theorem dn6_get {P : Nat → Int32} : ∀ t : Nat, t ≤ 42 → ∀ j, dn6 P t j = if 48 - t ≤ j ∧ j < 48 then P (j - 6) else P j
  | 0, _, j => by
    rw [if_neg (by omega)]
    rfl
  | t + 1, ht, j => by
    show upd (dn6 P t) (Int32.ofInt (47 - (t : Int))).toNatClampNeg (dn6 P t (Int32.ofInt (47 - (t : Int)) - 6).toNatClampNeg) j = _
    have e0 : (Int32.ofInt (47 - (t : Int))).toInt = 47 - t := rInt (by unfold rI0; omega) (by unfold rI1; omega)
    have e1 : (Int32.ofInt (47 - (t : Int))).toNatClampNeg = 47 - t := by
      rw [tnN, e0]
      omega
    have e2 : (Int32.ofInt (47 - (t : Int)) - 6).toNatClampNeg = 41 - t := by
      rw [tnN, Int32.toInt_sub, e0, show (6 : Int32).toInt = 6 from rfl, bm32 (by omega) (by omega)]
      omega
    rw [upd_eq, e1, e2]
    by_cases q : j = 47 - t
    · rw [if_pos q, if_pos (by omega), dn6_get t (by omega), if_neg (by omega), show j - 6 = 41 - t by omega]
    · rw [if_neg q, dn6_get t (by omega) j]
      by_cases w : 48 - t ≤ j ∧ j < 48
      · rw [if_pos w, if_pos (by omega)]
      · rw [if_neg w, if_neg (by omega)]
/-- cards: a ring, and a row -/
def crdR (od cc : Int32) (C : Nat → Int32) (cc' : Int32) (C' : Nat → Int32) : Prop := cc = cc' ∧ (0 ≤ cc.toInt ∧ cc.toInt ≤ 6) ∧ (0 ≤ od.toInt ∧ od.toInt ≤ 5) ∧ ∀ j, j < 4 * cc.toInt.toNat → C ((4 * od.toInt.toNat + j) % 24) = C' j
/-- lines: a ring, and rows -/
def linR (lc : Int32) (L : Nat → Int32) (lc' : Int32) (P : Nat → Int32) : Prop := lc = lc' ∧ 0 ≤ lc.toInt ∧ ∀ k i : Nat, k < 8 → (k : Int) < lc.toInt → i < 6 → L ((lc.toInt.toNat - 1 - k) % 8 * 6 + i) = P (6 * k + i)
theorem crd_rd {od cc : Int32} {C : Nat → Int32} {cc' : Int32} {C' : Nat → Int32} (h : crdR od cc C cc' C') (hc : ¬ cc = 0) : crdR (od + 1 - (od + 1) / 6 * 6) (cc - 1) C (cc' - 1) (sh4 C' (4 * (cc' - 1)).toNatClampNeg) ∧ 0 < cc.toInt ∧ ∀ j, j < 4 → C (4 * od.toInt.toNat + j) = C' j := by
  obtain ⟨rfl, ⟨c0, c6⟩, ⟨o0, o5⟩, hr⟩ := h
  have hc1 : 0 < cc.toInt := by
    have : ¬ cc.toInt = 0 := fun e => hc (Int32.toInt_inj.mp e)
    omega
  have e1 : (cc - 1).toInt = cc.toInt - 1 := by
    rw [Int32.toInt_sub, show (1 : Int32).toInt = 1 from rfl, bm32 (by omega) (by omega)]
  have e2 : (od + 1).toInt = od.toInt + 1 := by
    rw [Int32.toInt_add, show (1 : Int32).toInt = 1 from rfl, bm32 (by omega) (by omega)]
  have e3 : (od + 1 - (od + 1) / 6 * 6).toInt = (od.toInt + 1) % 6 := by
    rw [rm32 (l := 6) (by omega) (by decide), e2]
    rfl
  have e4 : (4 * (cc - 1)).toNatClampNeg = 4 * (cc.toInt.toNat - 1) := by
    rw [tnN, Int32.toInt_mul, e1, show (4 : Int32).toInt = 4 from rfl, bm32 (by omega) (by omega)]
    omega
  refine ⟨⟨rfl, by rw [e1]; omega, by rw [e3]; omega, fun j hj => ?_⟩, hc1, fun j hj => ?_⟩
  · rw [e1] at hj
    rw [e4, sh4_get _ (by omega), if_pos (by omega), ← hr (j + 4) (by omega), e3]
    congr 1
    omega
  · rw [← hr j (by omega)]
    congr 1
    omega
theorem crd_ad {od cc : Int32} {C : Nat → Int32} {cc' : Int32} {C' : Nat → Int32} {a b c d : Int32} (h : crdR od cc C cc' C') (hc : ¬ cc = 6) : crdR od (cc + 1) (cdA C ((od + cc - (od + cc) / 6 * 6) * 4) a b c d) (cc' + 1) (ycA C' cc' a b c d) := by
  obtain ⟨rfl, ⟨c0, c6⟩, ⟨o0, o5⟩, hr⟩ := h
  have hc1 : cc.toInt < 6 := by
    have : ¬ cc.toInt = 6 := fun e => hc (Int32.toInt_inj.mp e)
    omega
  have e1 : (cc + 1).toInt = cc.toInt + 1 := by
    rw [Int32.toInt_add, show (1 : Int32).toInt = 1 from rfl, bm32 (by omega) (by omega)]
  have e2 : (od + cc).toInt = od.toInt + cc.toInt := by
    rw [Int32.toInt_add, bm32 (by omega) (by omega)]
  have e3 : (od + cc - (od + cc) / 6 * 6).toInt = (od.toInt + cc.toInt) % 6 := by
    rw [rm32 (l := 6) (by omega) (by decide), e2]
    rfl
  have e4 : ((od + cc - (od + cc) / 6 * 6) * 4).toInt = (od.toInt + cc.toInt) % 6 * 4 := by
    rw [Int32.toInt_mul, e3, show (4 : Int32).toInt = 4 from rfl, bm32 (by omega) (by omega)]
  have e5 : (4 * cc).toInt = 4 * cc.toInt := by
    rw [Int32.toInt_mul, show (4 : Int32).toInt = 4 from rfl, bm32 (by omega) (by omega)]
  have pl : ∀ (x : Int32) (k : Int32) (n : Nat), k.toInt = n → 0 ≤ x.toInt → x.toInt < 1000 → n < 10 → (x + k).toNatClampNeg = x.toInt.toNat + n := by
    intro x k n hk h0 h1 h2
    rw [tnN, Int32.toInt_add, hk, bm32 (by omega) (by omega)]
    omega
  refine ⟨rfl, by rw [e1]; omega, ⟨o0, o5⟩, fun j hj => ?_⟩
  rw [e1] at hj
  unfold cdA ycA
  simp only [upd_eq]
  rw [pl _ 1 1 rfl (by omega) (by omega) (by omega), pl _ 2 2 rfl (by omega) (by omega) (by omega), pl _ 3 3 rfl (by omega) (by omega) (by omega), pl _ 1 1 rfl (by omega) (by omega) (by omega), pl _ 2 2 rfl (by omega) (by omega) (by omega), pl _ 3 3 rfl (by omega) (by omega) (by omega), tnN, tnN, e4, e5]
  by_cases q : j < 4 * cc.toInt.toNat
  · rw [if_neg (by omega), if_neg (by omega), if_neg (by omega), if_neg (by omega), if_neg (by omega), if_neg (by omega), if_neg (by omega), if_neg (by omega)]
    exact hr j q
  · have : j = 4 * cc.toInt.toNat ∨ j = 4 * cc.toInt.toNat + 1 ∨ j = 4 * cc.toInt.toNat + 2 ∨ j = 4 * cc.toInt.toNat + 3 := by omega
    rcases this with e | e | e | e
    · rw [if_neg (by omega), if_neg (by omega), if_neg (by omega), if_pos (by omega), if_neg (by omega), if_neg (by omega), if_neg (by omega), if_pos (by omega)]
    · rw [if_neg (by omega), if_neg (by omega), if_pos (by omega), if_neg (by omega), if_neg (by omega), if_pos (by omega)]
    · rw [if_neg (by omega), if_pos (by omega), if_neg (by omega), if_pos (by omega)]
    · rw [if_pos (by omega), if_pos (by omega)]
theorem lin_pr {lc : Int32} {L : Nat → Int32} {lc' : Int32} {P M : Nat → Int32} {m : Int32} (h : linR lc L lc' P) (hm : 0 ≤ m.toInt ∧ m.toInt ≤ 200) (hl : lc.toInt < 2000000000) : linR (lc + 1) (va_cpy M L m.toNatClampNeg ((lc - lc / 8 * 8) * 6).toNatClampNeg 6) (lc' + 1) (cp3 (dn6 P 42) M m 6) := by
  obtain ⟨rfl, c0, hr⟩ := h
  have e1 : (lc + 1).toInt = lc.toInt + 1 := by
    rw [Int32.toInt_add, show (1 : Int32).toInt = 1 from rfl, bm32 (by omega) (by omega)]
  have e3 : (lc - lc / 8 * 8).toInt = lc.toInt % 8 := rm32 (l := 8) c0 (by decide)
  have e4 : ((lc - lc / 8 * 8) * 6).toNatClampNeg = lc.toInt.toNat % 8 * 6 := by
    rw [tnN, Int32.toInt_mul, e3, show (6 : Int32).toInt = 6 from rfl, bm32 (by omega) (by omega)]
    omega
  refine ⟨rfl, by rw [e1]; omega, fun k i hk hkl hi => ?_⟩
  rw [e1] at hkl ⊢
  rw [e4, cp3_get hm.1 6 (by omega) (by omega), dn6_get 42 (by omega)]
  unfold va_cpy
  by_cases q : k = 0
  · subst q
    rw [if_pos (by omega), if_pos (by omega), tnN]
    congr 1
    omega
  · rw [if_neg (by omega), if_neg (by omega), if_pos (by omega), show 6 * k + i - 6 = 6 * (k - 1) + i by omega, ← hr (k - 1) i (by omega) (by omega) hi]
    congr 1
    omega
