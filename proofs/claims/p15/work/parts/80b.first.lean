/-! BEHIND AN ARRAY'S END there is nothing but zeros -/
def zrC (c : mC) : Prop := ∀ (k n : Nat) (f : Nat → Int32), c = some (.inl (k, n, .inl f)) → ∀ j, n ≤ j → f j = 0
def zrH (h : mH) : Prop := ∀ (i : Nat) (c : mC), 158 ≤ i → h[i]? = some c → zrC c
theorem zr_app {h : mH} {x : mC} (h1 : zrH h) (h2 : zrC x) : zrH (h ++ [x]) := by
  intro i c hi hc
  by_cases e : i < h.length
  · rw [List.getElem?_append_left e] at hc
    exact h1 i c hi hc
  · rw [List.getElem?_append_right (by omega)] at hc
    have : i - h.length = 0 := by
      have := (List.getElem?_eq_some_iff.mp hc).1
      rw [List.length_singleton] at this
      omega
    rw [this] at hc
    cases hc
    exact h2
theorem zr_set {h : mH} {a : Nat} {x : mC} (h1 : zrH h) (h2 : zrC x) : zrH (h.set a x) := by
  intro i c hi hc
  rw [List.getElem?_set] at hc
  split at hc
  · split at hc
    · cases hc
      exact h2
    · cases hc
  · exact h1 i c hi hc
theorem zr_upd {k n : Nat} {f : Nat → Int32} {i x : Int32} (hf : ∀ j, n ≤ j → f j = 0) (hi : mIn i n = true) : zrC (some (.inl (k, n, .inl (upd f i.toNatClampNeg x)))) := by
  intro k' n' f' e j hj
  cases e
  unfold mIn at hi
  rw [Bool.and_eq_true, decide_eq_true_eq] at hi
  rw [upd_eq, if_neg (by omega)]
  exact hf j hj
theorem mP_z {i : Instr} {o1 o2 o3 : Nat} {st st' : List Value} {h h' : mH} (hg : mP 158 i o1 o2 o3 st h = some (st', h')) (hz : zrH h) : zrH h' := by
  cases i <;> simp only [mP, reduceCtorEq] at hg
  all_goals
    split at hg
    · split at hg
      · rename_i hc
        split at hg
        · rename_i hq
          cases hg
          refine zr_set hz ?_
          first
            | exact zr_upd (hz _ _ hq.2 hc _ _ _ rfl) hq.1
            | (intro k' n' f' e; cases e)
        · cases hg
      · cases hg
    · cases hg
theorem mN_z {dflt : Nat → List Value} {i : Instr} {o1 : Nat} {st st' : List Value} {h h' : mH} (hg : mN dflt i o1 st h = some (st', h')) (hz : zrH h) : zrH h' := by
  cases i <;> simp only [mN, reduceCtorEq] at hg
  case newarray t =>
    cases t <;> simp only [reduceCtorEq] at hg
    all_goals
      unfold mNa at hg
      split at hg
      · split at hg
        · cases hg
          refine zr_app hz ?_
          first
            | (intro k' n' f' e j hj; cases e; rfl)
            | (intro k' n' f' e; cases e)
        · cases hg
      · cases hg
  case new ix =>
    cases hg
    refine zr_app hz ?_
    intro k' n' f' e
    cases e
theorem mY_z {o3 : Nat} {st st' : List Value} {h h' : mH} (hg : mY 158 o3 st h = some (st', h')) (hz : zrH h) : zrH h' := by
  unfold mY at hg
  split at hg
  · split at hg
    · split at hg
      · rename_i n1 g n0 f ha hb
        split at hg
        · rename_i hq
          cases hg
          refine zr_set hz ?_
          intro k' n' f' e j hj
          cases e
          have hr := hq.1
          unfold mYr at hr
          rw [decide_eq_true_eq] at hr
          unfold va_cpy
          rw [if_neg (by omega)]
          exact hz _ _ hq.2.1 ha _ _ _ rfl j hj
        · cases hg
      · cases hg
    · cases hg
  · split at hg
    · split at hg
      · split at hg
        · cases hg
          refine zr_set hz ?_
          intro k' n' f' e
          cases e
        · cases hg
      · cases hg
    · cases hg
  · cases hg
theorem evM_z {v5 : Value} {d n ce : Nat} {as : List Value} {h h' : mH} {o : mO} (he : evM 158 nDflt (mP' (nCodw v5)) nHn nMxx' d n ce as h = some (o, h')) (hz : zrH h) : zrH h' := by
  refine evM_rel (R := fun h h' => zrH h → zrH h') (fun h hz => hz) (fun a b c h1 h2 hz => h2 (h1 hz)) (fun e pc lv st h q hq => ?_) (fun h x hz => zr_app hz (fun k' n' f' e => by cases e)) d n ce as h o h' he hz
  rcases mNx_ways hq with e1 | ⟨s1, e1⟩ | ⟨s1, e1⟩ | ⟨s1, e1⟩
  · rw [e1]
    exact fun hz => hz
  · exact fun hz => mP_z e1 hz
  · exact fun hz => mN_z e1 hz
  · exact fun hz => mY_z e1 hz
/-- the first texts: zeros, of no length -/
def kZ (c : Option mC) (k : Nat) : Bool := match c with
  | some (some (.inl (k', n, .inl f))) => (k' == k && n == 240) && (List.range 240).all (fun j => f j == 0)
  | _ => false
def kL0 (c : Option mC) (k i : Nat) : Bool := match c with
  | some (some (.inr (k', gs))) => k' == k && decide (gs[i]? = some (.int 0))
  | _ => false
def nFst : Bool := (kZ nBh[168]? 2 && kZ nBh[190]? 0) && (kL0 nBh[167]? 3 1 && kL0 nBh[183]? 7 18)
set_option maxRecDepth 100000 in
theorem nFstV : nFst = true := by decide +kernel
theorem kZ_ok {c : Option mC} {k : Nat} (h : kZ c k = true) : ∃ f : Nat → Int32, c = some (some (.inl (k, 240, .inl f))) ∧ ∀ j, j < 240 → f j = 0 := by
  unfold kZ at h
  split at h
  · simp only [Bool.and_eq_true, beq_iff_eq] at h
    obtain ⟨⟨rfl, rfl⟩, h⟩ := h
    exact ⟨_, rfl, fun j hj => by
      have := kRng h j hj
      exact eq_of_beq this⟩
  · cases h
theorem kL0_ok {c : Option mC} {k i : Nat} (h : kL0 c k i = true) : ∃ gs : List Value, c = some (some (.inr (k, gs))) ∧ gs[i]? = some (.int 0) := by
  unfold kL0 at h
  split at h
  · rw [Bool.and_eq_true, beq_iff_eq, decide_eq_true_eq] at h
    obtain ⟨rfl, h⟩ := h
    exact ⟨_, rfl, h⟩
  · cases h
/-- a heap above the evaluated one has the first texts -/
theorem first_ok {h : mH} (hm : mLe nBh h) (hz : zrH h) : xTx h (fun _ => 0) 0 := by
  have hv := nFstV
  unfold nFst at hv
  simp only [Bool.and_eq_true] at hv
  obtain ⟨⟨a, b⟩, c, d⟩ := hv
  obtain ⟨f, f1, f2⟩ := kZ_ok a
  obtain ⟨g, g1, g2⟩ := kZ_ok b
  obtain ⟨u, u1, u2⟩ := kL0_ok c
  obtain ⟨w, w1, w2⟩ := kL0_ok d
  have k1 := hm.2 _ _ f1
  have k2 := hm.2 _ _ g1
  have ef : f = fun _ => 0 := funext fun j => by
    by_cases e : j < 240
    · exact f2 j e
    · exact hz _ _ (by decide) k1 _ _ _ rfl j (by omega)
  have eg : g = fun _ => 0 := funext fun j => by
    by_cases e : j < 240
    · exact g2 j e
    · exact hz _ _ (by decide) k2 _ _ _ rfl j (by omega)
  rw [ef] at k1
  rw [eg] at k2
  exact ⟨k1, k2, ⟨_, hm.2 _ _ u1, u2⟩, ⟨_, hm.2 _ _ w1, w2⟩⟩
theorem first_okT : okT (fun _ => 0) 0 := ⟨⟨by decide, by decide⟩, fun k k0 k1 => by
  have : (0 : Int32).toInt = 0 := rfl
  omega, fun k _ => ⟨(by decide : (0 : Int) ≤ (0 : Int32).toInt), (by decide : (0 : Int32).toInt ≤ 255)⟩⟩
theorem nOld_c0 (L : Nat) (xs : Nat → Int32) : zC0 (nOld L xs) := by
  refine ⟨nOld_len L xs, ⟨L, xs, rfl⟩, ⟨3, nBusy, rfl⟩, fun a h1 h2 => ⟨nCell 0 (fun _ => 0) a, ?_, .inl rfl⟩⟩
  unfold nOld
  rw [List.getElem?_map, List.getElem?_range h2]
  show some (nCell L xs a) = _
  unfold nCell
  have h0 : ¬ a = 0 := by omega
  simp only [if_neg h0]
theorem nOld_z (L : Nat) (xs : Nat → Int32) : zrH (nOld L xs) := by
  intro i c hi hc
  have := (List.getElem?_eq_some_iff.mp hc).1
  rw [nOld_len] at this
  omega
/-- the first processors: zeros -/
def kZa (c : Option mC) : Bool := match c with
  | some (some (.inl (_, n, .inl f))) => (List.range n).all (fun j => f j == 0)
  | _ => false
def kI0 (c : Option mC) (i : Nat) (x : Int32) : Bool := match c with
  | some (some (.inr (_, gs))) => decide (gs[i]? = some (.int x))
  | _ => false
def nFst2 : Bool := ([1, 8, 3, 6, 4, 5, 26, 27, 28, 29, 30, 31].all (fun k => kZa nBh[158 + k]?) && [(7, 3), (7, 4), (7, 5), (7, 7), (7, 8), (2, 5), (2, 6), (2, 7), (2, 8), (25, 3), (25, 5), (25, 6), (25, 8), (25, 9), (25, 12), (25, 13), (25, 15)].all (fun q => kI0 nBh[158 + q.1]? q.2 0)) && (kI0 nBh[158 + 7]? 6 1 && kI0 nBh[158 + 25]? 10 1)
set_option maxRecDepth 100000 in
theorem nFst2V : nFst2 = true := by decide +kernel
theorem gA_0 {h : mH} {k : Nat} (hk : kZa nBh[158 + k]? = true) (hm : mLe nBh h) (hz : zrH h) : gA h k = fun _ => 0 := by
  unfold kZa at hk
  split at hk
  · rename_i q n f e
    have k1 := hm.2 _ _ e
    have ef : f = fun _ => 0 := funext fun j => by
      by_cases e : j < n
      · exact eq_of_beq (kRng hk j e)
      · exact hz _ _ (by omega) k1 _ _ _ rfl j (by omega)
    unfold gA
    rw [k1]
    exact ef
  · cases hk
theorem gI_0 {h : mH} {k i : Nat} {x : Int32} (hk : kI0 nBh[158 + k]? i x = true) (hm : mLe nBh h) : gI h k i = x := by
  unfold kI0 at hk
  split at hk
  · rename_i q gs e
    have k1 := hm.2 _ _ e
    rw [decide_eq_true_eq] at hk
    unfold gI
    rw [k1]
    dsimp only
    rw [hk]
  · cases hk
theorem first_R {h : mH} (hm : mLe nBh h) (hz : zrH h) : nR h (fun _ => 0) 0 ∧ sdN h ≤ 0 := by
  have hv := nFst2V
  unfold nFst2 at hv
  rw [Bool.and_eq_true, Bool.and_eq_true, Bool.and_eq_true, List.all_eq_true, List.all_eq_true] at hv
  obtain ⟨hv, s1, s2⟩ := hv
  have S1 : (zOf h).1 7 6 = 1 := gI_0 s1 hm
  have S2 : (zOf h).1 25 10 = 1 := gI_0 s2 hm
  have A : ∀ k, k ∈ [1, 8, 3, 6, 4, 5, 26, 27, 28, 29, 30, 31] → (zOf h).2.2.1 k = fun _ => 0 := fun k hk => gA_0 (hv.1 k hk) hm hz
  have I : ∀ k i, (k, i) ∈ [(7, 3), (7, 4), (7, 5), (7, 7), (7, 8), (2, 5), (2, 6), (2, 7), (2, 8), (25, 3), (25, 5), (25, 6), (25, 8), (25, 9), (25, 12), (25, 13), (25, 15)] → (zOf h).1 k i = 0 := fun k i hk => gI_0 (hv.2 (k, i) hk) hm
  have hp : pQ (zOf h) (zOf h) := by
    refine pR9.mk ((A 1 (by decide)).trans (A 26 (by decide)).symm) ((A 8 (by decide)).trans (A 27 (by decide)).symm) ((I 7 3 (by decide)).trans (I 25 3 (by decide)).symm) ((I 7 4 (by decide)).trans (I 25 5 (by decide)).symm) ((I 7 5 (by decide)).trans (I 25 6 (by decide)).symm) (S1.trans S2.symm) ((I 7 7 (by decide)).trans (I 25 8 (by decide)).symm) ((I 7 8 (by decide)).trans (I 25 9 (by decide)).symm) ((A 3 (by decide)).trans (A 28 (by decide)).symm) ((I 2 5 (by decide)).trans (I 25 12 (by decide)).symm) ((A 6 (by decide)).trans (A 31 (by decide)).symm) rfl ?_ ?_ ?_ ?_ ?_ ?_ ?_ ?_ ?_
    · show crdR ((zOf h).1 2 6) ((zOf h).1 2 7) ((zOf h).2.2.1 4) ((zOf h).1 25 13) ((zOf h).2.2.1 29)
      rw [I 2 6 (by decide), I 2 7 (by decide), I 25 13 (by decide)]
      exact ⟨rfl, ⟨by decide, by decide⟩, ⟨by decide, by decide⟩, fun j hj => absurd hj (by show ¬ j < 0; omega)⟩
    · show linR ((zOf h).1 2 8) ((zOf h).2.2.1 5) ((zOf h).1 25 15) ((zOf h).2.2.1 30)
      rw [I 2 8 (by decide), I 25 15 (by decide)]
      exact ⟨rfl, by decide, fun k i _ hk _ => absurd hk (by show ¬ (k : Int) < 0; omega)⟩
    · intro j _
      show wOk ((zOf h).2.2.1 26 j)
      rw [A 26 (by decide)]
      show (0 : Int) ≤ (0 : Int32).toInt
      decide
    · intro j _
      show wOk ((zOf h).2.2.1 27 j) ∧ (1 ≤ j → j ≤ 6 → uN ((zOf h).2.2.1 27 j) < 8192)
      rw [A 27 (by decide)]
      exact ⟨(by show (0 : Int) ≤ (0 : Int32).toInt; decide), fun _ _ => by show uN 0 < 8192; decide⟩
    · intro j _
      show wOk ((zOf h).2.2.1 28 j)
      rw [A 28 (by decide)]
      show (0 : Int) ≤ (0 : Int32).toInt
      decide
    · intro j _
      show wOk ((zOf h).2.2.1 29 j)
      rw [A 29 (by decide)]
      show (0 : Int) ≤ (0 : Int32).toInt
      decide
    · exact .inl (I 25 3 (by decide))
    · show 0 ≤ ((zOf h).1 25 12).toInt ∧ ((zOf h).1 25 12).toInt ≤ 6
      rw [I 25 12 (by decide)]
      decide
    · show 0 ≤ ((zOf h).1 25 10).toInt
      rw [S2]
      decide
  obtain ⟨a, b⟩ := xTx_12.1 (first_ok hm hz)
  have es : ((zOf h).1 7 7).toInt = 0 := by
    rw [I 7 7 (by decide)]
    rfl
  have el : ((zOf h).1 2 8).toInt = 0 := by
    rw [I 2 8 (by decide)]
    rfl
  exact ⟨⟨hp, tx1_of a, tx2_of b, first_okT, by omega, by omega⟩, by show ((zOf h).1 7 7).toInt ≤ 0; omega⟩
theorem nOld_bS (L : Nat) (xs : Nat → Int32) : bS (nOld L xs) := rfl
