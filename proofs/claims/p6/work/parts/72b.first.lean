/-! BEHIND AN ARRAY'S END there is nothing but zeros -/
def zrC (c : mC) : Prop := ∀ (k n : Nat) (f : Nat → Int32), c = some (.inl (k, n, .inl f)) → ∀ j, n ≤ j → f j = 0
def zrH (h : mH) : Prop := ∀ (i : Nat) (c : mC), 158 ≤ i → h[i]? = some c → zrC c
theorem zr_app {h : mH} {x : mC} (h1 : zrH h) (h2 : zrC x) : zrH (h ++ [x]) := by
  intro i c hi hc
  by_cases e : i < h.length
  · rw [List.getElem?_append_left e] at hc
    exact h1 i c hi hc
  · rw [List.getElem?_append_right (by omega)] at hc
    have : i - h.length = 0 := by
      have := (List.getElem?_eq_some_iff.mp hc).1
      rw [List.length_singleton] at this
      omega
    rw [this] at hc
    cases hc
    exact h2
theorem zr_set {h : mH} {a : Nat} {x : mC} (h1 : zrH h) (h2 : zrC x) : zrH (h.set a x) := by
  intro i c hi hc
  rw [List.getElem?_set] at hc
  split at hc
  · split at hc
    · cases hc
      exact h2
    · cases hc
  · exact h1 i c hi hc
theorem zr_upd {k n : Nat} {f : Nat → Int32} {i x : Int32} (hf : ∀ j, n ≤ j → f j = 0) (hi : mIn i n = true) : zrC (some (.inl (k, n, .inl (upd f i.toNatClampNeg x)))) := by
  intro k' n' f' e j hj
  cases e
  unfold mIn at hi
  rw [Bool.and_eq_true, decide_eq_true_eq] at hi
  rw [upd_eq, if_neg (by omega)]
  exact hf j hj
theorem mP_z {i : Instr} {o1 o2 o3 : Nat} {st st' : List Value} {h h' : mH} (hg : mP 158 i o1 o2 o3 st h = some (st', h')) (hz : zrH h) : zrH h' := by
  cases i <;> simp only [mP, reduceCtorEq] at hg
  all_goals
    split at hg
    · split at hg
      · rename_i hc
        split at hg
        · rename_i hq
          cases hg
          refine zr_set hz ?_
          first
            | exact zr_upd (hz _ _ hq.2 hc _ _ _ rfl) hq.1
            | (intro k' n' f' e; cases e)
        · cases hg
      · cases hg
    · cases hg
theorem mN_z {dflt : Nat → List Value} {i : Instr} {o1 : Nat} {st st' : List Value} {h h' : mH} (hg : mN dflt i o1 st h = some (st', h')) (hz : zrH h) : zrH h' := by
  cases i <;> simp only [mN, reduceCtorEq] at hg
  case newarray t =>
    cases t <;> simp only [reduceCtorEq] at hg
    all_goals
      unfold mNa at hg
      split at hg
      · split at hg
        · cases hg
          refine zr_app hz ?_
          first
            | (intro k' n' f' e j hj; cases e; rfl)
            | (intro k' n' f' e; cases e)
        · cases hg
      · cases hg
  case new ix =>
    cases hg
    refine zr_app hz ?_
    intro k' n' f' e
    cases e
theorem mY_z {o3 : Nat} {st st' : List Value} {h h' : mH} (hg : mY 158 o3 st h = some (st', h')) (hz : zrH h) : zrH h' := by
  unfold mY at hg
  split at hg
  · split at hg
    · split at hg
      · rename_i n1 g n0 f ha hb
        split at hg
        · rename_i hq
          cases hg
          refine zr_set hz ?_
          intro k' n' f' e j hj
          cases e
          have hr := hq.1
          unfold mYr at hr
          rw [decide_eq_true_eq] at hr
          unfold va_cpy
          rw [if_neg (by omega)]
          exact hz _ _ hq.2.1 ha _ _ _ rfl j hj
        · cases hg
      · cases hg
    · cases hg
  · split at hg
    · split at hg
      · split at hg
        · cases hg
          refine zr_set hz ?_
          intro k' n' f' e
          cases e
        · cases hg
      · cases hg
    · cases hg
  · cases hg
theorem evM_z {v5 : Value} {d n ce : Nat} {as : List Value} {h h' : mH} {o : mO} (he : evM 158 nDflt (mP' (nCodw v5)) nHn nMxx' d n ce as h = some (o, h')) (hz : zrH h) : zrH h' := by
  refine evM_rel (R := fun h h' => zrH h → zrH h') (fun h hz => hz) (fun a b c h1 h2 hz => h2 (h1 hz)) (fun e pc lv st h q hq => ?_) (fun h x hz => zr_app hz (fun k' n' f' e => by cases e)) d n ce as h o h' he hz
  rcases mNx_ways hq with e1 | ⟨s1, e1⟩ | ⟨s1, e1⟩ | ⟨s1, e1⟩
  · rw [e1]
    exact fun hz => hz
  · exact fun hz => mP_z e1 hz
  · exact fun hz => mN_z e1 hz
  · exact fun hz => mY_z e1 hz
/-- the first texts: zeros, of no length -/
def kZ (c : Option mC) (k : Nat) : Bool := match c with
  | some (some (.inl (k', n, .inl f))) => (k' == k && n == 240) && (List.range 240).all (fun j => f j == 0)
  | _ => false
def kL0 (c : Option mC) (k i : Nat) : Bool := match c with
  | some (some (.inr (k', gs))) => k' == k && decide (gs[i]? = some (.int 0))
  | _ => false
def kA0 (c : Option mC) : Bool := match c with
  | some (some (.inl (0, 30, .inl _))) => true
  | _ => false
def kA1 (c : Option mC) : Bool := match c with
  | some (some (.inl (1, 30, .inr (.inl _)))) => true
  | _ => false
def nFst : Bool := ((kZ nBh[168]? 2 && kZ nBh[190]? 0) && (kL0 nBh[167]? 3 1 && kL0 nBh[183]? 7 18)) && ((kL0 nBh[173]? 5 2 && kL0 nBh[183]? 7 42) && ((kA1 nBh[174]? && kA0 nBh[175]?) && (kA1 nBh[203]? && kA0 nBh[204]?)))
set_option maxRecDepth 100000 in
theorem nFstV : nFst = true := by decide +kernel
theorem kZ_ok {c : Option mC} {k : Nat} (h : kZ c k = true) : ∃ f : Nat → Int32, c = some (some (.inl (k, 240, .inl f))) ∧ ∀ j, j < 240 → f j = 0 := by
  unfold kZ at h
  split at h
  · simp only [Bool.and_eq_true, beq_iff_eq] at h
    obtain ⟨⟨rfl, rfl⟩, h⟩ := h
    exact ⟨_, rfl, fun j hj => by
      have := kRng h j hj
      exact eq_of_beq this⟩
  · cases h
theorem kL0_ok {c : Option mC} {k i : Nat} (h : kL0 c k i = true) : ∃ gs : List Value, c = some (some (.inr (k, gs))) ∧ gs[i]? = some (.int 0) := by
  unfold kL0 at h
  split at h
  · rw [Bool.and_eq_true, beq_iff_eq, decide_eq_true_eq] at h
    obtain ⟨rfl, h⟩ := h
    exact ⟨_, rfl, h⟩
  · cases h
/-- a heap above the evaluated one has the first texts -/
theorem first_ok {h : mH} (hm : mLe nBh h) (hz : zrH h) : xTx h (fun _ => 0) 0 := by
  have hv := nFstV
  unfold nFst at hv
  simp only [Bool.and_eq_true] at hv
  obtain ⟨⟨⟨a, b⟩, c, d⟩, -⟩ := hv
  obtain ⟨f, f1, f2⟩ := kZ_ok a
  obtain ⟨g, g1, g2⟩ := kZ_ok b
  obtain ⟨u, u1, u2⟩ := kL0_ok c
  obtain ⟨w, w1, w2⟩ := kL0_ok d
  have k1 := hm.2 _ _ f1
  have k2 := hm.2 _ _ g1
  have ef : f = fun _ => 0 := funext fun j => by
    by_cases e : j < 240
    · exact f2 j e
    · exact hz _ _ (by decide) k1 _ _ _ rfl j (by omega)
  have eg : g = fun _ => 0 := funext fun j => by
    by_cases e : j < 240
    · exact g2 j e
    · exact hz _ _ (by decide) k2 _ _ _ rfl j (by omega)
  rw [ef] at k1
  rw [eg] at k2
  exact ⟨k1, k2, ⟨_, hm.2 _ _ u1, u2⟩, ⟨_, hm.2 _ _ w1, w2⟩⟩
theorem kA0_ok {c : Option mC} (h : kA0 c = true) : ∃ f : Nat → Int32, c = some (some (.inl (0, 30, .inl f))) := by
  unfold kA0 at h
  split at h
  · exact ⟨_, rfl⟩
  · cases h
theorem kA1_ok {c : Option mC} (h : kA1 c = true) : ∃ f : Nat → Int64, c = some (some (.inl (1, 30, .inr (.inl f)))) := by
  unfold kA1 at h
  split at h
  · exact ⟨_, rfl⟩
  · cases h
/-- no symbols at first -/
theorem first_k {h : mH} (hm : mLe nBh h) : yqC h ∧ yqS h := by
  have hv := nFstV
  unfold nFst at hv
  simp only [Bool.and_eq_true] at hv
  obtain ⟨-, ⟨a, b⟩, ⟨c, d⟩, e, f⟩ := hv
  obtain ⟨u, u1, u2⟩ := kL0_ok a
  obtain ⟨w, w1, w2⟩ := kL0_ok b
  obtain ⟨c', c1⟩ := kA1_ok c
  obtain ⟨d', d1⟩ := kA0_ok d
  obtain ⟨e', e1⟩ := kA1_ok e
  obtain ⟨f', f1⟩ := kA0_ok f
  have m1 : h[158 + 16]? = some (some (.inl (1, 30, .inr (.inl c')))) := hm.2 _ _ c1
  have m2 : h[158 + 17]? = some (some (.inl (0, 30, .inl d'))) := hm.2 _ _ d1
  have m3 : h[158 + 45]? = some (some (.inl (1, 30, .inr (.inl e')))) := hm.2 _ _ e1
  have m4 : h[158 + 46]? = some (some (.inl (0, 30, .inl f'))) := hm.2 _ _ f1
  have m5 : h[158 + 15]? = some (some (.inr (5, u))) := hm.2 _ _ u1
  have m6 : h[158 + 25]? = some (some (.inr (7, w))) := hm.2 _ _ w1
  have g1 : gB h 16 = c' := by unfold gB; rw [m1]
  have g2 : gA h 17 = d' := by unfold gA; rw [m2]
  have g3 : gB h 45 = e' := by unfold gB; rw [m3]
  have g4 : gA h 46 = f' := by unfold gA; rw [m4]
  have g5 : gI h 15 2 = 0 := by
    unfold gI
    rw [m5]
    dsimp only
    rw [u2]
  have g6 : gI h 25 42 = 0 := by
    unfold gI
    rw [m6]
    dsimp only
    rw [w2]
  refine ⟨⟨?_, ?_, ?_, ?_⟩, ?_, fun i hi => ?_⟩
  · rw [m1, ← g1]
    rfl
  · rw [m2, ← g2]
    rfl
  · rw [m3, ← g3]
    rfl
  · rw [m4, ← g4]
    rfl
  · show gI h 15 2 = gI h 25 42
    rw [g5, g6]
  · have hi' : i < (gI h 15 2).toNatClampNeg := hi
    rw [g5] at hi'
    exact absurd hi' (Nat.not_lt_zero _)
theorem first_okT : okT (fun _ => 0) 0 := ⟨⟨by decide, by decide⟩, fun k k0 k1 => by
  have : (0 : Int32).toInt = 0 := rfl
  omega, fun k _ => ⟨(by decide : (0 : Int) ≤ (0 : Int32).toInt), (by decide : (0 : Int32).toInt ≤ 255)⟩⟩
theorem nOld_c0 (L : Nat) (xs : Nat → Int32) : zC0 (nOld L xs) := by
  refine ⟨nOld_len L xs, ⟨L, xs, rfl⟩, ⟨3, nBusy, rfl⟩, fun a h1 h2 => ⟨nCell 0 (fun _ => 0) a, ?_, .inl rfl⟩⟩
  unfold nOld
  rw [List.getElem?_map, List.getElem?_range h2]
  show some (nCell L xs a) = _
  unfold nCell
  have h0 : ¬ a = 0 := by omega
  simp only [if_neg h0]
theorem nOld_z (L : Nat) (xs : Nat → Int32) : zrH (nOld L xs) := by
  intro i c hi hc
  have := (List.getElem?_eq_some_iff.mp hc).1
  rw [nOld_len] at this
  omega
