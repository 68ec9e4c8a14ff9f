/-! THE END OF A TEXT: literals, and all of it; both sides -/
variable {σ τ : zS} {fi : Nat}
theorem pl_ok {σ : zS} {V : Nat → Int32} (hall : fi = (xWc σ).toNatClampNeg) : ∀ (k i : Nat) (pl : Int32) (W G : Nat → Int32) (τ : zS), i + k = (xLc σ).toNatClampNeg → aR (zAs σ V pl W G) τ fi → (∀ j, j < (xWc σ).toNatClampNeg → ¬ τ.2.2.1 44 j = 0 → τ.2.2.1 41 j = 2 → (i : Int) ≤ (τ.2.2.1 42 j).toInt) → (zPlF (σ.1 11 11) (σ.2.2.1 21) (σ.2.2.1 20) (σ.2.2.1 23) (xWc σ).toInt.toNat k i pl W G = none ∧ yPlF k i τ = none) ∨ ∃ pl' W' G' τ', zPlF (σ.1 11 11) (σ.2.2.1 21) (σ.2.2.1 20) (σ.2.2.1 23) (xWc σ).toInt.toNat k i pl W G = some (pl', W', G') ∧ yPlF k i τ = some τ' ∧ aR (zAs σ V pl' W' G') τ' fi ∧ kF τ τ' ∧ τ'.2.2.1 36 = τ.2.2.1 36 ∧ (∀ j, j < (xWc σ).toNatClampNeg → ¬ τ'.2.2.1 44 j = 0 → ¬ τ'.2.2.1 41 j = 2)
  | 0, i, pl, W, G, τ, hi, h, h2 => .inr ⟨pl, W, G, τ, rfl, rfl, h, kF_rfl τ, rfl, fun j hj ho hk => by
      have h3 : (τ.2.2.1 42 j).toInt < (yLc τ).toInt := (h.kd j hj ho).2 hk
      have h4 := h2 j hj ho hk
      have e : xLc σ = yLc τ := h.lc
      have h20 : 0 ≤ (xLc σ).toInt ∧ (xLc σ).toInt ≤ 20 := h.lr
      have hcc := tn_i h20.1
      rw [← e] at h3
      omega⟩
  | k + 1, i, pl, W, G, τ, hi, h, h2 => by
    have h20 : 0 ≤ (xLc σ).toInt ∧ (xLc σ).toInt ≤ 20 := h.lr
    have hcc := tn_i h20.1
    have hin := zOfI (n := i) (by omega)
    have epl : pl = yPl τ := h.pl
    have hplv : vOk pl := h.plv
    have hlit : σ.2.2.1 23 i = τ.2.2.1 38 i ∧ wOk (σ.2.2.1 23 i) := h.lt i (show i < (xLc σ).toNatClampNeg by omega)
    unfold zPlF yPlF
    have hset : ySet τ 2 (Int32.ofNat i) (yOf pl) (yWt τ) = ySetF 2 (Int32.ofNat i) (yOf pl) (τ.2.2.1 41) (τ.2.2.1 42) (τ.2.2.1 43) fi 0 (τ.2.2.1 33) (τ.2.2.1 44) := by
      have e : xWc σ = yWt τ := h.wt
      rw [hall, e]
      rfl
    have hf := aR_fill (vl := yOf pl) h (tg := 200 + Int32.ofNat i) (kd := 2) (x := Int32.ofNat i) (by rw [int200 (by omega) (by omega), show (2 : Int32).toInt = 2 from rfl]; omega) (by decide) ⟨by omega, by omega⟩
    rw [zOf_yOf, ← epl, hset]
    rcases hf with ⟨a, b⟩ | ⟨W1, G1, I, O, a, b, c, d⟩
    · have a' : zFill (200 + Int32.ofNat i) (yOf pl) (σ.1 11 11) (σ.2.2.1 21) (σ.2.2.1 20) (xWc σ).toInt.toNat 0 W G = none := a
      rw [a', b]
      exact .inl ⟨rfl, rfl⟩
    · have a' : zFill (200 + Int32.ofNat i) (yOf pl) (σ.1 11 11) (σ.2.2.1 21) (σ.2.2.1 20) (xWc σ).toInt.toNat 0 W G = some (W1, G1) := a
      rw [a', b]
      dsimp only
      by_cases hp : yPlc pl
      · rw [if_pos (plc_zy.2 hp), if_pos hp]
        have hO := ySetF_O _ _ _ _ _ _ b
        have c0 : aR (zWG (zAs σ V pl W G) W1 G1) (zOI τ O I 0) fi := aRf.mk (pl := h.pl) (plv := h.plv) (cn := h.cn) (nm := h.nm) (vl := h.vl) (dg := h.dg) (lc := h.lc) (lr := h.lr) (lt := h.lt) (wd := c) (wt := h.wt) (wr := h.wr) (fs := h.fs) (en := d) (wp := h.wp) (ln := h.ln)
          (kd := fun j hj ho => by
            have ho2 : ¬ O j = 0 := ho
            have g := hO j
            have hne : ¬ ((0 ≤ j ∧ j < 0 + fi) ∧ τ.2.2.1 41 j = 2 ∧ τ.2.2.1 42 j = Int32.ofNat i) := fun q => ho2 (g.1 q)
            exact h.kd j hj (by rw [← g.2 hne]; exact ho2))
        have c1 := aR_put c0 (show yPlc (yPl τ) by rw [← epl]; exact hp) (w := τ.2.2.1 38 i) (by rw [← hlit.1]; exact hlit.2)
        have c2 : aRf (pl + 1) (xCn σ) (xLc σ) (xWc σ) (σ.1 11 11) (σ.2.2.2.1 13) V (upd W1 pl.toNatClampNeg (τ.2.2.1 38 i)) (σ.2.2.1 23) (σ.2.2.1 24) G1 (σ.2.2.1 20) (σ.2.2.1 21) (yPl τ + 1) (yCn τ) (yLc τ) (yWt τ) (τ.2.2.2.1 35) (upd I (yPl τ).toNatClampNeg (τ.2.2.1 38 i)) (upd (τ.2.2.1 34) (yPl τ).toNatClampNeg (vp_nar .boolean 1)) (τ.2.2.1 36) (τ.2.2.1 37) (τ.2.2.1 38) (τ.2.2.1 39) (τ.2.2.1 40) (τ.2.2.1 41) (τ.2.2.1 42) (τ.2.2.1 43) O fi := c1
        rw [← hlit.1] at c2
        have c3 : aR (zAs σ V (pl + 1) (upd W1 pl.toNatClampNeg (σ.2.2.1 23 i)) G1) (yPl1 τ i (I, O)) fi := by
          have c4 : aRf (pl + 1) (xCn σ) (xLc σ) (xWc σ) (σ.1 11 11) (σ.2.2.2.1 13) V (upd W1 pl.toNatClampNeg (σ.2.2.1 23 i)) (σ.2.2.1 23) (σ.2.2.1 24) G1 (σ.2.2.1 20) (σ.2.2.1 21) (yPl τ + 1) (yCn τ) (yLc τ) (yWt τ) (τ.2.2.2.1 35) (upd I (yPl τ).toNatClampNeg (τ.2.2.1 38 i)) (upd (τ.2.2.1 34) (yPl τ).toNatClampNeg (vp_nar .boolean 1)) (τ.2.2.1 36) (τ.2.2.1 37) (τ.2.2.1 38) (τ.2.2.1 39) (τ.2.2.1 40) (τ.2.2.1 41) (τ.2.2.1 42) (τ.2.2.1 43) O fi := by
            rw [← hlit.1]
            exact c2
          exact c4
        have kf : kF τ (yPl1 τ i (I, O)) := by
          refine ⟨⟨rfl, rfl, rfl⟩, rfl, fun _ => rfl, rfl, rfl, rfl, rfl, rfl, fun j hj => ?_, fun j hj => hj⟩
          show O j = τ.2.2.1 44 j
          refine (hO j).2 (fun q => ?_)
          have q1 : τ.2.2.1 41 j = 2 := q.2.1
          rw [hj] at q1
          exact absurd q1 (by decide)
        have ih := pl_ok (V := V) hall k (i + 1) _ _ _ _ (by omega) c3 (fun j hj ho hk => by
          have ho2 : ¬ O j = 0 := ho
          have hk2 : τ.2.2.1 41 j = 2 := hk
          have g := hO j
          have hne : ¬ ((0 ≤ j ∧ j < 0 + fi) ∧ τ.2.2.1 41 j = 2 ∧ τ.2.2.1 42 j = Int32.ofNat i) := fun q => ho2 (g.1 q)
          have h3 := h2 j hj (by rw [← g.2 hne]; exact ho2) hk2
          show ((i + 1 : Nat) : Int) ≤ (τ.2.2.1 42 j).toInt
          have : ¬ (τ.2.2.1 42 j).toInt = (i : Int) := fun q => hne ⟨⟨by omega, by rw [hall]; omega⟩, hk2, Int32.toInt_inj.mp (by omega)⟩
          omega)
        rcases ih with ⟨e1, e2⟩ | ⟨pl', W', G', τ', e1, e2, e3, e4, e5, e6⟩
        · exact .inl ⟨e1, e2⟩
        · exact .inr ⟨pl', W', G', τ', e1, e2, e3, kF_tr kf e4, e5, e6⟩
      · rw [if_neg (fun q => hp (plc_zy.1 q)), if_neg hp]
        exact .inl ⟨rfl, rfl⟩
theorem yOpn_iff {O : Nat → Int32} : ∀ (k i : Nat), yOpn O k i ↔ ∃ j, i ≤ j ∧ j < i + k ∧ ¬ O j = 0
  | 0, i => ⟨fun h => h.elim, fun ⟨j, a, b, _⟩ => by omega⟩
  | k + 1, i => by
    have ih := yOpn_iff (O := O) k (i + 1)
    show (¬ O i = 0 ∨ yOpn O k (i + 1)) ↔ _
    rw [ih]
    constructor
    · rintro (h | ⟨j, a, b, c⟩)
      · exact ⟨i, by omega, by omega, h⟩
      · exact ⟨j, by omega, by omega, c⟩
    · rintro ⟨j, a, b, c⟩
      by_cases e : j = i
      · left
        rw [← e]
        exact c
      · exact .inr ⟨j, by omega, by omega, c⟩
/-- a digit is awaited -/
theorem zDa_iff (h : aR σ τ fi) : zDa (σ.2.2.1 19) (xWc σ) ↔ ∃ j, j < (xWc σ).toNatClampNeg ∧ ¬ τ.2.2.1 44 j = 0 ∧ τ.2.2.1 41 j = 1 := by
  have hr := h.wr
  have hcc := tn_i hr.1
  have hen := h.en
  have hle := zSc_le (fun k => !decide (¬ σ.2.2.1 19 k.toNatClampNeg < 100 ∧ σ.2.2.1 19 k.toNatClampNeg < 200)) (xWc σ) 0
  have key : ∀ j, j < (xWc σ).toNatClampNeg → ((¬ σ.2.2.1 19 j < 100 ∧ σ.2.2.1 19 j < 200) ↔ (¬ τ.2.2.1 44 j = 0 ∧ τ.2.2.1 41 j = 1)) := fun j hj => by
    obtain ⟨h1, h2, h3⟩ := hen j hj
    simp only [Int32.lt_iff_toInt_lt, show (100 : Int32).toInt = 100 from rfl, show (200 : Int32).toInt = 200 from rfl]
    have e1 : τ.2.2.1 41 j = 1 ↔ (τ.2.2.1 41 j).toInt = 1 := ⟨fun q => by rw [q]; rfl, fun q => Int32.toInt_inj.mp q⟩
    rw [e1]
    rcases h1 with ⟨a, b⟩ | ⟨a, b⟩
    · rw [a, i_m1]
      exact ⟨fun q => by omega, fun q => absurd b q.1⟩
    · rw [a]
      exact ⟨fun q => ⟨b, by omega⟩, fun q => by omega⟩
  show zSc (fun k => !decide (¬ σ.2.2.1 19 k.toNatClampNeg < 100 ∧ σ.2.2.1 19 k.toNatClampNeg < 200)) (xWc σ) 0 < xWc σ ↔ _
  constructor
  · intro g
    have g' := Int32.lt_iff_toInt_lt.mp g
    have e1 := hle.2.2 g'
    rw [Bool.not_eq_false'] at e1
    have e2 := of_decide_eq_true e1
    rw [i0] at hle
    have e3 := tn_i hle.1
    exact ⟨_, by omega, (key _ (by omega)).1 e2⟩
  · rintro ⟨j, hj, hk⟩
    rw [Int32.lt_iff_toInt_lt]
    apply Decidable.byContradiction
    intro g
    have e5 := zOfI (n := j) (by omega)
    have := zSc_all (p := fun k => !decide (¬ σ.2.2.1 19 k.toNatClampNeg < 100 ∧ σ.2.2.1 19 k.toNatClampNeg < 200)) (e := xWc σ) (a := 0) (k := Int32.ofNat j) (by rw [i0, e5]; omega) (by rw [e5]; omega)
    rw [tn_of (by omega)] at this
    have k2 := (key j hj).2 hk
    simp [k2] at this
/-- the end on both sides -/
theorem fin_ok (h : aR σ τ fi) (hall : fi = (xWc σ).toNatClampNeg) (hb : yB τ = 0) (he : ¬ σ.1 11 10 = 0) : (xFin σ = none ∧ (yFin τ = none ∨ ∃ τ1, yFin τ = some τ1 ∧ yOpn (τ1.2.2.1 44) (yWt τ1).toInt.toNat 0)) ∨ ∃ V pl W G τ1, xFin σ = some (V, pl, W, G) ∧ yFin τ = some τ1 ∧ ¬ yOpn (τ1.2.2.1 44) (yWt τ1).toInt.toNat 0 ∧ aR (zAs σ V pl W G) τ1 fi ∧ kF τ τ1 ∧ (∀ j, j < (xCn σ).toNatClampNeg → ¬ τ1.2.2.1 36 j = 0) := by
  have hda := zDa_iff h
  have h0 : aR (zAs σ (σ.2.2.1 14) (xPl σ) (σ.2.2.1 22) (σ.2.2.1 19)) τ fi := h
  have hps := ps_ok (σ := σ) hall (xCn σ).toInt.toNat 0 _ _ _ _ _ (Nat.zero_add _) h0
  have ecn : xCn σ = yCn τ := h.cn
  have elc : xLc σ = yLc τ := h.lc
  have ewt : xWc σ = yWt τ := h.wt
  have hfin : yFin τ = (match yPsF (xCn σ).toInt.toNat 0 τ with
    | none => none
    | some τ1 => yPlF (yLc τ1).toInt.toNat 0 τ1) := by
    rw [ecn]
    rfl
  rcases hps with ⟨p1, p2⟩ | ⟨V, pl, W, G, τ1, p1, p2, p3, p4, p5⟩
  · left
    rw [hfin, p2]
    refine ⟨?_, .inl rfl⟩
    show (if σ.1 11 10 = 0 ∨ zDa (σ.2.2.1 19) (xWc σ) then none else match xPsF σ with
      | none => none
      | some x => _) = none
    split
    · rfl
    · have p1' : xPsF σ = none := p1
      rw [p1']
  · have hpl := pl_ok (σ := σ) (V := V) hall (xLc σ).toInt.toNat 0 pl W G τ1 (Nat.zero_add _) p3 (fun j hj ho hk => by
      have := (p3.en j hj).2.2.1
      show ((0 : Nat) : Int) ≤ (τ1.2.2.1 42 j).toInt
      omega)
    have hx : xFin σ = (if σ.1 11 10 = 0 ∨ zDa (σ.2.2.1 19) (xWc σ) then none else match zPlF (σ.1 11 11) (σ.2.2.1 21) (σ.2.2.1 20) (σ.2.2.1 23) (xWc σ).toInt.toNat (xLc σ).toInt.toNat 0 pl W G with
      | none => none
      | some y => some (V, y)) := by
      have p1' : xPsF σ = some (V, pl, W, G) := p1
      show (if σ.1 11 10 = 0 ∨ zDa (σ.2.2.1 19) (xWc σ) then none else match xPsF σ with
        | none => none
        | some x => match zPlF (σ.1 11 11) (σ.2.2.1 21) (σ.2.2.1 20) (σ.2.2.1 23) (xWc σ).toInt.toNat (xLc σ).toInt.toNat 0 x.2.1 x.2.2.1 x.2.2.2 with
          | none => none
          | some y => some (x.1, y)) = _
      rw [p1']
    have hlc1 : yLc τ1 = xLc σ := by rw [elc]; exact p4.2.2.2.2.2.2.1
    rw [hfin, p2]
    dsimp only
    rw [hlc1]
    rcases hpl with ⟨q1, q2⟩ | ⟨pl', W', G', τ2, q1, q2, q3, q4, q5, q6⟩
    · left
      refine ⟨?_, .inl q2⟩
      rw [hx]
      split
      · rfl
      · rw [q1]
    · have kf := kF_tr p4 q4
      have hwt2 : yWt τ2 = xWc σ := by rw [ewt]; exact kf.2.2.2.2.2.1
      have hall36 : ∀ j, j < (xCn σ).toNatClampNeg → ¬ τ2.2.2.1 36 j = 0 := fun j hj => by
        rw [q5]
        exact p5 j (by omega) (by show j < 0 + (xCn σ).toNatClampNeg; omega)
      have hop : yOpn (τ2.2.2.1 44) (yWt τ2).toInt.toNat 0 ↔ zDa (σ.2.2.1 19) (xWc σ) := by
        rw [hda, hwt2, yOpn_iff]
        constructor
        · rintro ⟨j, _, b, c⟩
          have hj : j < (xWc σ).toNatClampNeg := by
            show j < (xWc σ).toInt.toNat
            omega
          have hrg := (q3.en j hj).2
          have hk2 := q6 j hj c
          have hk0 : ¬ τ2.2.2.1 41 j = 0 := fun e => by
            have hh : (τ2.2.2.1 42 j).toInt < (yCn τ2).toInt ∧ τ2.2.2.1 36 (τ2.2.2.1 42 j).toNatClampNeg = 0 := (q3.kd j hj c).1 e
            have e1 : yCn τ2 = xCn σ := by rw [ecn]; exact kf.2.2.2.2.2.2.2.1
            rw [e1] at hh
            have h30 : 0 ≤ (xCn σ).toInt ∧ (xCn σ).toInt ≤ 30 := h.nm.1
            have t1 := tn_i hrg.2.1
            have t2 := tn_i h30.1
            exact hall36 _ (by omega) hh.2
          have hk1 : τ2.2.2.1 41 j = 1 := by
            have n0 : ¬ (τ2.2.2.1 41 j).toInt = 0 := fun q => hk0 (Int32.toInt_inj.mp q)
            have n2 : ¬ (τ2.2.2.1 41 j).toInt = 2 := fun q => hk2 (Int32.toInt_inj.mp q)
            have n1 := hrg.1
            apply Int32.toInt_inj.mp
            show (τ2.2.2.1 41 j).toInt = 1
            omega
          have hk1' : τ.2.2.1 41 j = 1 := by rw [← kf.2.2.2.1]; exact hk1
          refine ⟨j, hj, ?_, hk1'⟩
          rw [← kf.2.2.2.2.2.2.2.2.1 j hk1']
          exact c
        · rintro ⟨j, a, b, c⟩
          refine ⟨j, by omega, ?_, ?_⟩
          · have a' : j < (xWc σ).toInt.toNat := a
            omega
          · rw [kf.2.2.2.2.2.2.2.2.1 j c]
            exact b
      by_cases hz : zDa (σ.2.2.1 19) (xWc σ)
      · left
        refine ⟨?_, .inr ⟨τ2, q2, hop.2 hz⟩⟩
        rw [hx, if_pos (.inr hz)]
      · right
        refine ⟨V, pl', W', G', τ2, ?_, q2, fun k => hz (hop.1 k), q3, kf, hall36⟩
        rw [hx, if_neg (fun k => k.elim he hz), q1]
