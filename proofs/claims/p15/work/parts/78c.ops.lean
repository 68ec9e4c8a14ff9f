/-! WHAT THE CALLS COME TO, on heaps: card, printed, tape, state, line, symbol -/
def opN (h h2 : mH) (f : Nat → Int32) (len : Int32) : Prop := nR h2 f len ∧ sdN h2 ≤ sdN h + 500
theorem opR.n {h h2 : mH} {f : Nat → Int32} {len : Int32} {o1 o2 : mO} (q : opR h h2 f len o1 o2) : opN h h2 f len := ⟨q.1, q.2.1⟩
section OP
variable {v5 : Value} {c0 h h1 h2 g1 g2 : mH} {σ1 τ2 : zS} {f : Nat → Int32} {len : Int32} {d n d' n' : Nat} {o1 o2 : mO}
theorem pQ_cd {σ τ : zS} (h : pQ σ τ) {C C' : Nat → Int32} {cc cc' : Int32} (hc : crdR (σ.1 2 6) cc C cc' C') (hC : ∀ j, j < 4 * cc'.toInt.toNat → wOk (C' j)) : pQ (zI (zA σ 4 C) 2 7 cc) (zI (zA (y0 τ) 29 C') 25 13 cc') := pR9.mk h.M h.R h.tg h.id h.pl h.st h.sd h.sw h.tp h.bk h.un rfl hc h.li h.wM h.wR h.wT hC h.tb h.bb h.sb
theorem nn_w {a : Int32} (h : ¬ a < 0) : wOk a := by
  show 0 ≤ a.toInt
  rw [Int32.lt_iff_toInt_lt, show (0 : Int32).toInt = 0 from rfl] at h
  omega
theorem ycA_w {C : Nat → Int32} {n a b c e : Int32} (hn : 0 ≤ n.toInt ∧ n.toInt ≤ 6) (h4 : nn4 a b c e) (hC : ∀ j, j < 4 * n.toInt.toNat → wOk (C j)) : ∀ j, j < 4 * (n + 1).toInt.toNat → wOk (ycA C n a b c e j) := by
  intro j hj
  have e1 : (n + 1).toInt = n.toInt + 1 := by
    rw [Int32.toInt_add, show (1 : Int32).toInt = 1 from rfl, bm32 (by omega) (by omega)]
  have e5 : (4 * n).toInt = 4 * n.toInt := by
    rw [Int32.toInt_mul, show (4 : Int32).toInt = 4 from rfl, bm32 (by omega) (by omega)]
  have pl : ∀ (x : Int32) (k : Int32) (m : Nat), k.toInt = m → 0 ≤ x.toInt → x.toInt < 1000 → m < 10 → (x + k).toNatClampNeg = x.toInt.toNat + m := by
    intro x k m hk h0 h1 h2
    rw [tnN, Int32.toInt_add, hk, bm32 (by omega) (by omega)]
    omega
  rw [e1] at hj
  unfold ycA
  simp only [upd_eq]
  rw [pl _ 1 1 rfl (by omega) (by omega) (by omega), pl _ 2 2 rfl (by omega) (by omega) (by omega), pl _ 3 3 rfl (by omega) (by omega) (by omega), tnN, e5]
  split
  · exact nn_w h4.2.2.2
  · split
    · exact nn_w h4.2.2.1
    · split
      · exact nn_w h4.2.1
      · split
        · exact nn_w h4.1
        · exact hC j (by omega)
theorem card_ex {a b c e : Int32} (hz : zC0 (h.take 158)) (hr : nR h f len) (e1 : zEv v5 d n 23 [.ref 158, .int a, .int b, .int c, .int e, .ref 205] (hN h) = some (o1, g1)) (m1 : mLe g1 h1) (ho : h1.take 158 = h.take 158) (e2 : zEv v5 d' n' 24 [.ref 183, .int a, .int b, .int c, .int e] (hN h1) = some (o2, g2)) (m2 : mLe g2 h2) : opR h h2 f len o1 o2 := by
  have hl := hz.1
  obtain ⟨d1, n1, rc, a1, a2, a3, a4⟩ := inv23 (h158 hl) e1
  rw [hN_of ho] at e2
  obtain ⟨o, σ', c1, b1⟩ := z50 hz _ _ _ _ _ _ rfl a1
  have c2 := z24 hz e2
  rcases c1 with ⟨q, rfl, rfl⟩ | ⟨q, q2, rfl, rfl⟩ | ⟨q, q2, rfl, rfl⟩
  · have e := a3 _ _ b1
    cases e
    have k1 := cK_le (σ := zX (zOf h) 0) hl m1
    have q1 := qK_le (σ := zX (zOf h) 0) hl m1
    rcases c2 with ⟨_, b2⟩ | ⟨q', _⟩ | ⟨q', _⟩
    · cases b2
      exact op_same hl hr k1 q1 m2 rfl rfl rfl (fun z => absurd z (by decide))
    · exact absurd q' q
    · exact absurd q' q
  · have e := a4 _ _ b1
    cases e
    have k1 := cK_le (σ := zX (zOf h) 1) hl m1
    have q1 := qK_le (σ := zX (zOf h) 1) hl m1
    have hp : pQ (zOf h) (zOf h1) := pQ_cg (σ := zOf h) (τ := zOf h) rfl q1 hr.1
    have hcc : (zOf h).1 2 7 = (zOf h1).1 25 13 := hp.cr.1
    have hc6 : 0 ≤ ((zOf h).1 2 7).toInt ∧ ((zOf h).1 2 7).toInt ≤ 6 := hp.cr.2.1
    rw [Int32.lt_iff_toInt_lt, show (6 : Int32).toInt = 6 from rfl] at q2
    have e6 : (zOf h1).1 25 13 = 6 := by
      rw [← hcc]
      apply Int32.toInt_inj.mp
      rw [show (6 : Int32).toInt = 6 from rfl]
      omega
    rcases c2 with ⟨q', _⟩ | ⟨_, _, b2⟩ | ⟨_, q', _⟩
    · exact absurd q q'
    · cases b2
      exact op_same hl hr k1 q1 m2 rfl rfl rfl (fun z => absurd z (by decide))
    · exact absurd e6 q'
  · have e := a2 _ _ ((zOf h).2.2.2.1 47) b1 (zH_get (k := 47) hl (by decide))
    cases e
    obtain ⟨k1, q1, w1⟩ := cls_ok hl m1
    have q2' : qK (zOf h1) = qK (zOf h) := q1
    obtain ⟨r1, r2, r3, r4, r5, r6⟩ := hr
    have hp : pQ (zOf h) (zOf h1) := pQ_cg (σ := zOf h) (τ := zOf h) rfl q2' r1
    have hcc : (zOf h).1 2 7 = (zOf h1).1 25 13 := hp.cr.1
    have hc6 : 0 ≤ ((zOf h).1 2 7).toInt ∧ ((zOf h).1 2 7).toInt ≤ 6 := hp.cr.2.1
    have n6 : ¬ (zOf h).1 2 7 = 6 := fun z => by
      rw [z] at q2
      exact absurd q2 (by decide)
    have tq := q2'
    simp only [qK, Prod.mk.injEq] at tq
    rcases c2 with ⟨q', _⟩ | ⟨_, q', _⟩ | ⟨_, _, b2⟩
    · exact absurd q q'
    · exact absurd (hcc.trans q') n6
    · cases b2
      have hcr := crd_ad (a := a) (b := b) (c := c) (d := e) hp.cr n6
      have hA := pQ_cd hp hcr (ycA_w (show 0 ≤ ((zOf h1).1 25 13).toInt ∧ ((zOf h1).1 25 13).toInt ≤ 6 by rw [← hcc]; exact hc6) q hp.wC)
      refine op_fin (σ := zOf h) hl ⟨hA, r2, ⟨tq.2.2.2.2.2.2.2.2.2.2.2.2.2.2.2.2.trans r3.1, tq.2.2.2.2.2.2.2.2.2.1.trans r3.2⟩, r4, r5, r6⟩ k1 rfl m2 rfl (fun _ => ?_) (Int.le_add_of_nonneg_right (by decide))
      refine (show _ = _ from w1).trans ?_
      rw [hcc]
theorem pr_iff {σ τ : zS} (h : pQ σ τ) {k i : Int32} : prO σ k i ↔ ypO τ k i := by
  have hl : σ.1 2 8 = τ.1 25 15 := h.li.1
  show (¬ k < 0 ∧ k < (if 8 < σ.1 2 8 then 8 else σ.1 2 8) ∧ ¬ i < 0 ∧ i < 6) ↔ ((¬ k < 0 ∧ ¬ 7 < k) ∧ k < τ.1 25 15 ∧ (¬ i < 0 ∧ ¬ 5 < i))
  rw [hl]
  have e0 : (0 : Int32).toInt = 0 := rfl
  have e5 : (5 : Int32).toInt = 5 := rfl
  have e6 : (6 : Int32).toInt = 6 := rfl
  have e7 : (7 : Int32).toInt = 7 := rfl
  have e8 : (8 : Int32).toInt = 8 := rfl
  by_cases q : 8 < τ.1 25 15
  · rw [if_pos q]
    rw [Int32.lt_iff_toInt_lt, e8] at q
    simp only [Int32.lt_iff_toInt_lt, e0, e5, e6, e7, e8]
    omega
  · rw [if_neg q]
    rw [Int32.lt_iff_toInt_lt, e8] at q
    simp only [Int32.lt_iff_toInt_lt, e0, e5, e6, e7]
    omega
theorem pr_val {σ τ : zS} (h : pQ σ τ) {k i : Int32} (hq : ypO τ k i) : prW σ k i = τ.2.2.1 30 (6 * k + i).toNatClampNeg := by
  obtain ⟨hl, hl0, hr⟩ := h.li
  obtain ⟨⟨a1, a2⟩, a3, a4, a5⟩ := hq
  have hl : σ.1 2 8 = τ.1 25 15 := hl
  rw [← hl] at a3
  rw [Int32.lt_iff_toInt_lt] at a1 a2 a3 a4 a5
  rw [show (0 : Int32).toInt = 0 from rfl] at a1 a4
  rw [show (7 : Int32).toInt = 7 from rfl] at a2
  rw [show (5 : Int32).toInt = 5 from rfl] at a5
  have hlt := Int32.toInt_lt (σ.1 2 8)
  have e1 : (σ.1 2 8 - 1 - k).toInt = (σ.1 2 8).toInt - 1 - k.toInt := by
    rw [Int32.toInt_sub, Int32.toInt_sub, show (1 : Int32).toInt = 1 from rfl, bm32 (x := (σ.1 2 8).toInt - 1) (by omega) (by omega), bm32 (by omega) (by omega)]
  have e2 := rm32 (x := σ.1 2 8 - 1 - k) (l := 8) (by omega) (by decide)
  rw [e1, show (8 : Int32).toInt = 8 from rfl] at e2
  have e3 : ((σ.1 2 8 - 1 - k - (σ.1 2 8 - 1 - k) / 8 * 8) * 6 + i).toNatClampNeg = ((σ.1 2 8).toInt.toNat - 1 - k.toInt.toNat) % 8 * 6 + i.toInt.toNat := by
    rw [tnN, Int32.toInt_add, Int32.toInt_mul, e2, show (6 : Int32).toInt = 6 from rfl, bm32 (x := ((σ.1 2 8).toInt - 1 - k.toInt) % 8 * 6) (by omega) (by omega), bm32 (by omega) (by omega)]
    omega
  have e4 : (6 * k + i).toNatClampNeg = 6 * k.toInt.toNat + i.toInt.toNat := by
    rw [tnN, Int32.toInt_add, Int32.toInt_mul, show (6 : Int32).toInt = 6 from rfl, bm32 (x := 6 * k.toInt) (by omega) (by omega), bm32 (by omega) (by omega)]
    omega
  show σ.2.2.1 5 _ = _
  rw [e3, e4]
  exact hr k.toInt.toNat i.toInt.toNat (by omega) (by omega) (by omega)
theorem prt_ex {k i : Int32} (hz : zC0 (h.take 158)) (hr : nR h f len) (e1 : zEv v5 d n 25 [.ref 158, .int k, .int i, .ref 205] (hN h) = some (o1, g1)) (m1 : mLe g1 h1) (ho : h1.take 158 = h.take 158) (e2 : zEv v5 d' n' 26 [.ref 183, .int k, .int i] (hN h1) = some (o2, g2)) (m2 : mLe g2 h2) : opR h h2 f len o1 o2 := by
  have hl := hz.1
  obtain ⟨d1, n1, rc, a1, a2, a3⟩ := inv25 (h158 hl) e1
  rw [hN_of ho] at e2
  obtain ⟨o, σ', c1, b1⟩ := z51 hz _ _ _ _ _ _ rfl a1
  have c2 := z26 hz e2
  rcases c1 with ⟨q, rfl, rfl⟩ | ⟨q, rfl, rfl⟩
  · have e := a3 _ _ b1
    cases e
    have k1 := cK_le (σ := zX (zOf h) 2) hl m1
    have q1 := qK_le (σ := zX (zOf h) 2) hl m1
    have hp : pQ (zOf h) (zOf h1) := pQ_cg (σ := zOf h) (τ := zOf h) rfl q1 hr.1
    rcases c2 with ⟨_, b2⟩ | ⟨q', _⟩
    · cases b2
      exact op_same hl hr k1 q1 m2 rfl rfl rfl (fun z => absurd z (by decide))
    · exact absurd ((pr_iff hp).mpr q') q
  · have e := a2 _ _ ((zOf h).2.2.2.1 47) b1 (zH_get (k := 47) hl (by decide))
    cases e
    obtain ⟨k1, q1, w1⟩ := cls_ok hl m1
    have hp : pQ (zOf h) (zOf h1) := pQ_cg (σ := zOf h) (τ := zOf h) rfl q1 hr.1
    rcases c2 with ⟨q', _⟩ | ⟨q', b2⟩
    · exact absurd ((pr_iff hp).mp q) q'
    · cases b2
      refine op_same hl hr k1 q1 m2 rfl rfl rfl (fun _ => ?_)
      refine (show _ = _ from w1).trans ?_
      rw [pr_val hp q']
theorem tp_iff {b i : Int32} : tpO b i ↔ ytO b i := by
  show (¬ b < 0 ∧ b < 6 ∧ ¬ i < 0 ∧ i < 10) ↔ ((¬ b < 0 ∧ ¬ 5 < b) ∧ (¬ i < 0 ∧ ¬ 9 < i))
  simp only [Int32.lt_iff_toInt_lt, show (0 : Int32).toInt = 0 from rfl, show (5 : Int32).toInt = 5 from rfl, show (6 : Int32).toInt = 6 from rfl, show (9 : Int32).toInt = 9 from rfl, show (10 : Int32).toInt = 10 from rfl]
  omega
theorem tape_ex {k i : Int32} (hz : zC0 (h.take 158)) (hr : nR h f len) (e1 : zEv v5 d n 27 [.ref 158, .int k, .int i, .ref 205] (hN h) = some (o1, g1)) (m1 : mLe g1 h1) (ho : h1.take 158 = h.take 158) (e2 : zEv v5 d' n' 28 [.ref 183, .int k, .int i] (hN h1) = some (o2, g2)) (m2 : mLe g2 h2) : opR h h2 f len o1 o2 := by
  have hl := hz.1
  obtain ⟨d1, n1, rc, a1, a2, a3⟩ := inv27 (h158 hl) e1
  rw [hN_of ho] at e2
  obtain ⟨o, σ', c1, b1⟩ := z52 hz _ _ _ _ _ _ rfl a1
  have c2 := z28 hz e2
  rcases c1 with ⟨q, rfl, rfl⟩ | ⟨q, rfl, rfl⟩
  · have e := a3 _ _ b1
    cases e
    have k1 := cK_le (σ := zX (zOf h) 2) hl m1
    have q1 := qK_le (σ := zX (zOf h) 2) hl m1
    rcases c2 with ⟨_, b2⟩ | ⟨q', _⟩
    · cases b2
      exact op_same hl hr k1 q1 m2 rfl rfl rfl (fun z => absurd z (by decide))
    · exact absurd (tp_iff.mpr q') q
  · have e := a2 _ _ ((zOf h).2.2.2.1 47) b1 (zH_get (k := 47) hl (by decide))
    cases e
    obtain ⟨k1, q1, w1⟩ := cls_ok hl m1
    have hp : pQ (zOf h) (zOf h1) := pQ_cg (σ := zOf h) (τ := zOf h) rfl q1 hr.1
    have ht : (zOf h).2.2.1 3 = (zOf h1).2.2.1 28 := hp.tp
    rcases c2 with ⟨q', _⟩ | ⟨q', b2⟩
    · exact absurd (tp_iff.mp q) q'
    · cases b2
      refine op_same hl hr k1 q1 m2 rfl rfl rfl (fun _ => ?_)
      refine (show _ = _ from w1).trans ?_
      rw [ht, Int32.mul_comm]
theorem st_iff {w : Int32} : st7 w ↔ wi w 0 7 := by
  show (w = 0 ∨ w = 1 ∨ w = 2 ∨ w = 3 ∨ w = 4 ∨ w = 5 ∨ w = 6 ∨ w = 7) ↔ (¬ w < 0 ∧ ¬ 7 < w)
  constructor
  · rintro (rfl | rfl | rfl | rfl | rfl | rfl | rfl | rfl) <;> decide
  · intro ⟨a, b⟩
    have b8 : w < 8 := by
      rw [Int32.lt_iff_toInt_lt, show (7 : Int32).toInt = 7 from rfl] at b
      rw [Int32.lt_iff_toInt_lt, show (8 : Int32).toInt = 8 from rfl]
      omega
    obtain ⟨j, hj, rfl⟩ := f_lt (n := 8) rfl a b8
    have hj' : j = 0 ∨ j = 1 ∨ j = 2 ∨ j = 3 ∨ j = 4 ∨ j = 5 ∨ j = 6 ∨ j = 7 := by omega
    rcases hj' with rfl | rfl | rfl | rfl | rfl | rfl | rfl | rfl <;> decide
theorem st_val {σ τ : zS} (h : pQ σ τ) {w : Int32} (hw : st7 w) : cSt σ w = yStt τ w := by
  have a1 : σ.1 7 5 = τ.1 25 6 := h.pl
  have a2 : σ.1 7 7 = τ.1 25 8 := h.sd
  have a3 : σ.1 7 3 = τ.1 25 3 := h.tg
  have a4 : σ.1 7 4 = τ.1 25 5 := h.id
  have a5 : σ.1 7 6 = τ.1 25 10 := h.st
  have a6 : σ.1 2 8 = τ.1 25 15 := h.li.1
  have a7 : σ.1 2 5 = τ.1 25 12 := h.bk
  have a8 : σ.1 7 8 = τ.1 25 9 := h.sw
  unfold cSt yStt
  rw [a1, a2, a3, a4, a5, a6, a7, a8]
  rcases hw with rfl | rfl | rfl | rfl | rfl | rfl | rfl | rfl <;> rfl
theorem stat_ex {w : Int32} (hz : zC0 (h.take 158)) (hr : nR h f len) (e1 : zEv v5 d n 29 [.ref 158, .int w, .ref 205] (hN h) = some (o1, g1)) (m1 : mLe g1 h1) (ho : h1.take 158 = h.take 158) (e2 : zEv v5 d' n' 30 [.ref 183, .int w] (hN h1) = some (o2, g2)) (m2 : mLe g2 h2) : opR h h2 f len o1 o2 := by
  have hl := hz.1
  obtain ⟨d1, n1, rc, a1, a2, a3⟩ := inv29 (h158 hl) e1
  rw [hN_of ho] at e2
  obtain ⟨o, σ', c1, b1⟩ := z53 hz _ _ _ _ _ _ rfl a1
  have c2 := z30 hz e2
  rcases c1 with ⟨q, rfl, rfl⟩ | ⟨q, rfl, rfl⟩
  · have e := a3 _ _ b1
    cases e
    have k1 := cK_le (σ := zX (zOf h) 2) hl m1
    have q1 := qK_le (σ := zX (zOf h) 2) hl m1
    rcases c2 with ⟨_, b2⟩ | ⟨q', _⟩
    · cases b2
      exact op_same hl hr k1 q1 m2 rfl rfl rfl (fun z => absurd z (by decide))
    · exact absurd (st_iff.mpr q') q
  · have e := a2 _ _ ((zOf h).2.2.2.1 47) b1 (zH_get (k := 47) hl (by decide))
    cases e
    obtain ⟨k1, q1, w1⟩ := cls_ok hl m1
    have hp : pQ (zOf h) (zOf h1) := pQ_cg (σ := zOf h) (τ := zOf h) rfl q1 hr.1
    rcases c2 with ⟨q', _⟩ | ⟨q', b2⟩
    · exact absurd (st_iff.mp q) q'
    · cases b2
      refine op_same hl hr k1 q1 m2 rfl rfl rfl (fun _ => ?_)
      refine (show _ = _ from w1).trans ?_
      rw [st_val hp q]
theorem same_n (hl : c0.length = 158) (A : nR h f len) (k1 : cK (zOf h1) = cK (zOf h)) (q1 : qK (zOf h1) = qK (zOf h)) (m2 : mLe (zH c0 τ2) h2) (kc : cK τ2 = cK (zOf h1)) (kq : qK τ2 = qK (zOf h1)) : opN h h2 f len := by
  have e1 := (cK_le hl m2).trans (kc.trans k1)
  refine ⟨pT_cg e1 ((qK_le hl m2).trans (kq.trans q1)) A, ?_⟩
  simp only [cK, Prod.mk.injEq] at e1
  show ((zOf h2).1 7 7).toInt ≤ _
  rw [e1.2.2.2.2.1]
  exact Int.le_add_of_nonneg_right (by decide)
theorem line_ex (hz : zC0 (h.take 158)) (hr : nR h f len) (e1 : zEv v5 d n 9 [.ref 158] (hN h) = some (o1, g1)) (m1 : mLe g1 h1) (ho : h1.take 158 = h.take 158) (e2 : zEv v5 d' n' 10 [.ref 183] (hN h1) = some (o2, g2)) (m2 : mLe g2 h2) : opN h h2 f len := by
  have hl := hz.1
  rw [hN_of ho] at e2
  have b1 := z9 hz e1
  have b2 := z10 hz e2
  cases b1
  cases b2
  exact same_n hl hr (cK_le (σ := zOf h) hl m1) (qK_le (σ := zOf h) hl m1) m2 rfl rfl
theorem symb_ex {E : Int64} (hz : zC0 (h.take 158)) (hr : nR h f len) (e1 : zEv v5 d n 11 [.ref 158, .long E, .ref 205] (hN h) = some (o1, g1)) (m1 : mLe g1 h1) (ho : h1.take 158 = h.take 158) (e2 : zEv v5 d' n' 12 [.ref 183, .long E] (hN h1) = some (o2, g2)) (m2 : mLe g2 h2) : opN h h2 f len := by
  have hl := hz.1
  obtain ⟨d1, n1, rc, a1, a2, a3⟩ := inv11 (h158 hl) e1
  rw [hN_of ho] at e2
  obtain ⟨o, σ', c1, b1⟩ := z42 hz _ _ _ _ _ _ rfl a1
  have c2 := z12 hz e2
  have kk : cK (zOf h1) = cK (zOf h) ∧ qK (zOf h1) = qK (zOf h) := by
    rcases c1 with ⟨_, rfl, rfl⟩ | ⟨_, rfl, rfl⟩
    · have e := a3 _ _ b1
      cases e
      exact ⟨cK_le (σ := zX (zOf h) 3) hl m1, qK_le (σ := zX (zOf h) 3) hl m1⟩
    · have e := a2 _ _ ((zOf h).2.2.2.1 47) b1 (zH_get (k := 47) hl (by decide))
      cases e
      exact ⟨cK_le5 (σ := zOf h) hl m1, qK_le5 (σ := zOf h) hl m1⟩
  rcases c2 with ⟨_, b2⟩ | ⟨_, b2⟩
  · cases b2
    exact same_n hl hr kk.1 kk.2 m2 rfl rfl
  · cases b2
    exact same_n hl hr kk.1 kk.2 m2 rfl rfl
end OP
