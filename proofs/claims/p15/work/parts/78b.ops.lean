/-! WHAT THE CALLS COME TO, on heaps: step, go, poke, word, register -/
def ansH (h : mH) (v1 v2 : Int32) : Prop := (∃ gs : List Value, h[158 + 25]? = some (some (.inr (7, gs))) ∧ gs[(0 : Nat)]? = some (.int v1)) ∧ (v1 = 0 → ∃ q : Nat → Int64, h[158 + 47]? = some (some (.inl (1, 1, .inr (.inl q)))) ∧ q 0 = v2.toInt64)
abbrev nR (h : mH) (f : Nat → Int32) (len : Int32) : Prop := pT (zOf h) (zOf h) f len
abbrev sdN (h : mH) : Int := ((zOf h).1 7 7).toInt
/-- behind two calls: both relations, the answers, the count of steps -/
def opR (h h2 : mH) (f : Nat → Int32) (len : Int32) (o1 o2 : mO) : Prop := nR h2 f len ∧ sdN h2 ≤ sdN h + 500 ∧ ∃ v1 v2, o1 = .inl (some (.int v1)) ∧ o2 = .inl (some (.int v2)) ∧ ansH h2 v1 v2
section OP
variable {v5 : Value} {c0 h h1 h2 g1 g2 : mH} {σ1 τ2 : zS} {f : Nat → Int32} {len : Int32} {d n d' n' : Nat} {o1 o2 : mO}
theorem cls_ok {F : Nat → Int64} {x : Int64} (hl : c0.length = 158) (hm : mLe ((zH c0 σ1).set 205 (some (.inl (1, 1, .inr (.inl (vp_updL F 0 x)))))) h1) : cK (zOf h1) = cK σ1 ∧ qK (zOf h1) = qK σ1 ∧ (zOf h1).2.2.2.1 47 0 = x := by
  refine ⟨cK_le5 hl hm, qK_le5 hl hm, ?_⟩
  have c : h1[158 + 47]? = some (some (.inl (1, 1, .inr (.inl (vp_updL F 0 x))))) := hm.2 _ _ (by
    rw [List.getElem?_set_self]
    have := zH_get (σ := σ1) (k := 47) hl (by decide)
    exact (List.getElem?_eq_some_iff.mp this).1)
  show gB h1 47 0 = _
  unfold gB
  rw [c]
  dsimp only
  rw [vp_updL_eq, if_pos rfl]
theorem op_fin {v1 v2 : Int32} {σ : zS} (hl : c0.length = 158) (A : pT σ1 τ2 f len) (k1 : cK (zOf h1) = cK σ1) (k2 : cK τ2 = cK (zOf h1)) (m2 : mLe (zH c0 τ2) h2) (code : τ2.1 25 0 = v1) (val : v1 = 0 → τ2.2.2.2.1 47 0 = v2.toInt64) (hs : (σ1.1 7 7).toInt ≤ sdN h + 500) : opR h h2 f len (.inl (some (.int v1))) (.inl (some (.int v2))) := by
  have kc := (cK_le hl m2).trans (k2.trans k1)
  refine ⟨pT_cg kc (qK_le hl m2) A, ?_, v1, v2, rfl, rfl, ⟨_, le_cell hl m2 (by decide) rfl, ?_⟩, fun hv => ⟨τ2.2.2.2.1 47, le_cell hl m2 (by decide) rfl, val hv⟩⟩
  · simp only [cK, Prod.mk.injEq] at kc
    show ((zOf h2).1 7 7).toInt ≤ _
    rw [kc.2.2.2.2.1]
    exact hs
  · show some (Value.int (τ2.1 25 0)) = _
    rw [code]
/-- nothing changed but what was thrown -/
theorem op_same {v1 v2 : Int32} (hl : c0.length = 158) (A : nR h f len) (k1 : cK (zOf h1) = cK (zOf h)) (q1 : qK (zOf h1) = qK (zOf h)) (m2 : mLe (zH c0 τ2) h2) (kc : cK τ2 = cK (zOf h1)) (kq : qK τ2 = qK (zOf h1)) (code : τ2.1 25 0 = v1) (val : v1 = 0 → τ2.2.2.2.1 47 0 = v2.toInt64) : opR h h2 f len (.inl (some (.int v1))) (.inl (some (.int v2))) := op_fin (σ := zOf h) (h1 := h1) (σ1 := zOf h) hl (pT_cg rfl (kq.trans q1) A) k1 kc m2 code val (Int.le_add_of_nonneg_right (by decide))
theorem h158 (hl : (h.take 158).length = 158) : (hN h)[158]? = some (some (.inr (0, [.ref 159, .ref 160, .ref 165, .ref 167, .ref 169]))) := zH_get (k := 0) hl (by decide)
theorem hN_of (ho : h1.take 158 = h.take 158) : hN h1 = zH (h.take 158) (zOf h1) := by
  show zH (h1.take 158) (zOf h1) = _
  rw [ho]
theorem st_pos {σ τ : zS} (h : pQ σ τ) : ¬ σ.1 7 6 = 0 ↔ 0 < τ.1 25 10 := by
  have e : σ.1 7 6 = τ.1 25 10 := h.st
  have s : 0 ≤ (τ.1 25 10).toInt := h.sb
  rw [e, Int32.lt_iff_toInt_lt, show (0 : Int32).toInt = 0 from rfl]
  constructor
  · intro q
    have : ¬ (τ.1 25 10).toInt = 0 := fun z => q (Int32.toInt_inj.mp z)
    omega
  · intro q z
    rw [z] at q
    exact absurd q (by decide)
theorem step_ex {k : Int32} (hz : zC0 (h.take 158)) (hb : bS (h.take 158)) (hr : nR h f len) (hsd : sdN h < 1000000000) (e1 : zEv v5 d n 13 [.ref 158, .int k, .ref 205] (hN h) = some (o1, g1)) (m1 : mLe g1 h1) (ho : h1.take 158 = h.take 158) (e2 : zEv v5 d' n' 14 [.ref 183, .int k] (hN h1) = some (o2, g2)) (m2 : mLe g2 h2) : opR h h2 f len o1 o2 := by
  have hl := hz.1
  obtain ⟨d1, n1, rc, a1, a2, a3, a4⟩ := inv13 (h158 hl) e1
  rw [hN_of ho] at e2
  have c1 := z43 hz hb a1
  have c2 := z14 hz e2
  rcases c1 with ⟨p, b1⟩ | ⟨p, q, b1⟩ | ⟨p, q, b1⟩
  · have e := a3 _ _ b1
    cases e
    have k1 := cK_le (σ := zX (zOf h) 0) hl m1
    have q1 := qK_le (σ := zX (zOf h) 0) hl m1
    rcases c2 with ⟨_, b2⟩ | ⟨p', _⟩ | ⟨p', _⟩
    · cases b2
      exact op_same hl hr k1 q1 m2 rfl rfl rfl (fun z => absurd z (by decide))
    · exact absurd p' p
    · exact absurd p' p
  · have e := a4 _ _ b1
    cases e
    have k1 := cK_le (σ := zX (zOf h) 1) hl m1
    have q1 := qK_le (σ := zX (zOf h) 1) hl m1
    have hst := st_pos (pQ_cg (σ := zOf h) (τ := zOf h) (σ' := zOf h) (τ' := zOf h1) rfl q1 hr.1)
    rcases c2 with ⟨p', _⟩ | ⟨_, _, b2⟩ | ⟨_, q', _⟩
    · exact absurd p p'
    · cases b2
      exact op_same hl hr k1 q1 m2 rfl rfl rfl (fun z => absurd z (by decide))
    · exact absurd (hst.mp q) q'
  · have e := a2 _ _ ((cIt k.toNatClampNeg (zOf h)).2.2.2.1 47) b1 (zH_get (k := 47) hl (by decide))
    cases e
    obtain ⟨k1, q1, w1⟩ := cls_ok hl m1
    have hk' := in500_i p
    have hn : (k.toNatClampNeg : Int) = k.toInt := tn_i (by omega)
    obtain ⟨r1, r2, r3, r4, r5, r6⟩ := hr
    have hf : cFr (zOf h) (cIt k.toNatClampNeg (zOf h)) := (it_ok k.toNatClampNeg r1 r5 (by show sdN h + _ < _; omega) r6).2.1
    have q2 : qK (zOf h1) = qK (zOf h) := q1.trans (qK_c hf)
    have hp : pQ (zOf h) (y0 (zOf h1)) := pQ_cg (σ := zOf h) (τ := zOf h) rfl (show qK (y0 (zOf h1)) = qK (zOf h) from q2) r1
    obtain ⟨i1, i2, i3, i4, i5, i6⟩ := it_ok k.toNatClampNeg hp r5 (by show sdN h + _ < _; omega) r6
    have hst := st_pos (pQ_cg (σ := zOf h) (τ := zOf h) (σ' := zOf h) (τ' := zOf h1) rfl q2 r1)
    rcases c2 with ⟨p', _⟩ | ⟨_, q', _⟩ | ⟨_, _, b2⟩
    · exact absurd p p'
    · exact absurd q (hst.mpr q')
    · cases b2
      have tq := q2
      simp only [qK, Prod.mk.injEq] at tq
      refine op_fin (σ := zOf h) hl ⟨i1, ⟨(i2.2 10 (by decide)).trans r2.1, (i2.1 9 (by decide) 1).trans r2.2⟩, ⟨((i3.2.2.1 32 (by decide)).trans tq.2.2.2.2.2.2.2.2.2.2.2.2.2.2.2.2).trans r3.1, ((i3.2.1 18 (by decide)).trans tq.2.2.2.2.2.2.2.2.2.1).trans r3.2⟩, r4, by omega, i6⟩ k1 ((cK_q i3).trans rfl) m2 (i3.2.1 0 (.inl rfl)) (fun _ => ?_) (by show _ ≤ sdN h + 500; have : sdN h = ((zOf h).1 7 7).toInt := rfl; omega)
      rw [i3.2.2.2]
      refine (show (y0 (zOf h1)).2.2.2.1 47 0 = _ from w1).trans ?_
      congr 1
      apply Int32.toInt_inj.mp
      rw [Int32.toInt_sub, i5, zOfI (by omega), bm32 (by omega) (by omega)]
      omega
theorem pQ_go {σ τ : zS} (h : pQ σ τ) (p : Int32) : pQ (zI (zI σ 7 5 p) 7 6 0) (zI (zI (y0 τ) 25 6 p) 25 10 0) := pR9.mk h.M h.R h.tg h.id rfl rfl h.sd h.sw h.tp h.bk h.un rfl h.cr h.li h.wM h.wR h.wT h.wC h.tb h.bb (show (0 : Int) ≤ (0 : Int32).toInt by decide)
theorem pQ_M {σ τ : zS} (h : pQ σ τ) {M' : Nat → Int32} (hw : ∀ j, j < 200 → wOk (M' j)) : pQ (zA σ 1 M') (zA (y0 τ) 26 M') := pR9.mk rfl h.R h.tg h.id h.pl h.st h.sd h.sw h.tp h.bk h.un rfl h.cr h.li hw h.wR h.wT h.wC h.tb h.bb h.sb
theorem go_ex {p : Int32} (hz : zC0 (h.take 158)) (hr : nR h f len) (e1 : zEv v5 d n 15 [.ref 158, .int p, .ref 205] (hN h) = some (o1, g1)) (m1 : mLe g1 h1) (ho : h1.take 158 = h.take 158) (e2 : zEv v5 d' n' 16 [.ref 183, .int p] (hN h1) = some (o2, g2)) (m2 : mLe g2 h2) : opR h h2 f len o1 o2 := by
  have hl := hz.1
  obtain ⟨d1, n1, rc, a1, a2, a3⟩ := inv15 (h158 hl) e1
  rw [hN_of ho] at e2
  obtain ⟨o, σ', c1, b1⟩ := z45 hz _ _ _ _ _ _ rfl a1
  have c2 := z16 hz e2
  rcases c1 with ⟨q, rfl, rfl⟩ | ⟨q, rfl, rfl⟩
  · have e := a3 _ _ b1
    cases e
    have k1 := cK_le (σ := zX (zOf h) 0) hl m1
    have q1 := qK_le (σ := zX (zOf h) 0) hl m1
    rcases c2 with ⟨_, b2⟩ | ⟨q', _⟩
    · cases b2
      exact op_same hl hr k1 q1 m2 rfl rfl rfl (fun z => absurd z (by decide))
    · exact absurd ((zPlc_q p).mpr q') q
  · have e := a2 _ _ ((zOf h).2.2.2.1 47) b1 (zH_get (k := 47) hl (by decide))
    cases e
    obtain ⟨k1, q1, w1⟩ := cls_ok hl m1
    have q2 : qK (zOf h1) = qK (zOf h) := q1
    obtain ⟨r1, r2, r3, r4, r5, r6⟩ := hr
    have hp : pQ (zOf h) (zOf h1) := pQ_cg (σ := zOf h) (τ := zOf h) rfl q2 r1
    have hst := st_pos hp
    have tq := q2
    simp only [qK, Prod.mk.injEq] at tq
    rcases c2 with ⟨q', _⟩ | ⟨_, b2⟩
    · exact absurd ((zPlc_q p).mp q) q'
    · cases b2
      refine op_fin (σ := zOf h) hl ⟨pQ_go hp p, r2, ⟨tq.2.2.2.2.2.2.2.2.2.2.2.2.2.2.2.2.trans r3.1, tq.2.2.2.2.2.2.2.2.2.1.trans r3.2⟩, r4, r5, r6⟩ k1 rfl m2 rfl (fun _ => ?_) (Int.le_add_of_nonneg_right (by decide))
      refine (show _ = _ from w1).trans ?_
      by_cases s : (zOf h).1 7 6 = 0
      · rw [if_pos s, if_neg (fun z => hst.mpr z s)]
        rfl
      · rw [if_neg s, if_pos (hst.mp s)]
        rfl
theorem poke_ex {p w : Int32} (hz : zC0 (h.take 158)) (hr : nR h f len) (e1 : zEv v5 d n 17 [.ref 158, .int p, .int w, .ref 205] (hN h) = some (o1, g1)) (m1 : mLe g1 h1) (ho : h1.take 158 = h.take 158) (e2 : zEv v5 d' n' 18 [.ref 183, .int p, .int w] (hN h1) = some (o2, g2)) (m2 : mLe g2 h2) : opR h h2 f len o1 o2 := by
  have hl := hz.1
  obtain ⟨d1, n1, rc, a1, a2, a3, a4⟩ := inv17 (h158 hl) e1
  rw [hN_of ho] at e2
  obtain ⟨o, σ', c1, b1⟩ := z47 hz _ _ _ _ _ _ rfl a1
  have c2 := z18 hz e2
  rcases c1 with ⟨q, rfl, rfl⟩ | ⟨q, q2, rfl, rfl⟩ | ⟨q, q2, rfl, rfl⟩
  · have e := a3 _ _ b1
    cases e
    have k1 := cK_le (σ := zX (zOf h) 2) hl m1
    have q1 := qK_le (σ := zX (zOf h) 2) hl m1
    rcases c2 with ⟨_, b2⟩ | ⟨q', _⟩ | ⟨q', _⟩
    · cases b2
      exact op_same hl hr k1 q1 m2 rfl rfl rfl (fun z => absurd z (by decide))
    · exact absurd ((zPlc_q p).mpr q') q
    · exact absurd ((zPlc_q p).mpr q') q
  · have e := a4 _ _ b1
    cases e
    have k1 := cK_le (σ := zX (zOf h) 0) hl m1
    have q1 := qK_le (σ := zX (zOf h) 0) hl m1
    rcases c2 with ⟨q', _⟩ | ⟨_, _, b2⟩ | ⟨_, q', _⟩
    · exact absurd ((zPlc_q p).mp q) q'
    · cases b2
      exact op_same hl hr k1 q1 m2 rfl rfl rfl (fun z => absurd z (by decide))
    · exact absurd q2 q'
  · have e := a2 _ _ ((zOf h).2.2.2.1 47) b1 (zH_get (k := 47) hl (by decide))
    cases e
    obtain ⟨k1, q1, w1⟩ := cls_ok hl m1
    have q2' : qK (zOf h1) = qK (zOf h) := q1
    obtain ⟨r1, r2, r3, r4, r5, r6⟩ := hr
    have hp : pQ (zOf h) (zOf h1) := pQ_cg (σ := zOf h) (τ := zOf h) rfl q2' r1
    have hM : pM (zOf h) = qM (zOf h1) := hp.M
    have tq := q2'
    simp only [qK, Prod.mk.injEq] at tq
    rcases c2 with ⟨q', _⟩ | ⟨_, q', _⟩ | ⟨_, _, b2⟩
    · exact absurd ((zPlc_q p).mp q) q'
    · exact absurd q' q2
    · cases b2
      have hw : wOk w := by
        show 0 ≤ w.toInt
        rw [Int32.lt_iff_toInt_lt, show (0 : Int32).toInt = 0 from rfl] at q2
        omega
      have hA : pQ (zA (zOf h) 1 (upd (pM (zOf h)) p.toNatClampNeg w)) (zA (y0 (zOf h1)) 26 (upd (qM (zOf h1)) p.toNatClampNeg w)) := by
        rw [hM]
        exact pQ_M hp (upd_w hp.wM _ hw)
      refine op_fin (σ := zOf h) hl ⟨hA, r2, ⟨tq.2.2.2.2.2.2.2.2.2.2.2.2.2.2.2.2.trans r3.1, tq.2.2.2.2.2.2.2.2.2.1.trans r3.2⟩, r4, r5, r6⟩ k1 rfl m2 rfl (fun _ => ?_) (Int.le_add_of_nonneg_right (by decide))
      refine (show _ = _ from w1).trans ?_
      rw [hM]
theorem word_ex {p : Int32} (hz : zC0 (h.take 158)) (hr : nR h f len) (e1 : zEv v5 d n 19 [.ref 158, .int p, .ref 205] (hN h) = some (o1, g1)) (m1 : mLe g1 h1) (ho : h1.take 158 = h.take 158) (e2 : zEv v5 d' n' 20 [.ref 183, .int p] (hN h1) = some (o2, g2)) (m2 : mLe g2 h2) : opR h h2 f len o1 o2 := by
  have hl := hz.1
  obtain ⟨d1, n1, rc, a1, a2, a3⟩ := inv19 (h158 hl) e1
  rw [hN_of ho] at e2
  obtain ⟨o, σ', c1, b1⟩ := z48 hz _ _ _ _ _ _ rfl a1
  have c2 := z20 hz e2
  rcases c1 with ⟨q, rfl, rfl⟩ | ⟨q, rfl, rfl⟩
  · have e := a3 _ _ b1
    cases e
    have k1 := cK_le (σ := zX (zOf h) 2) hl m1
    have q1 := qK_le (σ := zX (zOf h) 2) hl m1
    rcases c2 with ⟨_, b2⟩ | ⟨q', _⟩
    · cases b2
      exact op_same hl hr k1 q1 m2 rfl rfl rfl (fun z => absurd z (by decide))
    · exact absurd ((zPlc_q p).mpr q') q
  · have e := a2 _ _ ((zOf h).2.2.2.1 47) b1 (zH_get (k := 47) hl (by decide))
    cases e
    obtain ⟨k1, q1, w1⟩ := cls_ok hl m1
    have hp : pQ (zOf h) (zOf h1) := pQ_cg (σ := zOf h) (τ := zOf h) rfl q1 hr.1
    have hM : pM (zOf h) = qM (zOf h1) := hp.M
    rcases c2 with ⟨q', _⟩ | ⟨_, b2⟩
    · exact absurd ((zPlc_q p).mp q) q'
    · cases b2
      refine op_same hl hr k1 q1 m2 rfl rfl rfl (fun _ => ?_)
      refine (show _ = _ from w1).trans ?_
      rw [hM]
theorem rg_wi {p : Int32} : rg9 p ↔ wi p 0 8 := by
  show (¬ p < 0 ∧ p < 9) ↔ (¬ p < 0 ∧ ¬ 8 < p)
  rw [Int32.lt_iff_toInt_lt, Int32.lt_iff_toInt_lt, Int32.lt_iff_toInt_lt, show (0 : Int32).toInt = 0 from rfl, show (9 : Int32).toInt = 9 from rfl, show (8 : Int32).toInt = 8 from rfl]
  omega
theorem reg_ex {p : Int32} (hz : zC0 (h.take 158)) (hr : nR h f len) (e1 : zEv v5 d n 21 [.ref 158, .int p, .ref 205] (hN h) = some (o1, g1)) (m1 : mLe g1 h1) (ho : h1.take 158 = h.take 158) (e2 : zEv v5 d' n' 22 [.ref 183, .int p] (hN h1) = some (o2, g2)) (m2 : mLe g2 h2) : opR h h2 f len o1 o2 := by
  have hl := hz.1
  obtain ⟨d1, n1, rc, a1, a2, a3⟩ := inv21 (h158 hl) e1
  rw [hN_of ho] at e2
  obtain ⟨o, σ', c1, b1⟩ := z49 hz _ _ _ _ _ _ rfl a1
  have c2 := z22 hz e2
  rcases c1 with ⟨q, rfl, rfl⟩ | ⟨q, rfl, rfl⟩
  · have e := a3 _ _ b1
    cases e
    have k1 := cK_le (σ := zX (zOf h) 2) hl m1
    have q1 := qK_le (σ := zX (zOf h) 2) hl m1
    rcases c2 with ⟨_, b2⟩ | ⟨q', _⟩
    · cases b2
      exact op_same hl hr k1 q1 m2 rfl rfl rfl (fun z => absurd z (by decide))
    · exact absurd (rg_wi.mpr q') q
  · have e := a2 _ _ ((zOf h).2.2.2.1 47) b1 (zH_get (k := 47) hl (by decide))
    cases e
    obtain ⟨k1, q1, w1⟩ := cls_ok hl m1
    have hp : pQ (zOf h) (zOf h1) := pQ_cg (σ := zOf h) (τ := zOf h) rfl q1 hr.1
    have hR : pR (zOf h) = qR (zOf h1) := hp.R
    rcases c2 with ⟨q', _⟩ | ⟨_, b2⟩
    · exact absurd (rg_wi.mp q) q'
    · cases b2
      refine op_same hl hr k1 q1 m2 rfl rfl rfl (fun _ => ?_)
      refine (show _ = _ from w1).trans ?_
      rw [hR]
end OP
