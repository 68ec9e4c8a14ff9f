/-! WHAT THE CALLS COME TO, on heaps: write, erase, assemble -/
section OP
variable {v5 : Value} {c0 h h1 h2 g1 g2 : mH} {σ1 τ2 : zS} {f : Nat → Int32} {len : Int32} {d n d' n' : Nat} {o1 o2 : mO}
/-- the texts of a heap, and its processors -/
theorem nR_of (hp : pQ (zOf h2) (zOf h2)) (hx : xTx h2 f len) (ht : okT f len) (h0 : 0 ≤ ((zOf h2).1 7 7).toInt) (h1 : ((zOf h2).1 2 8).toInt ≤ ((zOf h2).1 7 7).toInt) : nR h2 f len := by
  obtain ⟨a, b⟩ := xTx_12.1 hx
  exact ⟨hp, tx1_of a, tx2_of b, ht, h0, h1⟩
theorem nR_tx (hr : nR h f len) (hs : shP h) : xTx h f len := by
  obtain ⟨_, r2, r3, _⟩ := hr
  exact xTx_12.2 ⟨tx1_to (σ := zOf h) r2.1 r2.2 (hs.2 10 (by decide)) (hs.2 9 (by decide)), tx2_to (σ := zOf h) r3.1 r3.2 (hs.2 32 (by decide)) (hs.2 25 (by decide))⟩
theorem erase_n (hz : zC0 (h.take 158)) (hs : shP h) (hr : nR h f len) (e1 : zEv v5 d n 5 [.ref 158] (hN h) = some (o1, g1)) (m1 : mLe g1 h1) (ho : h1.take 158 = h.take 158) (e2 : zEv v5 d' n' 6 [.ref 183] (hN h1) = some (o2, g2)) (m2 : mLe g2 h2) : opN h h2 f 0 := by
  have hl := hz.1
  rw [hN_of ho] at e2
  have b1 := z5 hz e1
  have b2 := z6 hz e2
  cases b1
  cases b2
  have k1 := cK_le hl m1
  have q1 := qK_le hl m1
  have k2 := cK_le hl m2
  have q2 := qK_le hl m2
  obtain ⟨r1, r2, r3, r4, r5, r6⟩ := hr
  have kc : cK (zOf h2) = cK (zI (zOf h) 9 1 0) := k2.trans k1
  have hp0 : pQ (zI (zOf h) 9 1 0) (zOf h1) := pQ_cg (σ := zI (zOf h) 9 1 0) (τ := zOf h) rfl q1 (pR9.mk r1.M r1.R r1.tg r1.id r1.pl r1.st r1.sd r1.sw r1.tp r1.bk r1.un rfl r1.cr r1.li r1.wM r1.wR r1.wT r1.wC r1.tb r1.bb r1.sb)
  have hp1 : pQ (zI (zOf h) 9 1 0) (zI (zI (zOf h1) 25 0 0) 25 18 0) := pR9.mk hp0.M hp0.R hp0.tg hp0.id hp0.pl hp0.st hp0.sd hp0.sw hp0.tp hp0.bk hp0.un rfl hp0.cr hp0.li hp0.wM hp0.wR hp0.wT hp0.wC hp0.tb hp0.bb hp0.sb
  have hp : pQ (zOf h2) (zOf h2) := pQ_cg kc q2 hp1
  have hq := kc
  simp only [cK, Prod.mk.injEq] at hq
  have tq := q1
  simp only [qK, Prod.mk.injEq] at tq
  have tq2 := q2
  simp only [qK, Prod.mk.injEq] at tq2
  have es : (zOf h2).1 7 7 = (zOf h).1 7 7 := hq.2.2.2.2.1
  have el : (zOf h2).1 2 8 = (zOf h).1 2 8 := hq.2.2.2.2.2.2.2.2.2.2.1
  refine ⟨⟨hp, ⟨hq.2.2.2.2.2.2.2.2.2.2.2.2.2.2.2.2.2.2.trans r2.1, hq.2.2.2.2.2.2.2.2.2.2.2.1⟩, ⟨(tq2.2.2.2.2.2.2.2.2.2.2.2.2.2.2.2.2.trans tq.2.2.2.2.2.2.2.2.2.2.2.2.2.2.2.2).trans r3.1, tq2.2.2.2.2.2.2.2.2.2.1⟩, ⟨⟨by decide, by decide⟩, fun k k0 k1 => r4.2.1 k k0 (by have := r4.1.1; have e0 : (0 : Int32).toInt = 0 := rfl; omega), r4.2.2⟩, by rw [es]; exact r5, by rw [es, el]; exact r6⟩, ?_⟩
  show ((zOf h2).1 7 7).toInt ≤ ((zOf h).1 7 7).toInt + 500
  rw [es]
  omega
theorem write_n {E : Int64} {nn : Int32} (hz : zC0 (h.take 158)) (hs : shP h) (hr : nR h f len) (e1 : zEv v5 d n 3 [.ref 158, .long E, .int nn, .ref 205] (hN h) = some (o1, g1)) (m1 : mLe g1 h1) (ho : h1.take 158 = h.take 158) (e2 : zEv v5 d' n' 4 [.ref 183, .long E, .int nn] (hN h1) = some (o2, g2)) (m2 : mLe g2 h2) : ∃ f' len', opN h h2 f' len' := by
  have hl := hz.1
  obtain ⟨f', len', x1, x2⟩ := write_ex hz (nR_tx hr hs) hr.2.2.2.1 e1 m1 ho e2 m2
  obtain ⟨d1, n1, r35, a1, a2, a3, a4⟩ := inv3 (h158 hl) e1
  rw [hN_of ho] at e2
  obtain ⟨o, σ', c1, c2⟩ := z35 hz _ _ _ _ _ _ rfl a1
  obtain ⟨o', σ4, c3, c4⟩ := z4 hz _ _ _ _ _ _ rfl e2
  obtain ⟨r1, r2, r3, r4, r5, r6⟩ := hr
  -- behind the class's call
  have cls : ∃ σ1, cK (zOf h1) = cK σ1 ∧ qK (zOf h1) = qK (zOf h) ∧ pQ σ1 (zOf h) ∧ σ1.1 7 7 = (zOf h).1 7 7 ∧ σ1.1 2 8 = (zOf h).1 2 8 := by
    rcases c1 with ⟨q1, q2, q3⟩ | ⟨q1, q2, q3, q4⟩ | ⟨q1, q2, q3, q4⟩
    · subst q2 q3
      have e := a3 _ _ c2
      cases e
      exact ⟨zOf h, cK_le (σ := zX (zOf h) 0) hl m1, qK_le (σ := zX (zOf h) 0) hl m1, r1, rfl, rfl⟩
    · subst q3 q4
      have e := a4 _ _ c2
      cases e
      exact ⟨zOf h, cK_le (σ := zX (zOf h) 1) hl m1, qK_le (σ := zX (zOf h) 1) hl m1, r1, rfl, rfl⟩
    · subst q3 q4
      have e := a2 _ _ ((zOf h).2.2.2.1 47) c2 (zH_get (k := 47) hl (by decide))
      cases e
      exact ⟨zI (zApp (zOf h) E nn.toInt.toNat) 9 1 ((zOf h).1 9 1 + nn), cK_le5 hl m1, qK_le5 (σ := zI (zApp (zOf h) E nn.toInt.toNat) 9 1 ((zOf h).1 9 1 + nn)) hl m1, pR9.mk r1.M r1.R r1.tg r1.id r1.pl r1.st r1.sd r1.sw r1.tp r1.bk r1.un rfl r1.cr r1.li r1.wM r1.wR r1.wT r1.wC r1.tb r1.bb r1.sb, rfl, rfl⟩
  obtain ⟨σ1, k1, q1, hp1, s1, s2⟩ := cls
  have hp2 : pQ σ1 (zOf h1) := pQ_cg rfl q1 hp1
  have ref : ∃ τ2, cK (zOf h2) = cK τ2 ∧ qK (zOf h2) = qK τ2 ∧ cK τ2 = cK (zOf h1) ∧ pQ σ1 τ2 := by
    rcases c3 with ⟨q1, q2, q3⟩ | ⟨q1, q2, q3, q4⟩ | ⟨q1, q2, q3, q4⟩
    · subst q2 q3
      cases c4
      exact ⟨_, cK_le hl m2, qK_le hl m2, rfl, pR9.mk hp2.M hp2.R hp2.tg hp2.id hp2.pl hp2.st hp2.sd hp2.sw hp2.tp hp2.bk hp2.un rfl hp2.cr hp2.li hp2.wM hp2.wR hp2.wT hp2.wC hp2.tb hp2.bb hp2.sb⟩
    · subst q3 q4
      cases c4
      exact ⟨_, cK_le hl m2, qK_le hl m2, rfl, pR9.mk hp2.M hp2.R hp2.tg hp2.id hp2.pl hp2.st hp2.sd hp2.sw hp2.tp hp2.bk hp2.un rfl hp2.cr hp2.li hp2.wM hp2.wR hp2.wT hp2.wC hp2.tb hp2.bb hp2.sb⟩
    · subst q3 q4
      cases c4
      exact ⟨_, cK_le hl m2, qK_le hl m2, rfl, pR9.mk hp2.M hp2.R hp2.tg hp2.id hp2.pl hp2.st hp2.sd hp2.sw hp2.tp hp2.bk hp2.un rfl hp2.cr hp2.li hp2.wM hp2.wR hp2.wT hp2.wC hp2.tb hp2.bb hp2.sb⟩
  obtain ⟨τ2, k2, q2, k3, hp3⟩ := ref
  have kc : cK (zOf h2) = cK σ1 := k2.trans (k3.trans k1)
  have hq := kc
  simp only [cK, Prod.mk.injEq] at hq
  have es : (zOf h2).1 7 7 = (zOf h).1 7 7 := hq.2.2.2.2.1.trans s1
  have el : (zOf h2).1 2 8 = (zOf h).1 2 8 := hq.2.2.2.2.2.2.2.2.2.2.1.trans s2
  refine ⟨f', len', nR_of (pQ_cg kc q2 hp3) x1 x2 (by rw [es]; exact r5) (by rw [es, el]; exact r6), ?_⟩
  show ((zOf h2).1 7 7).toInt ≤ ((zOf h).1 7 7).toInt + 500
  rw [es]
  omega
/-- frames of an assembling -/
theorem cK_z {σ σ1 : zS} (hz : zFr σ σ1) : cK σ1 = cK σ ∧ qK σ1 = qK σ := by
  constructor
  · show (σ1.1 7 3, σ1.1 7 4, σ1.1 7 5, σ1.1 7 6, σ1.1 7 7, σ1.1 7 8, σ1.1 7 9, σ1.1 2 5, σ1.1 2 6, σ1.1 2 7, σ1.1 2 8, σ1.1 9 1, σ1.2.2.1 1, σ1.2.2.1 8, σ1.2.2.1 3, σ1.2.2.1 6, σ1.2.2.1 4, σ1.2.2.1 5, σ1.2.2.1 10) = _
    rw [hz.1 7 3 rfl, hz.1 7 4 rfl, hz.1 7 5 rfl, hz.1 7 6 rfl, hz.1 7 7 rfl, hz.1 7 8 rfl, hz.1 7 9 rfl, hz.1 2 5 rfl, hz.1 2 6 rfl, hz.1 2 7 rfl, hz.1 2 8 rfl, hz.1 9 1 rfl, hz.2.2.1 1 rfl, hz.2.2.1 8 rfl, hz.2.2.1 3 rfl, hz.2.2.1 6 rfl, hz.2.2.1 4 rfl, hz.2.2.1 5 rfl, hz.2.2.1 10 rfl]
  · show (σ1.1 25 3, σ1.1 25 5, σ1.1 25 6, σ1.1 25 10, σ1.1 25 8, σ1.1 25 9, σ1.1 25 12, σ1.1 25 13, σ1.1 25 15, σ1.1 25 18, σ1.2.2.1 26, σ1.2.2.1 27, σ1.2.2.1 28, σ1.2.2.1 29, σ1.2.2.1 30, σ1.2.2.1 31, σ1.2.2.1 32) = _
    rw [hz.1 25 3 rfl, hz.1 25 5 rfl, hz.1 25 6 rfl, hz.1 25 10 rfl, hz.1 25 8 rfl, hz.1 25 9 rfl, hz.1 25 12 rfl, hz.1 25 13 rfl, hz.1 25 15 rfl, hz.1 25 18 rfl, hz.2.2.1 26 rfl, hz.2.2.1 27 rfl, hz.2.2.1 28 rfl, hz.2.2.1 29 rfl, hz.2.2.1 30 rfl, hz.2.2.1 31 rfl, hz.2.2.1 32 rfl]
theorem cK_y {σ σ1 : zS} (hz : yFr σ σ1) : cK σ1 = cK σ ∧ qK σ1 = qK σ := by
  constructor
  · show (σ1.1 7 3, σ1.1 7 4, σ1.1 7 5, σ1.1 7 6, σ1.1 7 7, σ1.1 7 8, σ1.1 7 9, σ1.1 2 5, σ1.1 2 6, σ1.1 2 7, σ1.1 2 8, σ1.1 9 1, σ1.2.2.1 1, σ1.2.2.1 8, σ1.2.2.1 3, σ1.2.2.1 6, σ1.2.2.1 4, σ1.2.2.1 5, σ1.2.2.1 10) = _
    rw [hz.1 7 3 rfl, hz.1 7 4 rfl, hz.1 7 5 rfl, hz.1 7 6 rfl, hz.1 7 7 rfl, hz.1 7 8 rfl, hz.1 7 9 rfl, hz.1 2 5 rfl, hz.1 2 6 rfl, hz.1 2 7 rfl, hz.1 2 8 rfl, hz.1 9 1 rfl, hz.2.2.1 1 rfl, hz.2.2.1 8 rfl, hz.2.2.1 3 rfl, hz.2.2.1 6 rfl, hz.2.2.1 4 rfl, hz.2.2.1 5 rfl, hz.2.2.1 10 rfl]
  · show (σ1.1 25 3, σ1.1 25 5, σ1.1 25 6, σ1.1 25 10, σ1.1 25 8, σ1.1 25 9, σ1.1 25 12, σ1.1 25 13, σ1.1 25 15, σ1.1 25 18, σ1.2.2.1 26, σ1.2.2.1 27, σ1.2.2.1 28, σ1.2.2.1 29, σ1.2.2.1 30, σ1.2.2.1 31, σ1.2.2.1 32) = _
    rw [hz.1 25 3 rfl, hz.1 25 5 rfl, hz.1 25 6 rfl, hz.1 25 10 rfl, hz.1 25 8 rfl, hz.1 25 9 rfl, hz.1 25 12 rfl, hz.1 25 13 rfl, hz.1 25 15 rfl, hz.1 25 18 rfl, hz.2.2.1 26 rfl, hz.2.2.1 27 rfl, hz.2.2.1 28 rfl, hz.2.2.1 29 rfl, hz.2.2.1 30 rfl, hz.2.2.1 31 rfl, hz.2.2.1 32 rfl]
/-- what an assembling lays down -/
theorem lay_ok {W S I M : Nat → Int32} (h : vlR 200 W S I) (hM : ∀ j, j < 200 → wOk (M j)) : zCw W M 200 = yMw S I M 200 ∧ ∀ j, j < 200 → wOk (yMw S I M 200 j) := by
  have e : zCw W M 200 = yMw S I M 200 := by
    funext k
    unfold zCw yMw
    by_cases hk : k < 200
    · rcases h k hk with ⟨a, b⟩ | ⟨a, b, c⟩
      · rw [if_neg (fun z => z.2 a), if_neg (fun z => z.2 b)]
      · rw [if_pos ⟨hk, fun z => by rw [z] at a; exact absurd a (by decide)⟩, if_pos ⟨hk, c⟩, b]
    · rw [if_neg (fun z => hk z.1), if_neg (fun z => hk z.1)]
  refine ⟨e, fun j hj => ?_⟩
  unfold yMw
  rcases h j hj with ⟨a, b⟩ | ⟨a, b, c⟩
  · rw [if_neg (fun z => z.2 b)]
    exact hM j hj
  · rw [if_pos ⟨hj, c⟩, ← b]
    exact a
theorem pQ_asm {σ τ : zS} (h : pQ σ τ) {M' : Nat → Int32} (hw : ∀ j, j < 200 → wOk (M' j)) {σ' τ' : zS} {x : Int32} (hc : cK σ' = cK (zI (zI (zA σ 1 M') 7 5 x) 7 6 0)) (hq : qK τ' = qK (zI (zI (zA τ 26 M') 25 6 x) 25 10 0)) : pQ σ' τ' := pQ_cg hc hq (pR9.mk rfl h.R h.tg h.id rfl rfl h.sd h.sw h.tp h.bk h.un rfl h.cr h.li hw h.wR h.wT h.wC h.tb h.bb (show (0 : Int) ≤ (0 : Int32).toInt by decide))
theorem asm_n (hz : zC0 (h.take 158)) (hs : shP h) (hr : nR h f len) (e1 : zEv v5 d n 7 [.ref 158, .ref 205] (hN h) = some (o1, g1)) (m1 : mLe g1 h1) (ho : h1.take 158 = h.take 158) (e2 : zEv v5 d' n' 8 [.ref 183] (hN h1) = some (o2, g2)) (m2 : mLe g2 h2) : opN h h2 f len := by
  have hl := hz.1
  have hx := nR_tx hr hs
  have ht := hr.2.2.2.1
  obtain ⟨x7, x8, _⟩ := asm_ex hz hx ht.1 ht.2.1 e1 m1 ho e2 m2
  obtain ⟨d1, n1, r38, a1, a2, a3⟩ := inv7 (h158 hl) e1
  rw [hN_of ho] at e2
  have t0 := txt_of hx
  have t7 := txt_of x7
  have has := asm_ok hz (σ := zOf h) (τ := zOf h1) ((show xT (zOf h) = f from t0.1).trans (show yT (zOf h1) = f from t7.2.1).symm) (t0.2.2.1.trans t7.2.2.2.symm) (by rw [t7.2.2.2]; exact ht.1) (by rw [t7.2.2.2, show yT (zOf h1) = f from t7.2.1]; exact ht.2.1) a1 e2
  obtain ⟨r1, r2, r3, r4, r5, r6⟩ := hr
  rcases has with ⟨σ1, τ1, k, b1, b2, b3, b4⟩ | ⟨σ1, τ1, V, pl, W, G, fi, b1, b2, b3, b4, b5, b6, b7⟩
  · have e := a3 _ _ b1
    cases e
    cases b2
    obtain ⟨u1, u2⟩ := cK_z b3
    obtain ⟨w1, w2⟩ := cK_y b4
    have k1 : cK (zOf h1) = cK (zOf h) := (cK_le hl m1).trans u1
    have q1 : qK (zOf h1) = qK (zOf h) := (qK_le hl m1).trans u2
    exact same_n hl ⟨r1, r2, r3, r4, r5, r6⟩ k1 q1 m2 (show cK τ1 = cK (zOf h1) from w1) (show qK τ1 = qK (zOf h1) from w2)
  · have e := a2 _ _ ((zDone σ1 V pl W G).2.2.2.1 47) b1 (zH_get (k := 47) hl (by decide))
    cases e
    cases b2
    obtain ⟨u1, u2⟩ := cK_z b6
    obtain ⟨w1, w2⟩ := cK_y b7
    have k1 : cK (zOf h1) = cK (zDone σ1 V pl W G) := cK_le5 hl m1
    have q1 : qK (zOf h1) = qK (zOf h) := (qK_le5 hl m1).trans u2
    have k2 : cK (zOf h2) = cK (zDone σ1 V pl W G) := (cK_le hl m2).trans ((show cK (yDone τ1) = cK (zOf h1) from w1).trans k1)
    have q2 := qK_le hl m2
    have hp : pQ σ1 τ1 := pQ_cg (σ := zOf h) (τ := zOf h) u1 ((show qK τ1 = qK (zOf h1) from w2).trans q1) r1
    have hM : σ1.2.2.1 1 = τ1.2.2.1 26 := hp.M
    obtain ⟨l1, l2⟩ := lay_ok (M := τ1.2.2.1 26) b4.wd hp.wM
    have hA : pQ (zOf h2) (zOf h2) := by
      refine pQ_asm (x := τ1.1 25 25) hp l2 (k2.trans ?_) (q2.trans ?_)
      · show cK (zI (zI (zA σ1 1 (zCw W (σ1.2.2.1 1) 200)) 7 5 (σ1.1 11 9)) 7 6 0) = _
        rw [b3, hM]
        exact congrArg (fun z => cK (zI (zI (zA σ1 1 z) 7 5 (τ1.1 25 25)) 7 6 0)) l1
      · rfl
    have hq := k2
    simp only [cK, Prod.mk.injEq] at hq
    have hu := u1
    simp only [cK, Prod.mk.injEq] at hu
    have es : (zOf h2).1 7 7 = (zOf h).1 7 7 := hq.2.2.2.2.1.trans hu.2.2.2.2.1
    have el : (zOf h2).1 2 8 = (zOf h).1 2 8 := hq.2.2.2.2.2.2.2.2.2.2.1.trans hu.2.2.2.2.2.2.2.2.2.2.1
    refine ⟨nR_of hA x8 ht (by rw [es]; exact r5) (by rw [es, el]; exact r6), ?_⟩
    show ((zOf h2).1 7 7).toInt ≤ ((zOf h).1 7 7).toInt + 500
    rw [es]
    omega
end OP
