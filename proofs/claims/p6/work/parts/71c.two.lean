/-! TWO CALLS, and back to the head; ERASE; what is kept -/
section TX
variable {v5 : Value} {call : Nat → List Value → mH → Option (mO × mH)} {ρ : List Int} {c0 hc : mH}
theorem two_ok (h5 : nFv v5) (hcl : ∀ ce as h r, call ce as h = some r ↔ ∃ n, zEv v5 15 n ce as h = some r) {bk : rR → Bool} {g : rF} {hp : List rC} {hl : Value} {c1 c2 : Nat} {a1 a2 a1c a2c : List Value} {f : Nat → Int32} (hg : g.length ≤ 1000) (hck : nTwo bk g hp hl c1 a1 c2 a2 = true) (hO : rOk ρ g) (hh : rHr c0 ρ (hp, hl) hc) (hkc : yqC hc) (x1 : hc[168]? = some (some (.inl (2, 240, .inl f)))) (x2 : hc[190]? = some (some (.inl (0, 240, .inl f)))) (hr : ∀ k, k < 240 → 0 ≤ (f k).toInt ∧ (f k).toInt ≤ 255) (hB : shB (nKn hp g.length) = true) (ha1 : rEs ρ a1 = some a1c) (ha2 : rEs ρ a2 = some a2c) : shP hc ∧ ∃ v1 h1 v2 h2, call c1 a1c hc = some (.inl (some (.int v1)), h1) ∧ call c2 a2c h1 = some (.inl (some (.int v2)), h2) ∧ (∃ n g1, zEv v5 15 n c1 a1c (hN hc) = some (.inl (some (.int v1)), g1) ∧ mLe g1 h1) ∧ (∃ n g2, zEv v5 15 n c2 a2c (hN h1) = some (.inl (some (.int v2)), g2) ∧ mLe g2 h2) ∧ h1.take 158 = hc.take 158 ∧ h2.take 158 = h1.take 158 ∧ shP h1 ∧ shP h2 ∧ ∃ r2 ex, bk r2 = true ∧ rOk (ρ ++ ex) r2.1 ∧ rHr c0 (ρ ++ ex) r2.2.2 h2 := by
  have hlen := hO.1
  have hO' : rOk (ρ ++ [(f 0).toInt]) (g ++ [(0, 255)]) := hO.push (hr 0 (by decide)).1 (hr 0 (by decide)).2 (by decide) (by decide)
  have hh' : rHr c0 (ρ ++ [(f 0).toInt]) (nKn hp g.length, hl) hc := rHr_kn (by omega) (rHr_ext _ hh) hkc x1 x2 hr (by rw [← hlen, List.getElem?_append_right (Nat.le_refl _), Nat.sub_self]; rfl)
  have hs : shP hc := shP_of hB hh'
  unfold nTwo at hck
  split at hck
  · cases hck
  · rename_i rs hrs
    rw [List.all_eq_true] at hck
    obtain ⟨r1, m1, ex1, o1, v1, h1, b1, b2, b3, b4⟩ := one_ok h5 hcl hrs hO' (rEs_ext _ ha1) hh' hs (fun r hr => by
      have := hck r hr
      rw [Bool.and_eq_true] at this
      exact this.1)
    have hk1 := hck r1 m1
    rw [Bool.and_eq_true, Bool.and_eq_true] at hk1
    obtain ⟨_, hB1, hk1⟩ := hk1
    have hs1 : shP h1 := shP_of (w := r1.2.2.2) hB1 b1
    split at hk1
    · cases hk1
    · rename_i rs2 hrs2
      rw [List.all_eq_true] at hk1
      obtain ⟨r2, m2, ex2, o2, v2, h2, d1, d2, d3, d4⟩ := one_ok h5 hcl hrs2 o1 (rEs_ext _ (rEs_ext _ ha2)) b1 hs1 (fun r hr => by
        have := hk1 r hr
        rw [Bool.and_eq_true] at this
        exact this.1)
      have hk2 := hk1 r2 m2
      rw [Bool.and_eq_true, Bool.and_eq_true] at hk2
      obtain ⟨_, hB2, hbk⟩ := hk2
      have hs2 : shP h2 := shP_of (w := r2.2.2.2) hB2 d1
      have e : ρ ++ [(f 0).toInt] ++ ex1 ++ ex2 = ρ ++ ([(f 0).toInt] ++ ex1 ++ ex2) := by simp only [List.append_assoc]
      rw [e] at o2 d1
      exact ⟨hs, v1, h1, v2, h2, b2, d2, b3, d3, b4, d4, hs1, hs2, r2, _, hbk, o2, d1⟩
/-- back to the head -/
theorem back_ok {ρh : List Int} {lcc : mL} {r2 : rR} {h2 : mH} {ex : List Int} (hbk : nBk r2 = true) (o2 : rOk (ρ ++ ex) r2.1) (d1 : rHr c0 (ρ ++ ex) r2.2.2 h2) (hρ : ∃ e, ρ = ρh ++ e) (hρl : ρh.length = nTf.length) (hlc : rEv ρ nLc5 = some lcc) : ∃ zs, rRe h2 (ρh.take 8 ++ zs) nT lcc h2 ∧ rPo2 (23, nT, nLp, 8) ρh zs := by
  obtain ⟨e, he⟩ := hρ
  unfold nBk at hbk
  obtain ⟨_, zs, z1, z2⟩ := rBack_ok (c0 := h2) (s := (r2.1, 23, nLc5, [], (nUn r2.2.2.1, r2.2.2.2))) (c := (23, nT, nLp, 8)) (lc := lcc) (hc := h2) (ρh := ρh) o2 (rEv_ext _ hlc) (rHr_un (w := r2.2.2.2) d1) ⟨e ++ ex, by rw [he, List.append_assoc]⟩ (by rw [hρl]; decide) hρl hbk
  exact ⟨zs, z1, z2⟩
theorem back_m {ρh : List Int} {lcc : mL} {r2 : rR} {h2 : mH} {ex : List Int} (hbk : nBm r2 = true) (o2 : rOk (ρ ++ ex) r2.1) (d1 : rHr c0 (ρ ++ ex) r2.2.2 h2) (hs : shP h2) (hk : yqS h2) (hρ : ∃ e, ρ = ρh ++ e) (hρl : ρh.length = nTf.length) (hlc : rEv ρ nLc5 = some lcc) : ∃ zs, rRe h2 (ρh.take 8 ++ zs) nT lcc h2 ∧ rPo2 (23, nT, nLp, 8) ρh zs := by
  obtain ⟨e, he⟩ := hρ
  unfold nBm at hbk
  obtain ⟨_, zs, z1, z2⟩ := rBack_ok (c0 := h2) (s := (r2.1, 23, nLc5, [], (nMg (nUn r2.2.2.1), r2.2.2.2))) (c := (23, nT, nLp, 8)) (lc := lcc) (hc := h2) (ρh := ρh) o2 (rEv_ext _ hlc) (rHr_mg hs (rHr_un (w := r2.2.2.2) d1) hk.1) ⟨e ++ ex, by rw [he, List.append_assoc]⟩ (by rw [hρl]; decide) hρl hbk
  exact ⟨zs, z1, z2⟩
/-- what a run did not name is as before; the texts' length is number 26, the number of symbols 47 -/
theorem keep {l : List rC} {w : Value} {f : Nat → Int32} {len : Int32} {z y : Int} (hok : nOk l = true) (hh : rHr c0 ρ (l, w) hc) (hx : xTx c0 f len) (hk : yqC c0) (hz : ρ[26]? = some z) (hy : ρ[47]? = some y) : xTx hc f (Int32.ofInt z) ∧ yqC hc ∧ k6 (zOf hc) = (Int32.ofInt y, Int32.ofInt y, (zOf c0).2.2.2.1 16, (zOf c0).2.2.1 17, (zOf c0).2.2.2.1 45, (zOf c0).2.2.1 46) := by
  unfold nOk at hok
  rw [Bool.and_eq_true, Bool.and_eq_true] at hok
  obtain ⟨_, hA, hB⟩ := hok
  have hv : ∀ {id : Nat} {z : Int}, id < 60000 → ρ[id]? = some z → rE ρ (rMk id 0) = some (.int (Int32.ofInt z)) := by
    intro id z hid hz
    obtain ⟨q, e1, e2, e3⟩ := rMk_id (id := id) (off := 0) hid (by omega) (by omega)
    rw [e1, rE_f, e2, e3, hz]
    show some (Value.int (Int32.ofInt (z + 0))) = _
    rw [Int.add_zero]
  split at hB
  · rename_i b1 b2 b3 b4 b5 b6
    have p1 : hc[168]? = c0[168]? := hh.2.2.1 168 (by decide) (.inr b1)
    have p2 : hc[190]? = c0[190]? := hh.2.2.1 190 (by decide) (.inr b2)
    have p3 : hc[158 + 16]? = c0[158 + 16]? := hh.2.2.1 174 (by decide) (.inr b3)
    have p4 : hc[158 + 17]? = c0[158 + 17]? := hh.2.2.1 175 (by decide) (.inr b4)
    have p5 : hc[158 + 45]? = c0[158 + 45]? := hh.2.2.1 203 (by decide) (.inr b5)
    have p6 : hc[158 + 46]? = c0[158 + 46]? := hh.2.2.1 204 (by decide) (.inr b6)
    have r3 : gB hc 16 = gB c0 16 := by unfold gB; rw [p3]
    have r4 : gA hc 17 = gA c0 17 := by unfold gA; rw [p4]
    have r5 : gB hc 45 = gB c0 45 := by unfold gB; rw [p5]
    have r6 : gA hc 46 = gA c0 46 := by unfold gA; rw [p6]
    split at hA
    · rename_i gs ks hs a1 a3 a2
      simp only [Bool.and_eq_true, decide_eq_true_eq] at hA
      obtain ⟨⟨hA1, hA2⟩, hA3, hA4⟩ := hA
      obtain ⟨u, u1, u2⟩ := hh.2.1 167 _ a1
      obtain ⟨w, w1, w2⟩ := hh.2.1 183 _ a2
      obtain ⟨n, n1, n2⟩ := hh.2.1 173 _ a3
      obtain ⟨g, g1, g2⟩ := u2.obj (by decide)
      obtain ⟨k, k1, k2⟩ := w2.obj (by decide)
      obtain ⟨m, m1, m2⟩ := n2.obj (by decide)
      rw [g2] at u1
      rw [k2] at w1
      rw [m2] at n1
      obtain ⟨y1, y2, y3⟩ := rEs_get g1 hA1
      obtain ⟨t1, t2, t3⟩ := rEs_get k1 hA2
      obtain ⟨s1, s2, s3⟩ := rEs_get m1 hA3
      obtain ⟨q1, q2, q3⟩ := rEs_get k1 hA4
      rw [hv (by decide) hz] at y3 t3
      rw [hv (by decide) hy] at s3 q3
      cases y3
      cases t3
      cases s3
      cases q3
      have r1 : gI hc 15 2 = Int32.ofInt y := by
        unfold gI
        rw [show hc[158 + 15]? = some (some (.inr (5, m))) from n1]
        dsimp only
        rw [s2]
      have r2 : gI hc 25 42 = Int32.ofInt y := by
        unfold gI
        rw [show hc[158 + 25]? = some (some (.inr (7, k))) from w1]
        dsimp only
        rw [q2]
      refine ⟨⟨p1.trans hx.1, p2.trans hx.2.1, ⟨_, u1, y2⟩, ⟨_, w1, t2⟩⟩, ⟨?_, ?_, ?_, ?_⟩, ?_⟩
      · rw [p3, hk.1]
        show (some (some (.inl (1, 30, .inr (.inl (gB c0 16))))) : Option mC) = some (some (.inl (1, 30, .inr (.inl (gB hc 16)))))
        rw [r3]
      · rw [p4, hk.2.1]
        show (some (some (.inl (0, 30, .inl (gA c0 17)))) : Option mC) = some (some (.inl (0, 30, .inl (gA hc 17))))
        rw [r4]
      · rw [p5, hk.2.2.1]
        show (some (some (.inl (1, 30, .inr (.inl (gB c0 45))))) : Option mC) = some (some (.inl (1, 30, .inr (.inl (gB hc 45)))))
        rw [r5]
      · rw [p6, hk.2.2.2]
        show (some (some (.inl (0, 30, .inl (gA c0 46)))) : Option mC) = some (some (.inl (0, 30, .inl (gA hc 46))))
        rw [r6]
      · show (gI hc 15 2, gI hc 25 42, gB hc 16, gA hc 17, gB hc 45, gA hc 46) = (_, _, gB c0 16, gA c0 17, gB c0 45, gA c0 46)
        rw [r1, r2, r3, r4, r5, r6]
    · cases hA
  · cases hB
/-- fewer symbols: what is known of them -/
theorem yqF_lt {σ τ : zS} {c : Int32} (hk : yqF σ) (h0 : 0 ≤ c.toInt) (hc : c.toInt ≤ (σ.1 15 2).toInt) (e : k6 τ = (c, c, σ.2.2.2.1 16, σ.2.2.1 17, σ.2.2.2.1 45, σ.2.2.1 46)) : yqF τ := by
  simp only [k6, Prod.mk.injEq] at e
  obtain ⟨a, b, c1, d, e, f⟩ := e
  unfold yqF
  rw [a, b, c1, d, e, f]
  refine ⟨rfl, fun i hi => hk.2 i ?_⟩
  have e1 := tn_i h0
  have e2 := tn_i (x := σ.1 15 2) (by omega)
  omega
theorem xTx_un {f g : Nat → Int32} {a b : Int32} (h1 : xTx hc f a) (h2 : xTx hc g b) : f = g ∧ a = b := by
  obtain ⟨a1, _, ⟨u, u1, u2⟩, _⟩ := h1
  obtain ⟨b1, _, ⟨w, w1, w2⟩, _⟩ := h2
  rw [a1] at b1
  rw [u1] at w1
  cases b1
  cases w1
  rw [u2] at w2
  cases w2
  exact ⟨rfl, rfl⟩
end TX
