/-! TWO CALLS, and back to the head; ERASE; what is kept -/
section TX
variable {v5 : Value} {call : Nat → List Value → mH → Option (mO × mH)} {ρ : List Int} {c0 hc : mH}
theorem two_ok (h5 : nFv v5) (hcl : ∀ ce as h r, call ce as h = some r ↔ ∃ n, zEv v5 15 n ce as h = some r) {g : rF} {hp : List rC} {hl : Value} {c1 c2 : Nat} {a1 a2 a1c a2c : List Value} {ρh : List Int} {f : Nat → Int32} {lcc : mL} (hg : g.length ≤ 1000) (hck : nTwo g hp hl c1 a1 c2 a2 = true) (hO : rOk ρ g) (hh : rHr c0 ρ (hp, hl) hc) (x1 : hc[168]? = some (some (.inl (2, 240, .inl f)))) (x2 : hc[190]? = some (some (.inl (0, 240, .inl f)))) (hr : ∀ k, k < 240 → 0 ≤ (f k).toInt ∧ (f k).toInt ≤ 255) (hB : shB (nKn hp g.length) = true) (ha1 : rEs ρ a1 = some a1c) (ha2 : rEs ρ a2 = some a2c) (hρ : ∃ e, ρ = ρh ++ e) (hρl : ρh.length = nTf.length) (hlc : rEv ρ nLc5 = some lcc) : shP hc ∧ ∃ v1 h1 v2 h2, call c1 a1c hc = some (.inl (some (.int v1)), h1) ∧ call c2 a2c h1 = some (.inl (some (.int v2)), h2) ∧ (∃ n g1, zEv v5 15 n c1 a1c (hN hc) = some (.inl (some (.int v1)), g1) ∧ mLe g1 h1) ∧ (∃ n g2, zEv v5 15 n c2 a2c (hN h1) = some (.inl (some (.int v2)), g2) ∧ mLe g2 h2) ∧ h1.take 158 = hc.take 158 ∧ h2.take 158 = h1.take 158 ∧ shP h1 ∧ ∃ zs, rRe h2 (ρh.take 8 ++ zs) nT lcc h2 ∧ rPo2 (23, nT, nLp, 8) ρh zs := by
  have hlen := hO.1
  have hO' : rOk (ρ ++ [(f 0).toInt]) (g ++ [(0, 255)]) := hO.push (hr 0 (by decide)).1 (hr 0 (by decide)).2 (by decide) (by decide)
  have hh' : rHr c0 (ρ ++ [(f 0).toInt]) (nKn hp g.length, hl) hc := rHr_kn (by omega) (rHr_ext _ hh) x1 x2 hr (by rw [← hlen, List.getElem?_append_right (Nat.le_refl _), Nat.sub_self]; rfl)
  have hs : shP hc := shP_of hB hh'
  unfold nTwo at hck
  split at hck
  · cases hck
  · rename_i rs hrs
    rw [List.all_eq_true] at hck
    obtain ⟨r1, m1, ex1, o1, v1, h1, b1, b2, b3, b4⟩ := one_ok h5 hcl hrs hO' (rEs_ext _ ha1) hh' hs (fun r hr => by
      have := hck r hr
      rw [Bool.and_eq_true] at this
      exact this.1)
    have hk1 := hck r1 m1
    rw [Bool.and_eq_true, Bool.and_eq_true] at hk1
    obtain ⟨_, hB1, hk1⟩ := hk1
    have hs1 : shP h1 := shP_of (w := r1.2.2.2) hB1 b1
    split at hk1
    · cases hk1
    · rename_i rs2 hrs2
      rw [List.all_eq_true] at hk1
      obtain ⟨r2, m2, ex2, o2, v2, h2, d1, d2, d3, d4⟩ := one_ok h5 hcl hrs2 o1 (rEs_ext _ (rEs_ext _ ha2)) b1 hs1 (fun r hr => by
        have := hk1 r hr
        rw [Bool.and_eq_true] at this
        exact this.1)
      have hk2 := hk1 r2 m2
      rw [Bool.and_eq_true] at hk2
      have hbk := hk2.2
      unfold nBk at hbk
      have hu : rHr h2 (ρ ++ [(f 0).toInt] ++ ex1 ++ ex2) (nUn r2.2.2.1, r2.2.2.2) h2 := rHr_un (w := r2.2.2.2) d1
      obtain ⟨e, he⟩ := hρ
      obtain ⟨_, zs, z1, z2⟩ := rBack_ok (c0 := h2) (s := (r2.1, 23, nLc5, [], (nUn r2.2.2.1, r2.2.2.2))) (c := (23, nT, nLp, 8)) (lc := lcc) (hc := h2) (ρh := ρh) o2 (rEv_ext _ (rEv_ext _ (rEv_ext _ hlc))) hu ⟨e ++ ([(f 0).toInt] ++ ex1 ++ ex2), by rw [he]; simp only [List.append_assoc]⟩ (by rw [hρl]; decide) hρl hbk
      exact ⟨hs, v1, h1, v2, h2, b2, d2, b3, d3, b4, d4, hs1, zs, z1, z2⟩
/-- erase, both sides -/
theorem z5 (h0 : zC0 c0) {d n : Nat} {σ : zS} {r : mO × mH} (hx : zEv v5 d n 5 [.ref 158] (zH c0 σ) = some r) : r = zOut c0 (.inl (some (.int (σ.1 9 1)))) (zI σ 9 1 0) := by
  obtain ⟨d', hx⟩ := zGo hx
  exact zTr (C := nC5) (tb := []) h0 rfl rfl trivial (fun _ => false) 60 hx
theorem z6 (h0 : zC0 c0) {d n : Nat} {σ : zS} {r : mO × mH} (hx : zEv v5 d n 6 [.ref 183] (zH c0 σ) = some r) : r = zOut c0 (.inl (some (.int (σ.1 25 18)))) (zI (zI σ 25 0 0) 25 18 0) := by
  obtain ⟨d', hx⟩ := zGo hx
  exact zTr (C := nC6) (tb := []) h0 rfl rfl trivial (fun _ => false) 60 hx
theorem erase_ex {d n d' n' : Nat} {h h3 h4 g3 g4 : mH} {o3 o4 : mO} {f : Nat → Int32} {len : Int32} (hz : zC0 (h.take 158)) (hx : xTx h f len) (e3 : zEv v5 d n 5 [.ref 158] (hN h) = some (o3, g3)) (m3 : mLe g3 h3) (ho : h3.take 158 = h.take 158) (e4 : zEv v5 d' n' 6 [.ref 183] (hN h3) = some (o4, g4)) (m4 : mLe g4 h4) : xTx h4 f 0 := by
  have hlen := hz.1
  rw [show hN h3 = zH (h.take 158) (zOf h3) by show zH (h3.take 158) (zOf h3) = _; rw [ho]] at e4
  have q3 := z5 hz e3
  have q4 := z6 hz e4
  cases q3
  cases q4
  obtain ⟨x1, x2⟩ := xTx_12.1 hx
  have t1 := tx1_of x1
  have t2 := tx2_of x2
  have y1 : xT1 h3 f 0 := tx1_to (σ := zI (zOf h) 9 1 0) t1.1 rfl (le_cell hlen m3 (by decide) rfl) (le_cell hlen m3 (by decide) rfl)
  have y2 : xT2 h3 f len := tx2_to (σ := zI (zOf h) 9 1 0) t2.1 t2.2 (le_cell hlen m3 (by decide) rfl) (le_cell hlen m3 (by decide) rfl)
  have u1 := tx1_of y1
  have u2 := tx2_of y2
  refine xTx_12.2 ⟨?_, ?_⟩
  · exact tx1_to (σ := zI (zI (zOf h3) 25 0 0) 25 18 0) u1.1 u1.2 (le_cell hlen m4 (by decide) rfl) (le_cell hlen m4 (by decide) rfl)
  · exact tx2_to (σ := zI (zI (zOf h3) 25 0 0) 25 18 0) u2.1 rfl (le_cell hlen m4 (by decide) rfl) (le_cell hlen m4 (by decide) rfl)
theorem okT_le {f : Nat → Int32} {len len' : Int32} (h : okT f len) (h0 : 0 ≤ len'.toInt) (h1 : len'.toInt ≤ len.toInt) : okT f len' := ⟨⟨h0, by have := h.1.2; omega⟩, fun k k0 k1 => h.2.1 k k0 (by omega), h.2.2⟩
/-- texts that a run did not name are those from before; their length is number 26 -/
theorem keep {l : List rC} {w : Value} {f : Nat → Int32} {len : Int32} {z : Int} (hok : nOk l = true) (hh : rHr c0 ρ (l, w) hc) (hx : xTx c0 f len) (hz : ρ[26]? = some z) : xTx hc f (Int32.ofInt z) := by
  unfold nOk at hok
  rw [Bool.and_eq_true, Bool.and_eq_true] at hok
  obtain ⟨_, hA, hB⟩ := hok
  have hv : rE ρ (rMk 26 0) = some (.int (Int32.ofInt z)) := by
    obtain ⟨q, e1, e2, e3⟩ := rMk_id (id := 26) (off := 0) (by omega) (by omega) (by omega)
    rw [e1, rE_f, e2, e3, hz]
    show some (Value.int (Int32.ofInt (z + 0))) = _
    rw [Int.add_zero]
  split at hB
  · rename_i b1 b2
    have p1 : hc[168]? = c0[168]? := hh.2.2.1 168 (by decide) (.inr b1)
    have p2 : hc[190]? = c0[190]? := hh.2.2.1 190 (by decide) (.inr b2)
    split at hA
    · rename_i gs hs a1 a2
      rw [Bool.and_eq_true, decide_eq_true_eq, decide_eq_true_eq] at hA
      obtain ⟨u, u1, u2⟩ := hh.2.1 167 _ a1
      obtain ⟨w, w1, w2⟩ := hh.2.1 183 _ a2
      obtain ⟨g, g1, g2⟩ := u2.obj (by decide)
      obtain ⟨k, k1, k2⟩ := w2.obj (by decide)
      rw [g2] at u1
      rw [k2] at w1
      obtain ⟨y, y1, y2⟩ := rEs_get g1 hA.1
      obtain ⟨t, t1, t2⟩ := rEs_get k1 hA.2
      rw [hv] at y2 t2
      cases y2
      cases t2
      exact ⟨p1.trans hx.1, p2.trans hx.2.1, ⟨_, u1, y1⟩, ⟨_, w1, t1⟩⟩
    · cases hA
  · cases hB
theorem xTx_un {f g : Nat → Int32} {a b : Int32} (h1 : xTx hc f a) (h2 : xTx hc g b) : f = g ∧ a = b := by
  obtain ⟨a1, _, ⟨u, u1, u2⟩, _⟩ := h1
  obtain ⟨b1, _, ⟨w, w1, w2⟩, _⟩ := h2
  rw [a1] at b1
  rw [u1] at w1
  cases b1
  cases w1
  rw [u2] at w2
  cases w2
  exact ⟨rfl, rfl⟩
end TX
