/-! WHAT THE CALLS OF WRITE AND ERASE COME TO, on heaps -/
def xT1 (h : mH) (f : Nat → Int32) (len : Int32) : Prop := h[158 + 10]? = some (some (.inl (2, 240, .inl f))) ∧ ∃ gs : List Value, h[158 + 9]? = some (some (.inr (3, gs))) ∧ gs[(1 : Nat)]? = some (.int len)
def xT2 (h : mH) (f : Nat → Int32) (len : Int32) : Prop := h[158 + 32]? = some (some (.inl (0, 240, .inl f))) ∧ ∃ gs : List Value, h[158 + 25]? = some (some (.inr (7, gs))) ∧ gs[(18 : Nat)]? = some (.int len)
/-- texts with their characters -/
def okT (f : Nat → Int32) (len : Int32) : Prop := (0 ≤ len.toInt ∧ len.toInt ≤ 240) ∧ chR f len ∧ ∀ k, k < 240 → 0 ≤ (f k).toInt ∧ (f k).toInt ≤ 255
theorem xTx_12 {h : mH} {f : Nat → Int32} {len : Int32} : xTx h f len ↔ xT1 h f len ∧ xT2 h f len := ⟨fun q => ⟨⟨q.1, q.2.2.1⟩, q.2.1, q.2.2.2⟩, fun q => ⟨q.1.1, q.2.1, q.1.2, q.2.2⟩⟩
section EW
variable {h : mH} {f : Nat → Int32} {len : Int32}
theorem tx1_of (hx : xT1 h f len) : (zOf h).2.2.1 10 = f ∧ (zOf h).1 9 1 = len := by
  obtain ⟨a, g1, c1, c2⟩ := hx
  refine ⟨?_, ?_⟩
  · show gA h 10 = f
    unfold gA
    rw [a]
  · show gI h 9 1 = len
    unfold gI
    rw [c1]
    dsimp only
    rw [c2]
theorem tx2_of (hx : xT2 h f len) : (zOf h).2.2.1 32 = f ∧ (zOf h).1 25 18 = len := by
  obtain ⟨b, g2, d1, d2⟩ := hx
  refine ⟨?_, ?_⟩
  · show gA h 32 = f
    unfold gA
    rw [b]
  · show gI h 25 18 = len
    unfold gI
    rw [d1]
    dsimp only
    rw [d2]
theorem tx1_to {σ : zS} (ha : σ.2.2.1 10 = f) (hc : σ.1 9 1 = len) (h10 : h[158 + 10]? = some (zCell σ 10)) (h9 : h[158 + 9]? = some (zCell σ 9)) : xT1 h f len := by
  refine ⟨?_, _, h9, ?_⟩
  · rw [h10]
    show (some (some (.inl (2, 240, .inl (σ.2.2.1 10)))) : Option mC) = _
    rw [ha]
  · show some (Value.int (σ.1 9 1)) = _
    rw [hc]
theorem tx2_to {σ : zS} (ha : σ.2.2.1 32 = f) (hc : σ.1 25 18 = len) (h32 : h[158 + 32]? = some (zCell σ 32)) (h25 : h[158 + 25]? = some (zCell σ 25)) : xT2 h f len := by
  refine ⟨?_, _, h25, ?_⟩
  · rw [h32]
    show (some (some (.inl (0, 240, .inl (σ.2.2.1 32)))) : Option mC) = _
    rw [ha]
  · show some (Value.int (σ.1 25 18)) = _
    rw [hc]
theorem ap_get {p : Int32} {E : Int64} (hp : 0 ≤ p.toInt) : ∀ (n : Nat), p.toInt + n ≤ 240 → ∀ k, apW f p E n k = if p.toNatClampNeg ≤ k ∧ k < p.toNatClampNeg + n then cE E (k - p.toNatClampNeg) else f k
  | 0, _, k => by
    rw [if_neg (by omega)]
    rfl
  | n + 1, h, k => by
    have ih := ap_get (E := E) hp n (by omega) k
    have e0 := tn_i hp
    have e1 : (p + Int32.ofNat n).toInt = p.toInt + n := by
      rw [Int32.toInt_add, zOfI (by omega), bm32 (by omega) (by omega)]
    have e2 := tn_i (x := p + Int32.ofNat n) (by omega)
    show upd (apW f p E n) (p + Int32.ofNat n).toNatClampNeg (cE E n) k = _
    rw [upd_eq]
    by_cases q : k = (p + Int32.ofNat n).toNatClampNeg
    · rw [if_pos q, if_pos (by omega), show k - p.toNatClampNeg = n by omega]
    · rw [if_neg q, ih]
      by_cases w : p.toNatClampNeg ≤ k ∧ k < p.toNatClampNeg + n
      · rw [if_pos w, if_pos (by omega)]
      · rw [if_neg w, if_neg (by omega)]
theorem ap_ok {E : Int64} {nn : Int32} (ht : okT f len) (hw : wrOk E nn) (hl : ¬ 240 < len + nn) : okT (apW f len E nn.toInt.toNat) (len + nn) := by
  obtain ⟨⟨l0, l1⟩, hch, hr⟩ := ht
  obtain ⟨hn, ha⟩ := hw
  have e : (len + nn).toInt = len.toInt + nn.toInt := by
    rw [Int32.toInt_add, bm32 (by omega) (by omega)]
  rw [Int32.lt_iff_toInt_lt, e, show (240 : Int32).toInt = 240 from rfl] at hl
  have e0 := tn_i l0
  have hg := ap_get (f := f) (E := E) l0 nn.toInt.toNat (by omega)
  refine ⟨⟨by omega, by omega⟩, fun k k0 k1 => ?_, fun k hk => ?_⟩
  · have ek := tn_i k0
    rw [hg]
    split
    · rename_i q
      have hv := allC_le ha (k := k.toNatClampNeg - len.toNatClampNeg) (by omega)
      have h1 := cE_int E (k.toNatClampNeg - len.toNatClampNeg)
      have h2 := (uN_nn (x := cE E (k.toNatClampNeg - len.toNatClampNeg)) (by omega)).2
      omega
    · rename_i q
      exact hch k k0 (by omega)
  · rw [hg]
    split
    · rename_i q
      have h1 := cE_int E (k - len.toNatClampNeg)
      have h2 : 0 ≤ (bE E (k - len.toNatClampNeg)).toInt ∧ (bE E (k - len.toNatClampNeg)).toInt ≤ 255 := cAnd _
      omega
    · exact hr k hk
theorem write_ex {v5 : Value} {d n d' n' : Nat} {h3 h4 g3 g4 : mH} {o3 o4 : mO} {E : Int64} {nn : Int32} (hz : zC0 (h.take 158)) (hx : xTx h f len) (ht : okT f len) (e3 : zEv v5 d n 3 [.ref 158, .long E, .int nn, .ref 205] (hN h) = some (o3, g3)) (m3 : mLe g3 h3) (ho : h3.take 158 = h.take 158) (e4 : zEv v5 d' n' 4 [.ref 183, .long E, .int nn] (hN h3) = some (o4, g4)) (m4 : mLe g4 h4) : ∃ f' len', xTx h4 f' len' ∧ okT f' len' := by
  have hlen := hz.1
  have h158 : (hN h)[158]? = some (some (.inr (0, [.ref 159, .ref 160, .ref 165, .ref 167, .ref 169]))) := zH_get (k := 0) hlen (by decide)
  obtain ⟨d1, n1, r35, a1, a2, a3, a4⟩ := inv3 h158 e3
  rw [show hN h3 = zH (h.take 158) (zOf h3) by show zH (h3.take 158) (zOf h3) = _; rw [ho]] at e4
  obtain ⟨x1, x2⟩ := xTx_12.1 hx
  have t1 := tx1_of x1
  have t2 := tx2_of x2
  obtain ⟨o, σ', c1, c2⟩ := z35 hz _ _ _ _ _ _ rfl a1
  obtain ⟨o', σ4, c3, c4⟩ := z4 hz _ _ _ _ _ _ rfl e4
  -- the reference's side, by what stood there
  have two : ∀ {h3f h3l : _}, xT2 h3 f len → xT1 h3 h3f h3l → ((¬ wrOk E nn ∨ 240 < len + nn) → xT1 h4 h3f h3l ∧ xT2 h4 f len) ∧ (wrOk E nn ∧ ¬ 240 < len + nn → xT1 h4 h3f h3l ∧ xT2 h4 (apW f len E nn.toInt.toNat) (len + nn)) := by
    intro h3f h3l y2 y1
    have u1 := tx1_of y1
    have u2 := tx2_of y2
    have u2' : (zOf h3).1 25 18 = len := u2.2
    rw [u2'] at c3
    rcases c3 with ⟨q1, q2, q3⟩ | ⟨q1, q2, q3, q4⟩ | ⟨q1, q2, q3, q4⟩
    · subst q2 q3
      cases c4
      refine ⟨fun _ => ⟨?_, ?_⟩, fun k => absurd k.1 q1⟩
      · exact tx1_to (σ := zI (zOf h3) 25 0 1) u1.1 u1.2 (le_cell hlen m4 (by decide) rfl) (le_cell hlen m4 (by decide) rfl)
      · exact tx2_to (σ := zI (zOf h3) 25 0 1) u2.1 u2.2 (le_cell hlen m4 (by decide) rfl) (le_cell hlen m4 (by decide) rfl)
    · subst q3 q4
      cases c4
      refine ⟨fun _ => ⟨?_, ?_⟩, fun k => absurd q2 k.2⟩
      · exact tx1_to (σ := zI (zOf h3) 25 0 2) u1.1 u1.2 (le_cell hlen m4 (by decide) rfl) (le_cell hlen m4 (by decide) rfl)
      · exact tx2_to (σ := zI (zOf h3) 25 0 2) u2.1 u2.2 (le_cell hlen m4 (by decide) rfl) (le_cell hlen m4 (by decide) rfl)
    · subst q3 q4
      cases c4
      refine ⟨fun k => k.elim (fun k => absurd q1 k) (fun k => absurd k q2), fun _ => ⟨?_, ?_⟩⟩
      · exact tx1_to (σ := zI (yApp (zI (zOf h3) 25 0 0) E nn.toInt.toNat) 25 18 (len + nn)) u1.1 u1.2 (le_cell hlen m4 (by decide) rfl) (le_cell hlen m4 (by decide) rfl)
      · refine tx2_to (σ := zI (yApp (zI (zOf h3) 25 0 0) E nn.toInt.toNat) 25 18 (len + nn)) ?_ rfl (le_cell hlen m4 (by decide) rfl) (le_cell hlen m4 (by decide) rfl)
        show apW ((zOf h3).2.2.1 32) ((zOf h3).1 25 18) E nn.toInt.toNat = _
        rw [u2.1, u2.2]
  have t1' : (zOf h).1 9 1 = len := t1.2
  rw [t1'] at c1
  rcases c1 with ⟨q1, q2, q3⟩ | ⟨q1, q2, q3, q4⟩ | ⟨q1, q2, q3, q4⟩
  · subst q2 q3
    have e := a3 _ _ c2
    cases e
    have y1 : xT1 h3 f len := tx1_to (σ := zX (zOf h) 0) t1.1 t1.2 (le_cell hlen m3 (by decide) rfl) (le_cell hlen m3 (by decide) rfl)
    have y2 : xT2 h3 f len := tx2_to (σ := zX (zOf h) 0) t2.1 t2.2 (le_cell hlen m3 (by decide) rfl) (le_cell hlen m3 (by decide) rfl)
    exact ⟨f, len, xTx_12.2 ((two y2 y1).1 (.inl q1)), ht⟩
  · subst q3 q4
    have e := a4 _ _ c2
    cases e
    have y1 : xT1 h3 f len := tx1_to (σ := zX (zOf h) 1) t1.1 t1.2 (le_cell hlen m3 (by decide) rfl) (le_cell hlen m3 (by decide) rfl)
    have y2 : xT2 h3 f len := tx2_to (σ := zX (zOf h) 1) t2.1 t2.2 (le_cell hlen m3 (by decide) rfl) (le_cell hlen m3 (by decide) rfl)
    exact ⟨f, len, xTx_12.2 ((two y2 y1).1 (.inr q2)), ht⟩
  · subst q3 q4
    have e := a2 _ _ ((zOf h).2.2.2.1 47) c2 (zH_get (k := 47) hlen (by decide))
    cases e
    have y1 : xT1 h3 (apW f len E nn.toInt.toNat) (len + nn) := by
      refine tx1_to ?_ rfl (le_cell5 hlen m3 (by decide) rfl) (le_cell5 hlen m3 (by decide) rfl)
      show apW ((zOf h).2.2.1 10) ((zOf h).1 9 1) E nn.toInt.toNat = _
      rw [t1.1, t1.2]
    have y2 : xT2 h3 f len := tx2_to (σ := zI (zApp (zOf h) E nn.toInt.toNat) 9 1 ((zOf h).1 9 1 + nn)) t2.1 t2.2 (le_cell5 hlen m3 (by decide) rfl) (le_cell5 hlen m3 (by decide) rfl)
    exact ⟨_, _, xTx_12.2 ((two y2 y1).2 ⟨q1, q2⟩), ap_ok ht q1 q2⟩
end EW
