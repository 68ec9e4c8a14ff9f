/-! WHAT IS KNOWN OF SYMBOLS behind write, erase and assemble -/
section KW
variable {v5 : Value} {h : mH} {f : Nat → Int32} {len : Int32}
theorem write_k {d n d' n' : Nat} {h3 h4 g3 g4 : mH} {o3 o4 : mO} {E : Int64} {nn : Int32} (hz : zC0 (h.take 158)) (hk : yqS h) (e3 : zEv v5 d n 3 [.ref 158, .long E, .int nn, .ref 205] (hN h) = some (o3, g3)) (m3 : mLe g3 h3) (ho : h3.take 158 = h.take 158) (e4 : zEv v5 d' n' 4 [.ref 183, .long E, .int nn] (hN h3) = some (o4, g4)) (m4 : mLe g4 h4) : yqS h4 := by
  have hlen := hz.1
  have h158 : (hN h)[158]? = some (some (.inr (0, [.ref 159, .ref 160, .ref 165, .ref 167, .ref 169]))) := zH_get (k := 0) hlen (by decide)
  obtain ⟨d1, n1, r35, a1, a2, a3, a4⟩ := inv3 h158 e3
  rw [show hN h3 = zH (h.take 158) (zOf h3) by show zH (h3.take 158) (zOf h3) = _; rw [ho]] at e4
  obtain ⟨o, σ', c1, c2⟩ := z35 hz _ _ _ _ _ _ rfl a1
  obtain ⟨o', σ4, c3, c4⟩ := z4 hz _ _ _ _ _ _ rfl e4
  have k3 : k6 (zOf h3) = k6 (zOf h) := by
    rcases c1 with ⟨q1, q2, q3⟩ | ⟨q1, q2, q3, q4⟩ | ⟨q1, q2, q3, q4⟩
    · subst q2 q3
      have e := a3 _ _ c2
      cases e
      exact k6_le (σ := zX (zOf h) 0) hlen m3
    · subst q3 q4
      have e := a4 _ _ c2
      cases e
      exact k6_le (σ := zX (zOf h) 1) hlen m3
    · subst q3 q4
      have e := a2 _ _ ((zOf h).2.2.2.1 47) c2 (zH_get (k := 47) hlen (by decide))
      cases e
      exact k6_le5 (σ := zI (zApp (zOf h) E nn.toInt.toNat) 9 1 ((zOf h).1 9 1 + nn)) hlen m3
  have k4 : k6 (zOf h4) = k6 (zOf h3) := by
    rcases c3 with ⟨q1, q2, q3⟩ | ⟨q1, q2, q3, q4⟩ | ⟨q1, q2, q3, q4⟩
    · subst q2 q3
      cases c4
      exact k6_le (σ := zI (zOf h3) 25 0 1) hlen m4
    · subst q3 q4
      cases c4
      exact k6_le (σ := zI (zOf h3) 25 0 2) hlen m4
    · subst q3 q4
      cases c4
      exact k6_le (σ := zI (yApp (zI (zOf h3) 25 0 0) E nn.toInt.toNat) 25 18 ((zOf h3).1 25 18 + nn)) hlen m4
  exact yqF_6 (k4.trans k3) hk
theorem erase_k {d n d' n' : Nat} {h3 h4 g3 g4 : mH} {o3 o4 : mO} (hz : zC0 (h.take 158)) (hk : yqS h) (e3 : zEv v5 d n 5 [.ref 158] (hN h) = some (o3, g3)) (m3 : mLe g3 h3) (ho : h3.take 158 = h.take 158) (e4 : zEv v5 d' n' 6 [.ref 183] (hN h3) = some (o4, g4)) (m4 : mLe g4 h4) : yqS h4 := by
  have hlen := hz.1
  rw [show hN h3 = zH (h.take 158) (zOf h3) by show zH (h3.take 158) (zOf h3) = _; rw [ho]] at e4
  have q3 := z5 hz e3
  have q4 := z6 hz e4
  cases q3
  cases q4
  exact yqF_6 ((k6_le (σ := zI (zI (zOf h3) 25 0 0) 25 18 0) hlen m4).trans (k6_le (σ := zI (zOf h) 9 1 0) hlen m3)) hk
theorem k6_z {σ σ1 : zS} (hz : zFr σ σ1) : k6 σ1 = k6 σ := by
  show (σ1.1 15 2, σ1.1 25 42, σ1.2.2.2.1 16, σ1.2.2.1 17, σ1.2.2.2.1 45, σ1.2.2.1 46) = _
  rw [hz.1 15 2 rfl, hz.1 25 42 rfl, hz.2.2.2 16 rfl, hz.2.2.1 17 rfl, hz.2.2.2 45 rfl, hz.2.2.1 46 rfl]
theorem k6_y {σ σ1 : zS} (hz : yFr σ σ1) : k6 σ1 = k6 σ := by
  show (σ1.1 15 2, σ1.1 25 42, σ1.2.2.2.1 16, σ1.2.2.1 17, σ1.2.2.2.1 45, σ1.2.2.1 46) = _
  rw [hz.1 15 2 rfl, hz.1 25 42 rfl, hz.2.2.2 16 rfl, hz.2.2.1 17 rfl, hz.2.2.2 45 rfl, hz.2.2.1 46 rfl]
theorem cpy30 {α : Type} (F G : Nat → α) {i : Nat} (hi : i < 30) : va_cpy F G 0 0 30 i = F i := by
  unfold va_cpy
  rw [if_pos ⟨Nat.zero_le _, by omega⟩]
  congr 1
  omega
theorem asm_k {d n d' n' : Nat} {h7 h8 g7 g8 : mH} {o7 o8 : mO} (hz : zC0 (h.take 158)) (hx : xTx h f len) (hl : 0 ≤ len.toInt ∧ len.toInt ≤ 240) (hch : chR f len) (hk : yqS h) (e7 : zEv v5 d n 7 [.ref 158, .ref 205] (hN h) = some (o7, g7)) (m7 : mLe g7 h7) (ho : h7.take 158 = h.take 158) (e8 : zEv v5 d' n' 8 [.ref 183] (hN h7) = some (o8, g8)) (m8 : mLe g8 h8) : yqS h8 := by
  have x7 := (asm_ex hz hx hl hch e7 m7 ho e8 m8).1
  have hlen := hz.1
  have h158 : (hN h)[158]? = some (some (.inr (0, [.ref 159, .ref 160, .ref 165, .ref 167, .ref 169]))) := zH_get (k := 0) hlen (by decide)
  obtain ⟨d1, n1, r38, a1, a2, a3⟩ := inv7 h158 e7
  rw [show hN h7 = zH (h.take 158) (zOf h7) by show zH (h7.take 158) (zOf h7) = _; rw [ho]] at e8
  have t0 := txt_of hx
  have t7 := txt_of x7
  have has := asm_ok hz (σ := zOf h) (τ := zOf h7) ((show xT (zOf h) = f from t0.1).trans (show yT (zOf h7) = f from t7.2.1).symm) (t0.2.2.1.trans t7.2.2.2.symm) (by rw [t7.2.2.2]; exact hl) (by rw [t7.2.2.2, show yT (zOf h7) = f from t7.2.1]; exact hch) a1 e8
  rcases has with ⟨σ1, τ1, k, b1, b2, b3, b4⟩ | ⟨σ1, τ1, V, pl, W, G, fi, b1, b2, b3, b4, b5, b6, b7⟩
  · have e := a3 _ _ b1
    cases e
    cases b2
    have k7 : k6 (zOf h7) = k6 (zOf h) := (k6_le (σ := σ1) hlen m7).trans ((k6_z b3).trans (show k6 (zBeg (zOf h)) = k6 (zOf h) from rfl))
    have k8 : k6 (zOf h8) = k6 (zOf h7) := (k6_le (σ := zI (zI τ1 25 20 k) 25 0 1) hlen m8).trans ((show k6 (zI (zI τ1 25 20 k) 25 0 1) = k6 τ1 from rfl).trans ((k6_y b4).trans (show k6 (yFs (zI (zOf h7) 25 0 0)) = k6 (zOf h7) from rfl)))
    exact yqF_6 (k8.trans k7) hk
  · have e := a2 _ _ ((zDone σ1 V pl W G).2.2.2.1 47) b1 (zH_get (k := 47) hlen (by decide))
    cases e
    cases b2
    have k7 : k6 (zOf h7) = k6 (zDone σ1 V pl W G) := k6_le5 (σ := zDone σ1 V pl W G) hlen m7
    have k8 : k6 (zOf h8) = k6 (yDone τ1) := k6_le (σ := yDone τ1) hlen m8
    have k9 : k6 τ1 = k6 (zOf h7) := (k6_y b7).trans (show k6 (yFs (zI (zOf h7) 25 0 0)) = k6 (zOf h7) from rfl)
    have k10 := k9.trans k7
    simp only [k6, Prod.mk.injEq] at k10
    obtain ⟨u1, -, u3, u4, -, -⟩ := k10
    refine yqF_6 k8 ?_
    have hcn : xCn σ1 = yCn τ1 := b4.cn
    have hnm := b4.nm
    have hvl := b4.vl
    have c1 : (yDone τ1).1 15 2 = xCn σ1 := u1
    have c2 : (yDone τ1).1 25 42 = yCn τ1 := rfl
    have c3 : (yDone τ1).2.2.2.1 16 = va_cpy (σ1.2.2.2.1 13) (σ1.2.2.2.1 16) 0 0 30 := u3
    have c4 : (yDone τ1).2.2.1 17 = va_cpy V (σ1.2.2.1 17) 0 0 30 := u4
    have c5 : (yDone τ1).2.2.2.1 45 = zCpy (τ1.2.2.2.1 35) (τ1.2.2.2.1 45) (yCn τ1).toInt.toNat := rfl
    have c6 : (yDone τ1).2.2.1 46 = zCpy (τ1.2.2.1 37) (τ1.2.2.1 46) (yCn τ1).toInt.toNat := rfl
    unfold yqF
    rw [c1, c2, c3, c4, c5, c6]
    refine ⟨hcn, fun i hi => ?_⟩
    have hr : 0 ≤ (xCn σ1).toInt ∧ (xCn σ1).toInt ≤ 30 := hnm.1
    have e1 := tn_i hr.1
    have hi30 : i < 30 := by omega
    have hiy : i < (yCn τ1).toInt.toNat := by rw [← hcn]; omega
    have hn : σ1.2.2.2.1 13 i = τ1.2.2.2.1 35 i := hnm.2.1 i hi
    have hv : (V i = -1 ∧ τ1.2.2.1 36 i = 0) ∨ (wOk (V i) ∧ V i = τ1.2.2.1 37 i ∧ ¬ τ1.2.2.1 36 i = 0) := hvl i hi
    have hb5 := b5 i hi
    rcases hv with ⟨_, w2⟩ | ⟨w1, w2, w3⟩
    · exact absurd w2 hb5
    · refine ⟨?_, ?_, ?_⟩
      · rw [cpy30 _ _ hi30, hn]
        show _ = if i < _ then _ else _
        rw [if_pos hiy]
      · rw [cpy30 _ _ hi30, w2]
        show _ = if i < _ then _ else _
        rw [if_pos hiy]
      · rw [cpy30 _ _ hi30]
        intro hm
        rw [hm] at w1
        revert w1
        decide
end KW
