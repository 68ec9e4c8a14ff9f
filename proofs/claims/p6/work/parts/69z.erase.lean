/-! ERASE, both sides -/
section ER
variable {v5 : Value} {c0 : mH}
theorem z5 (h0 : zC0 c0) {d n : Nat} {σ : zS} {r : mO × mH} (hx : zEv v5 d n 5 [.ref 158] (zH c0 σ) = some r) : r = zOut c0 (.inl (some (.int (σ.1 9 1)))) (zI σ 9 1 0) := by
  obtain ⟨d', hx⟩ := zGo hx
  exact zTr (C := nC5) (tb := []) h0 rfl rfl trivial (fun _ => false) 60 hx
theorem z6 (h0 : zC0 c0) {d n : Nat} {σ : zS} {r : mO × mH} (hx : zEv v5 d n 6 [.ref 183] (zH c0 σ) = some r) : r = zOut c0 (.inl (some (.int (σ.1 25 18)))) (zI (zI σ 25 0 0) 25 18 0) := by
  obtain ⟨d', hx⟩ := zGo hx
  exact zTr (C := nC6) (tb := []) h0 rfl rfl trivial (fun _ => false) 60 hx
theorem erase_ex {d n d' n' : Nat} {h h3 h4 g3 g4 : mH} {o3 o4 : mO} {f : Nat → Int32} {len : Int32} (hz : zC0 (h.take 158)) (hx : xTx h f len) (e3 : zEv v5 d n 5 [.ref 158] (hN h) = some (o3, g3)) (m3 : mLe g3 h3) (ho : h3.take 158 = h.take 158) (e4 : zEv v5 d' n' 6 [.ref 183] (hN h3) = some (o4, g4)) (m4 : mLe g4 h4) : xTx h4 f 0 := by
  have hlen := hz.1
  rw [show hN h3 = zH (h.take 158) (zOf h3) by show zH (h3.take 158) (zOf h3) = _; rw [ho]] at e4
  have q3 := z5 hz e3
  have q4 := z6 hz e4
  cases q3
  cases q4
  obtain ⟨x1, x2⟩ := xTx_12.1 hx
  have t1 := tx1_of x1
  have t2 := tx2_of x2
  have y1 : xT1 h3 f 0 := tx1_to (σ := zI (zOf h) 9 1 0) t1.1 rfl (le_cell hlen m3 (by decide) rfl) (le_cell hlen m3 (by decide) rfl)
  have y2 : xT2 h3 f len := tx2_to (σ := zI (zOf h) 9 1 0) t2.1 t2.2 (le_cell hlen m3 (by decide) rfl) (le_cell hlen m3 (by decide) rfl)
  have u1 := tx1_of y1
  have u2 := tx2_of y2
  refine xTx_12.2 ⟨?_, ?_⟩
  · exact tx1_to (σ := zI (zI (zOf h3) 25 0 0) 25 18 0) u1.1 u1.2 (le_cell hlen m4 (by decide) rfl) (le_cell hlen m4 (by decide) rfl)
  · exact tx2_to (σ := zI (zI (zOf h3) 25 0 0) 25 18 0) u2.1 rfl (le_cell hlen m4 (by decide) rfl) (le_cell hlen m4 (by decide) rfl)
theorem okT_le {f : Nat → Int32} {len len' : Int32} (h : okT f len) (h0 : 0 ≤ len'.toInt) (h1 : len'.toInt ≤ len.toInt) : okT f len' := ⟨⟨h0, by have := h.1.2; omega⟩, fun k k0 k1 => h.2.1 k k0 (by omega), h.2.2⟩
end ER
