/-! THE OTHER CALLS, the reference's -/
abbrev y0 (τ : zS) : zS := zI τ 25 0 0
abbrev qThr (τ : zS) (k : Int32) : zS := zI (zI τ 25 0 0) 25 0 k
def yStt (τ : zS) (w : Int32) : Int32 := if w < 4 then (if w = 0 then τ.1 25 6 else if w = 1 then τ.1 25 8 else if w = 2 then (if τ.1 25 3 = 0 then 0 else 1) else τ.1 25 5) else if w < 6 then (if w = 4 then τ.1 25 10 else τ.1 25 15) else if w = 6 then τ.1 25 12 else τ.1 25 9
abbrev wi (x lo hi : Int32) : Prop := ¬ x < lo ∧ ¬ hi < x
def ycA (C : Nat → Int32) (n a b c d : Int32) : Nat → Int32 := upd (upd (upd (upd C (4 * n).toNatClampNeg a) (4 * n + 1).toNatClampNeg b) (4 * n + 2).toNatClampNeg c) (4 * n + 3).toNatClampNeg d
section CB
variable {c0 : mH} {v5 : Value} {d n : Nat} {τ : zS} {r : mO × mH}
theorem z10 (h0 : zC0 c0) (hx : zEv v5 d n 10 [.ref 183] (zH c0 τ) = some r) : r = zOut c0 (.inl (some (.int (τ.1 25 20)))) (y0 τ) := by
  obtain ⟨d', hx⟩ := zGo hx
  exact zTr (C := nC10) (tb := []) h0 rfl rfl trivial (fun _ => false) 60 hx
theorem z16 (h0 : zC0 c0) {p : Int32} (hx : zEv v5 d n 16 [.ref 183, .int p] (zH c0 τ) = some r) : (¬ qPlc p ∧ r = zOut c0 (.inl (some (.int 0))) (qThr τ 1)) ∨ (qPlc p ∧ r = zOut c0 (.inl (some (.int (if 0 < τ.1 25 10 then 1 else 0)))) (zI (zI (y0 τ) 25 6 p) 25 10 0)) := by
  obtain ⟨d', hx⟩ := zGo hx
  replace hx := zTr (C := nC16) (tb := [(46, sp46), (37, sp37)]) h0 rfl rfl ⟨z46 h0, z37 h0, trivial⟩ (fun _ => false) 60 hx
  obtain ⟨_, _, (⟨q, rfl, rfl⟩ | ⟨q, rfl, rfl⟩), hx⟩ := hx
  · rcases hx with ⟨h1, ⟨h2, hx⟩ | ⟨h2, hx⟩⟩ | ⟨h1, hx⟩
    · exact .inr ⟨q, by rw [if_neg (show ¬ 0 < τ.1 25 10 from cLeT h2)]; exact hx⟩
    · exact .inr ⟨q, by rw [if_pos (show 0 < τ.1 25 10 from cLeF h2)]; exact hx⟩
    · exact absurd (cNeF h1) (by decide)
  · rcases hx with ⟨h1, hx⟩ | ⟨h1, _, _, ⟨rfl, rfl⟩, ⟨h2, hx⟩ | ⟨h2, hx⟩⟩
    · exact absurd rfl (cNeT h1)
    · exact .inl ⟨q, hx⟩
    · exact absurd (cLeF h2) (by decide)
theorem z18 (h0 : zC0 c0) {p w : Int32} (hx : zEv v5 d n 18 [.ref 183, .int p, .int w] (zH c0 τ) = some r) : (¬ qPlc p ∧ r = zOut c0 (.inl (some (.int 0))) (qThr τ 1)) ∨ (qPlc p ∧ w < 0 ∧ r = zOut c0 (.inl (some (.int 0))) (qThr τ 2)) ∨ (qPlc p ∧ ¬ w < 0 ∧ r = zOut c0 (.inl (some (.int (qM τ p.toNatClampNeg)))) (zA (y0 τ) 26 (upd (qM τ) p.toNatClampNeg w))) := by
  obtain ⟨d', hx⟩ := zGo hx
  replace hx := zTr (C := nC18) (tb := [(46, sp46), (37, sp37)]) h0 rfl rfl ⟨z46 h0, z37 h0, trivial⟩ (fun _ => false) 60 hx
  obtain ⟨_, _, (⟨q, rfl, rfl⟩ | ⟨q, rfl, rfl⟩), hx⟩ := hx
  · rcases hx with ⟨h1, ⟨h2, _, _, hx⟩ | ⟨h2, _, _, ⟨rfl, rfl⟩, hx⟩⟩ | ⟨h1, hx⟩
    · exact .inr (.inr ⟨q, cGeT h2, hx⟩)
    · exact .inr (.inl ⟨q, cGeF h2, hx⟩)
    · exact absurd (cNeF h1) (by decide)
  · rcases hx with ⟨h1, hx⟩ | ⟨h1, _, _, ⟨rfl, rfl⟩, hx⟩
    · exact absurd rfl (cNeT h1)
    · exact .inl ⟨q, hx⟩
theorem z20 (h0 : zC0 c0) {p : Int32} (hx : zEv v5 d n 20 [.ref 183, .int p] (zH c0 τ) = some r) : (¬ qPlc p ∧ r = zOut c0 (.inl (some (.int 0))) (qThr τ 1)) ∨ (qPlc p ∧ r = zOut c0 (.inl (some (.int (qM τ p.toNatClampNeg)))) (y0 τ)) := by
  obtain ⟨d', hx⟩ := zGo hx
  replace hx := zTr (C := nC20) (tb := [(46, sp46), (37, sp37)]) h0 rfl rfl ⟨z46 h0, z37 h0, trivial⟩ (fun _ => false) 60 hx
  obtain ⟨_, _, (⟨q, rfl, rfl⟩ | ⟨q, rfl, rfl⟩), hx⟩ := hx
  · rcases hx with ⟨h1, hx⟩ | ⟨h1, _, hx⟩
    · exact absurd (cEqT h1) (by decide)
    · exact .inr ⟨q, hx⟩
  · rcases hx with ⟨h1, _, _, ⟨rfl, rfl⟩, hx⟩ | ⟨h1, hx⟩
    · exact .inl ⟨q, hx⟩
    · exact absurd rfl (cEqF h1)
theorem z22 (h0 : zC0 c0) {p : Int32} (hx : zEv v5 d n 22 [.ref 183, .int p] (zH c0 τ) = some r) : (¬ wi p 0 8 ∧ r = zOut c0 (.inl (some (.int 0))) (qThr τ 1)) ∨ (wi p 0 8 ∧ r = zOut c0 (.inl (some (.int (qR τ p.toNatClampNeg)))) (y0 τ)) := by
  obtain ⟨d', hx⟩ := zGo hx
  replace hx := zTr (C := nC22) (tb := [(36, sp36), (37, sp37)]) h0 rfl rfl ⟨z36 h0, z37 h0, trivial⟩ (fun _ => false) 60 hx
  obtain ⟨_, _, (⟨q, rfl, rfl⟩ | ⟨q, rfl, rfl⟩), hx⟩ := hx
  · rcases hx with ⟨h1, hx⟩ | ⟨h1, _, hx⟩
    · exact absurd (cEqT h1) (by decide)
    · exact .inr ⟨q, hx⟩
  · rcases hx with ⟨h1, _, _, ⟨rfl, rfl⟩, hx⟩ | ⟨h1, hx⟩
    · exact .inl ⟨q, hx⟩
    · exact absurd rfl (cEqF h1)
theorem z24 (h0 : zC0 c0) {a b c e : Int32} (hx : zEv v5 d n 24 [.ref 183, .int a, .int b, .int c, .int e] (zH c0 τ) = some r) : (¬ nn4 a b c e ∧ r = zOut c0 (.inl (some (.int 0))) (qThr τ 1)) ∨ (nn4 a b c e ∧ τ.1 25 13 = 6 ∧ r = zOut c0 (.inl (some (.int 0))) (qThr τ 2)) ∨ (nn4 a b c e ∧ ¬ τ.1 25 13 = 6 ∧ r = zOut c0 (.inl (some (.int (τ.1 25 13 + 1)))) (zI (zA (y0 τ) 29 (ycA (τ.2.2.1 29) (τ.1 25 13) a b c e)) 25 13 (τ.1 25 13 + 1))) := by
  obtain ⟨d', hx⟩ := zGo hx
  replace hx := zTr (C := nC24) (tb := [(37, sp37)]) h0 rfl rfl ⟨z37 h0, trivial⟩ (fun _ => false) 80 hx
  rcases hx with ⟨h1, _, _, ⟨rfl, rfl⟩, hx⟩ | ⟨h1, ⟨h2, _, _, ⟨rfl, rfl⟩, hx⟩ | ⟨h2, ⟨h3, _, _, ⟨rfl, rfl⟩, hx⟩ | ⟨h3, ⟨h4, ⟨h5, _, _, _, _, hx⟩ | ⟨h5, _, _, ⟨rfl, rfl⟩, hx⟩⟩ | ⟨h4, _, _, ⟨rfl, rfl⟩, hx⟩⟩⟩⟩
  · exact .inl ⟨fun q => q.1 (cLtT h1), hx⟩
  · exact .inl ⟨fun q => q.2.1 (cLtT h2), hx⟩
  · exact .inl ⟨fun q => q.2.2.1 (cLtT h3), hx⟩
  · rw [zA_zA, zA_zA, zA_zA] at hx
    exact .inr (.inr ⟨⟨cLtF h1, cLtF h2, cLtF h3, cGeT h4⟩, cNeT h5, hx⟩)
  · exact .inr (.inl ⟨⟨cLtF h1, cLtF h2, cLtF h3, cGeT h4⟩, cNeF h5, hx⟩)
  · exact .inl ⟨fun q => q.2.2.2 (cGeF h4), hx⟩
abbrev ypO (τ : zS) (k i : Int32) : Prop := wi k 0 7 ∧ k < τ.1 25 15 ∧ wi i 0 5
theorem z26 (h0 : zC0 c0) {k i : Int32} (hx : zEv v5 d n 26 [.ref 183, .int k, .int i] (zH c0 τ) = some r) : (¬ ypO τ k i ∧ r = zOut c0 (.inl (some (.int 0))) (qThr τ 1)) ∨ (ypO τ k i ∧ r = zOut c0 (.inl (some (.int (τ.2.2.1 30 (6 * k + i).toNatClampNeg)))) (y0 τ)) := by
  obtain ⟨d', hx⟩ := zGo hx
  replace hx := zTr (C := nC26) (tb := [(36, sp36), (37, sp37)]) h0 rfl rfl ⟨z36 h0, z37 h0, trivial⟩ (fun _ => false) 60 hx
  obtain ⟨_, _, (⟨q, rfl, rfl⟩ | ⟨q, rfl, rfl⟩), hx⟩ := hx
  · rcases hx with ⟨h1, hx⟩ | ⟨h1, ⟨h2, _, _, ⟨rfl, rfl⟩, hx⟩ | ⟨h2, _, _, (⟨w, rfl, rfl⟩ | ⟨w, rfl, rfl⟩), hx⟩⟩
    · exact absurd (cEqT h1) (by decide)
    · exact .inl ⟨fun v => cGeT h2 v.2.1, hx⟩
    · rcases hx with ⟨h3, hx⟩ | ⟨h3, _, hx⟩
      · exact absurd (cEqT h3) (by decide)
      · exact .inr ⟨⟨q, cGeF h2, w⟩, hx⟩
    · rcases hx with ⟨h3, _, _, ⟨rfl, rfl⟩, hx⟩ | ⟨h3, hx⟩
      · exact .inl ⟨fun v => w v.2.2, hx⟩
      · exact absurd rfl (cEqF h3)
  · rcases hx with ⟨h1, _, _, ⟨rfl, rfl⟩, hx⟩ | ⟨h1, hx⟩
    · exact .inl ⟨fun v => q v.1, hx⟩
    · exact absurd rfl (cEqF h1)
abbrev ytO (b i : Int32) : Prop := wi b 0 5 ∧ wi i 0 9
theorem z28 (h0 : zC0 c0) {b i : Int32} (hx : zEv v5 d n 28 [.ref 183, .int b, .int i] (zH c0 τ) = some r) : (¬ ytO b i ∧ r = zOut c0 (.inl (some (.int 0))) (qThr τ 1)) ∨ (ytO b i ∧ r = zOut c0 (.inl (some (.int (τ.2.2.1 28 (10 * b + i).toNatClampNeg)))) (y0 τ)) := by
  obtain ⟨d', hx⟩ := zGo hx
  replace hx := zTr (C := nC28) (tb := [(36, sp36), (37, sp37)]) h0 rfl rfl ⟨z36 h0, z37 h0, trivial⟩ (fun _ => false) 60 hx
  obtain ⟨_, _, (⟨q, rfl, rfl⟩ | ⟨q, rfl, rfl⟩), hx⟩ := hx
  · rcases hx with ⟨h1, hx⟩ | ⟨h1, _, _, (⟨w, rfl, rfl⟩ | ⟨w, rfl, rfl⟩), hx⟩
    · exact absurd (cEqT h1) (by decide)
    · rcases hx with ⟨h3, hx⟩ | ⟨h3, _, hx⟩
      · exact absurd (cEqT h3) (by decide)
      · exact .inr ⟨⟨q, w⟩, hx⟩
    · rcases hx with ⟨h3, _, _, ⟨rfl, rfl⟩, hx⟩ | ⟨h3, hx⟩
      · exact .inl ⟨fun v => w v.2, hx⟩
      · exact absurd rfl (cEqF h3)
  · rcases hx with ⟨h1, _, _, ⟨rfl, rfl⟩, hx⟩ | ⟨h1, hx⟩
    · exact .inl ⟨fun v => q v.1, hx⟩
    · exact absurd rfl (cEqF h1)
theorem z30 (h0 : zC0 c0) {w : Int32} (hx : zEv v5 d n 30 [.ref 183, .int w] (zH c0 τ) = some r) : (¬ wi w 0 7 ∧ r = zOut c0 (.inl (some (.int 0))) (qThr τ 1)) ∨ (wi w 0 7 ∧ r = zOut c0 (.inl (some (.int (yStt τ w)))) (y0 τ)) := by
  obtain ⟨d', hx⟩ := zGo hx
  replace hx := zTr (C := nC30) (tb := [(36, sp36), (37, sp37)]) h0 rfl rfl ⟨z36 h0, z37 h0, trivial⟩ (fun _ => false) 60 hx
  obtain ⟨_, _, (⟨q, rfl, rfl⟩ | ⟨q, rfl, rfl⟩), hx⟩ := hx
  · rcases hx with ⟨h1, hx⟩ | ⟨h1, hx⟩
    · refine .inr ⟨q, ?_⟩
      unfold yStt
      rcases hx with ⟨h2, ⟨h3, ⟨h4, hx⟩ | ⟨h4, hx⟩⟩ | ⟨h3, ⟨h4, hx⟩ | ⟨h4, hx⟩⟩⟩ | ⟨h2, ⟨h3, ⟨h4, ⟨h5, hx⟩ | ⟨h5, ⟨h6, hx⟩ | ⟨h6, hx⟩⟩⟩ | ⟨h4, hx⟩⟩ | ⟨h3, hx⟩⟩
      · rw [if_neg (show ¬ w < 4 from cGeT h2), if_neg (show ¬ w < 6 from cGeT h3), if_neg (show ¬ w = 6 from cNeT h4)]; exact hx
      · rw [if_neg (show ¬ w < 4 from cGeT h2), if_neg (show ¬ w < 6 from cGeT h3), if_pos (show w = 6 from cNeF h4)]; exact hx
      · rw [if_neg (show ¬ w < 4 from cGeT h2), if_pos (show w < 6 from cGeF h3), if_neg (show ¬ w = 4 from cNeT h4)]; exact hx
      · rw [if_neg (show ¬ w < 4 from cGeT h2), if_pos (show w < 6 from cGeF h3), if_pos (show w = 4 from cNeF h4)]; exact hx
      · rw [if_pos (show w < 4 from cGeF h2), if_neg (show ¬ w = 0 from cNeT h3), if_neg (show ¬ w = 1 from cNeT h4), if_neg (show ¬ w = 2 from cNeT h5)]; exact hx
      · rw [if_pos (show w < 4 from cGeF h2), if_neg (show ¬ w = 0 from cNeT h3), if_neg (show ¬ w = 1 from cNeT h4), if_pos (show w = 2 from cNeF h5), if_pos (show τ.1 25 3 = 0 from cEqT h6)]; exact hx
      · rw [if_pos (show w < 4 from cGeF h2), if_neg (show ¬ w = 0 from cNeT h3), if_neg (show ¬ w = 1 from cNeT h4), if_pos (show w = 2 from cNeF h5), if_neg (show ¬ τ.1 25 3 = 0 from cEqF h6)]; exact hx
      · rw [if_pos (show w < 4 from cGeF h2), if_neg (show ¬ w = 0 from cNeT h3), if_pos (show w = 1 from cNeF h4)]; exact hx
      · rw [if_pos (show w < 4 from cGeF h2), if_pos (show w = 0 from cNeF h3)]; exact hx
    · exact absurd (cNeF h1) (by decide)
  · rcases hx with ⟨h1, hx⟩ | ⟨h1, _, _, ⟨rfl, rfl⟩, hx⟩
    · exact absurd rfl (cNeT h1)
    · exact .inl ⟨q, hx⟩
end CB
