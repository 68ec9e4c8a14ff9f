/-! A LINE -/
/-- one behind the other, where the first does not throw -/
abbrev zSq (R : zCs) (K : zS → zCs) : zCs := fun o σ' => ∃ o1 σ1, R o1 σ1 ∧ ((o1 = .inr 0 ∧ o = .inr 0 ∧ σ1 = σ') ∨ (o1 = .inl none ∧ K σ1 o σ'))
abbrev zLblR (σ : zS) : zCs := fun o σ' => (¬ xAt σ < xSt σ ∧ zN (zLb0 σ) o σ') ∨ (xAt σ < xSt σ ∧ zLbP σ (xLq σ) (xLk σ) (xLm σ) o σ')
abbrev zOpR (σ : zS) : zCs := zOpP σ (xO1 σ) (xOe σ) (xOq σ) (xOm σ)
abbrev zChR (σ : zS) : zCs := fun o σ' => (((xOp σ = 48 ∧ xLKd σ = 0) ∨ (xOp σ = 51 ∧ ¬ xLKd σ = 0)) ∧ zFl σ o σ') ∨ (¬ ((xOp σ = 48 ∧ xLKd σ = 0) ∨ (xOp σ = 51 ∧ ¬ xLKd σ = 0)) ∧ zN σ o σ')
abbrev zGvR (σ : zS) (s v : Int32) : zCs := fun o σ' => (0 ≤ s.toInt ∧ s.toInt < 30) ∧ ((xFill σ s v = none ∧ zFl σ o σ') ∨ (∃ W G, xFill σ s v = some (W, G) ∧ zN (zWG (zGv σ s v) W G) o σ'))
abbrev zFiR (σ : zS) (t v : Int32) : zCs := fun o σ' => (xFill σ t v = none ∧ zFl σ o σ') ∨ (∃ W G, xFill σ t v = some (W, G) ∧ zN (zWG σ W G) o σ')
abbrev xLd (σ : zS) : Int32 := σ.1 11 14
abbrev zL5 (σ : zS) (v : Int32) : zCs := fun o σ' => (¬ xLKd σ = 3 ∧ zN σ o σ') ∨ (xLKd σ = 3 ∧ zSq (zFiR σ (100 + xLd σ) v) (fun τ o σ' => (0 ≤ (xLd τ).toInt ∧ (xLd τ).toInt < 10) ∧ zN (zA τ 24 (upd (τ.2.2.1 24) (xLd τ).toNatClampNeg v)) o σ') o σ')
abbrev zL4 (σ : zS) (v : Int32) : zCs := fun o σ' => (zCd (xOp σ) < 64 ∧ zSq (zInR σ) (fun τ => zL5 τ v) o σ') ∨ (¬ zCd (xOp σ) < 64 ∧ ∃ o1 τ, zDiR σ o1 τ ∧ ((o1 = .inr 0 ∧ o = .inr 0 ∧ τ = σ') ∨ ∃ w, o1 = .inl (some (.int w)) ∧ ((xOp τ = 48 ∧ zL5 τ w o σ') ∨ (¬ xOp τ = 48 ∧ zL5 τ v o σ'))))
abbrev zL3 (σ : zS) : zCs := fun o σ' => ((xLKd σ = 2 ∧ ¬ xOp σ = 48) ∧ zSq (zGvR σ (xLsy σ) (zOfL (xPl σ).toInt64)) (fun τ => zL4 τ (zOfL (xPl σ).toInt64)) o σ') ∨ (¬ (xLKd σ = 2 ∧ ¬ xOp σ = 48) ∧ zL4 σ (zOfL (xPl σ).toInt64) o σ')
abbrev zL2 (σ : zS) : zCs := zSq (zLblR σ) (fun σ1 => zSq (zOpR σ1) (fun σ2 => zSq (zChR σ2) zL3))
abbrev zOpn (σ : zS) : zS := zI (zI (zI (zI σ 11 11 (σ.1 11 11 + 1)) 9 2 (σ.1 9 3)) 9 4 (zEol σ)) 9 3 (zEol σ + 1)
abbrev zLnR (σ : zS) : zCs := fun o σ' => (zNth (zOpn σ) ∧ zN (zOpn σ) o σ') ∨ (¬ zNth (zOpn σ) ∧ zL2 (zOpn σ) o σ')
abbrev sp60 (as : List Value) (σ : zS) : Option zCs := match as with
  | [.ref 169] => some (zLnR σ)
  | _ => none
theorem zLbl_out {σ σ' : zS} {o : zO} (h : zLblR σ o σ') : (o = .inr 0 ∨ o = .inl none) ∧ zFr σ σ' := by
  have f0 : zFr σ (zLb0 σ) := zFr_I (zFr_I (zFr_refl _) rfl) rfl
  rcases h with ⟨-, rfl, rfl⟩ | ⟨-, ⟨-, rfl, h⟩ | ⟨-, -, nm, ln, cp, nu, rfl, rfl⟩ | ⟨-, -, ⟨-, rfl, h⟩ | ⟨nm, ln, cp, nu, ⟨-, -, ⟨-, rfl, h⟩ | ⟨-, rfl, rfl⟩⟩ | ⟨-, -, -, -, ⟨-, rfl, h⟩ | ⟨-, rfl, rfl⟩⟩⟩⟩⟩
  · exact ⟨Or.inr rfl, f0⟩
  · exact ⟨Or.inl rfl, h⟩
  · exact ⟨Or.inr rfl, zFr_I (zFr_I (zFr_T f0) rfl) rfl⟩
  · exact ⟨Or.inl rfl, h⟩
  · exact ⟨Or.inl rfl, h⟩
  · exact ⟨Or.inr rfl, zFr_I (zFr_I (zFr_T f0) rfl) rfl⟩
  · exact ⟨Or.inl rfl, h⟩
  · exact ⟨Or.inr rfl, zFr_I (zFr_N (zFr_I (zFr_T f0) rfl)) rfl⟩
theorem zOp_out {σ σ' : zS} {p1 pe1 q1 : Int32} {M : Int64} {o : zO} (h : zOpP σ p1 pe1 q1 M o σ') : (o = .inr 0 ∨ o = .inl none) ∧ zFr σ σ' := by
  rcases h with ⟨-, rfl, h⟩ | ⟨q, c, -, -, ln, cp, nu, rfl, rfl⟩
  · exact ⟨Or.inl rfl, h⟩
  · exact ⟨Or.inr rfl, zFr_I (zFr_I (zFr_I (zFr_Q (zFr_T (zFr_I (zFr_I (zFr_refl _) rfl) rfl))) rfl) rfl) rfl⟩
theorem zCh_out {σ σ' : zS} {o : zO} (h : zChR σ o σ') : (o = .inr 0 ∨ o = .inl none) ∧ zFr σ σ' := by
  rcases h with ⟨-, rfl, h⟩ | ⟨-, rfl, rfl⟩
  · exact ⟨Or.inl rfl, h⟩
  · exact ⟨Or.inr rfl, zFr_refl _⟩
theorem zGv_out {σ σ' : zS} {s v : Int32} {o : zO} (h : zGvR σ s v o σ') : (o = .inr 0 ∨ o = .inl none) ∧ zFr σ σ' := by
  rcases h with ⟨-, ⟨-, rfl, h⟩ | ⟨W, G, -, rfl, rfl⟩⟩
  · exact ⟨Or.inl rfl, h⟩
  · exact ⟨Or.inr rfl, zFr_A (zFr_A (zFr_A (zFr_refl _) rfl) rfl) rfl⟩
theorem zFi_out {σ σ' : zS} {s v : Int32} {o : zO} (h : zFiR σ s v o σ') : (o = .inr 0 ∨ o = .inl none) ∧ zFr σ σ' := by
  rcases h with ⟨-, rfl, h⟩ | ⟨W, G, -, rfl, rfl⟩
  · exact ⟨Or.inl rfl, h⟩
  · exact ⟨Or.inr rfl, zFr_A (zFr_A (zFr_refl _) rfl) rfl⟩
theorem zIn_out {σ σ' : zS} {o : zO} (h : zInR σ o σ') : (o = .inr 0 ∨ o = .inl none) ∧ zFr σ σ' := by
  obtain ⟨o1, σ1, ha, h⟩ := h
  have hf := (zAp_out ha).2
  rcases h with ⟨-, rfl, rfl⟩ | ⟨a, -, ⟨-, rfl, h⟩ | ⟨i, f, -, ⟨-, rfl, h⟩ | ⟨-, ⟨-, q, nm, ln, cp, nu, rfl, rfl⟩ | ⟨-, ⟨-, rfl, h⟩ | ⟨-, q, nm, ln, cp, nu, rfl, rfl⟩⟩⟩⟩⟩
  · exact ⟨Or.inl rfl, hf⟩
  · exact ⟨Or.inl rfl, zFr_trans hf h⟩
  · exact ⟨Or.inl rfl, zFr_trans hf h⟩
  · exact ⟨Or.inr rfl, zFr_I (zFr_A (zFr_T hf) rfl) rfl⟩
  · exact ⟨Or.inl rfl, zFr_trans hf h⟩
  · exact ⟨Or.inr rfl, zFr_I (zFr_A (zFr_A (zFr_A (zFr_I (zFr_A (zFr_T hf) rfl) rfl) rfl) rfl) rfl) rfl⟩
section LI
variable {c0 : mH} {v5 : Value}
theorem z60_5 (h0 : zC0 c0) {d n m : Nat} {r : mO × mH} {σ : zS} {v w : Int32} (hx : zF v5 d n 60 m 114 [(1, .int v), (2, .int w), (0, .ref 169)] [] (zH c0 σ) = some r) : ∃ o σ', zL5 σ v o σ' ∧ r = zOut c0 o σ' := by
  replace hx := zTr (C := nC60) (tb := [(91, sp91)]) h0 rfl rfl ⟨z91 h0, trivial⟩ (fun _ => false) 60 hx
  rcases hx with ⟨h1, hx⟩ | ⟨h1, o1, σ1, h2, hx⟩
  · exact ⟨_, _, Or.inl ⟨cNeT h1, rfl, rfl⟩, hx⟩
  · have h2 : zFiR σ (100 + xLd σ) v o1 σ1 := h2
    obtain ⟨ho, -⟩ := zFi_out h2
    rcases ho with rfl | rfl
    · exact ⟨_, _, Or.inr ⟨cNeF h1, _, _, h2, Or.inl ⟨rfl, rfl, rfl⟩⟩, hx⟩
    · obtain ⟨h3, hx⟩ := hx
      exact ⟨_, _, Or.inr ⟨cNeF h1, _, _, h2, Or.inr ⟨rfl, zIn' h3, rfl, rfl⟩⟩, hx⟩
theorem z60_4 (h0 : zC0 c0) {d n m : Nat} {r : mO × mH} {σ : zS} {v : Int32} (hx : zF v5 d n 60 m 76 [(1, .int v), (0, .ref 169)] [] (zH c0 σ) = some r) : ∃ o σ', zL4 σ v o σ' ∧ r = zOut c0 o σ' := by
  replace hx := zTr (C := nC60) (tb := [(88, sp88), (89, sp89), (90, sp90)]) h0 rfl rfl ⟨z88 h0, z89 h0, z90 h0, trivial⟩ (fun pc => pc.beq 114) 60 hx
  obtain ⟨_, _, ⟨h1, rfl, rfl⟩ | ⟨h1, rfl, rfl⟩, hx⟩ := hx
  · rcases hx with ⟨h, -⟩ | ⟨-, o1, σ1, h2, hx⟩
    · exact absurd (cEqT h) (by decide)
    · have h2 : zInR σ o1 σ1 := h2
      obtain ⟨ho, -⟩ := zIn_out h2
      rcases ho with rfl | rfl
      · exact ⟨_, _, Or.inl ⟨h1, _, _, h2, Or.inl ⟨rfl, rfl, rfl⟩⟩, hx⟩
      · obtain ⟨m', hm, hx⟩ := hx
        have hx : zF v5 d n 60 m' 114 [(1, .int v), (0, .ref 169)] [] (zH c0 σ1) = some r := hx
        have hx := zF_lv (b := [(1, .int v), (2, .int 0), (0, .ref 169)]) (fun q hq => by
          simp only [List.mem_cons, List.not_mem_nil, or_false] at hq
          rcases hq with rfl | rfl <;> rfl) hx
        obtain ⟨o, σ', g1, g2⟩ := z60_5 h0 hx
        exact ⟨o, σ', Or.inl ⟨h1, _, _, h2, Or.inr ⟨rfl, g1⟩⟩, g2⟩
  · rcases hx with ⟨-, o1, σ1, h2, hx⟩ | ⟨h, -⟩
    · have h2 : zDiR σ o1 σ1 := h2
      obtain ⟨ho, -⟩ := zDi_out h2
      rcases ho with rfl | ⟨w, rfl⟩
      · exact ⟨_, _, Or.inr ⟨h1, _, _, h2, Or.inl ⟨rfl, rfl, rfl⟩⟩, hx⟩
      · rcases hx with ⟨h3, m', hm, hx⟩ | ⟨h3, m', hm, hx⟩
        · have h3 : ¬ xOp σ1 = 48 := of_decide_eq_true h3
          obtain ⟨o, σ', g1, g2⟩ := z60_5 h0 (v := v) (w := w) hx
          exact ⟨o, σ', Or.inr ⟨h1, _, _, h2, Or.inr ⟨w, rfl, Or.inr ⟨h3, g1⟩⟩⟩, g2⟩
        · have h3 : xOp σ1 = 48 := Decidable.not_not.mp (of_decide_eq_false h3)
          obtain ⟨o, σ', g1, g2⟩ := z60_5 h0 (v := w) (w := w) hx
          exact ⟨o, σ', Or.inr ⟨h1, _, _, h2, Or.inr ⟨w, rfl, Or.inl ⟨h3, g1⟩⟩⟩, g2⟩
    · exact absurd rfl (cEqF h)
theorem z60_3 (h0 : zC0 c0) {d n m : Nat} {r : mO × mH} {σ : zS} (hx : zF v5 d n 60 m 40 [(0, .ref 169)] [] (zH c0 σ) = some r) : ∃ o σ', zL3 σ o σ' ∧ r = zOut c0 o σ' := by
  replace hx := zTr (C := nC60) (tb := [(86, sp86), (87, sp87)]) h0 rfl rfl ⟨z86 h0, z87 h0, trivial⟩ (fun pc => pc.beq 76) 60 hx
  obtain ⟨_, _, ⟨rfl, rfl⟩, hx⟩ := hx
  rcases hx with ⟨h1, m', hm, hx⟩ | ⟨h1, ⟨h2, m', hm, hx⟩ | ⟨h2, o1, σ1, h3, hx⟩⟩
  · obtain ⟨o, σ', g1, g2⟩ := z60_4 h0 hx
    exact ⟨o, σ', Or.inr ⟨fun h => cNeT h1 h.1, g1⟩, g2⟩
  · have h2 : xOp σ = 48 := of_decide_eq_true h2
    obtain ⟨o, σ', g1, g2⟩ := z60_4 h0 hx
    exact ⟨o, σ', Or.inr ⟨fun h => h.2 h2, g1⟩, g2⟩
  · have h2 : ¬ xOp σ = 48 := of_decide_eq_false h2
    have h3 : zGvR σ (xLsy σ) (zOfL (xPl σ).toInt64) o1 σ1 := h3
    obtain ⟨ho, -⟩ := zGv_out h3
    rcases ho with rfl | rfl
    · exact ⟨_, _, Or.inl ⟨⟨cNeF h1, h2⟩, _, _, h3, Or.inl ⟨rfl, rfl, rfl⟩⟩, hx⟩
    · obtain ⟨m', hm, hx⟩ := hx
      obtain ⟨o, σ', g1, g2⟩ := z60_4 h0 hx
      exact ⟨o, σ', Or.inl ⟨⟨cNeF h1, h2⟩, _, _, h3, Or.inr ⟨rfl, g1⟩⟩, g2⟩
theorem z60_2 (h0 : zC0 c0) {d n m : Nat} {r : mO × mH} {σ : zS} (hx : zF v5 d n 60 m 28 [(0, .ref 169)] [] (zH c0 σ) = some r) : ∃ o σ', zL2 σ o σ' ∧ r = zOut c0 o σ' := by
  replace hx := zTr (C := nC60) (tb := [(83, sp83)]) h0 rfl rfl ⟨z83 h0, trivial⟩ (fun pc => pc.beq 32) 60 hx
  obtain ⟨o1, σ1, h1, hx⟩ := hx
  have h1 : zLblR σ o1 σ1 := h1
  obtain ⟨ho, -⟩ := zLbl_out h1
  rcases ho with rfl | rfl
  · exact ⟨_, _, ⟨_, _, h1, Or.inl ⟨rfl, rfl, rfl⟩⟩, hx⟩
  · obtain ⟨m1, hm1, hx⟩ := hx
    have hx : zF v5 d n 60 m1 32 [(0, .ref 169)] [] (zH c0 σ1) = some r := hx
    replace hx := zTr (C := nC60) (tb := [(84, sp84)]) h0 rfl rfl ⟨z84 h0, trivial⟩ (fun pc => pc.beq 36) 60 hx
    obtain ⟨o2, σ2, h2, hx⟩ := hx
    have h2 : zOpR σ1 o2 σ2 := h2
    obtain ⟨ho, -⟩ := zOp_out h2
    rcases ho with rfl | rfl
    · exact ⟨_, _, ⟨_, _, h1, Or.inr ⟨rfl, _, _, h2, Or.inl ⟨rfl, rfl, rfl⟩⟩⟩, hx⟩
    · obtain ⟨m2, hm2, hx⟩ := hx
      have hx : zF v5 d n 60 m2 36 [(0, .ref 169)] [] (zH c0 σ2) = some r := hx
      replace hx := zTr (C := nC60) (tb := [(85, sp85)]) h0 rfl rfl ⟨z85 h0, trivial⟩ (fun pc => pc.beq 40) 60 hx
      obtain ⟨o3, σ3, h3, hx⟩ := hx
      have h3 : zChR σ2 o3 σ3 := h3
      obtain ⟨ho, -⟩ := zCh_out h3
      rcases ho with rfl | rfl
      · exact ⟨_, _, ⟨_, _, h1, Or.inr ⟨rfl, _, _, h2, Or.inr ⟨rfl, _, _, h3, Or.inl ⟨rfl, rfl, rfl⟩⟩⟩⟩, hx⟩
      · obtain ⟨m3, hm3, hx⟩ := hx
        obtain ⟨o, σ', g1, g2⟩ := z60_3 h0 hx
        exact ⟨o, σ', ⟨_, _, h1, Or.inr ⟨rfl, _, _, h2, Or.inr ⟨rfl, _, _, h3, Or.inr ⟨rfl, g1⟩⟩⟩⟩, g2⟩
theorem z60 (h0 : zC0 c0) : zSp c0 v5 60 sp60 := by
  intro d n as σ cs r hs hx
  unfold sp60 at hs
  split at hs
  · cases hs
    obtain ⟨d', hx⟩ := zGo hx
    replace hx := zTr (C := nC60) (tb := [(81, sp81), (82, sp82)]) h0 rfl rfl ⟨z81 h0, z82 h0, trivial⟩ (fun pc => pc.beq 28) 60 hx
    obtain ⟨_, _, ⟨rfl, rfl⟩, hx⟩ := hx
    obtain ⟨_, _, ⟨h1, rfl, rfl⟩ | ⟨h1, rfl, rfl⟩, hx⟩ := hx
    · rcases hx with ⟨h, -⟩ | ⟨-, hx⟩
      · exact absurd (cEqT h) (by decide)
      · exact ⟨_, _, Or.inl ⟨h1, rfl, rfl⟩, hx⟩
    · rcases hx with ⟨-, m', hm, hx⟩ | ⟨h, -⟩
      · have hx : zF v5 d' n 60 m' 28 [(0, .ref 169)] [] (zH c0 (zOpn σ)) = some r := hx
        obtain ⟨o, σ', g1, g2⟩ := z60_2 h0 hx
        exact ⟨o, σ', Or.inr ⟨h1, g1⟩, g2⟩
      · exact absurd rfl (cEqF h)
  · cases hs
end LI
