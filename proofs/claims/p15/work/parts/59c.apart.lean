/-! THE REFERENCE: apart() -/
/-- a literal -/
abbrev yApL (τ : zS) (x : Int32) (σ' : zS) : Prop := (yWs τ 0 (yP τ + 1) = none ∧ ¬ yB σ' = 0) ∨ ∃ w q, yWs τ 0 (yP τ + 1) = some (w, q) ∧ ((¬ (yH τ q = 61 ∧ ¬ yLc τ = 20 ∧ ¬ yWt τ = 60) ∧ ¬ yB σ' = 0) ∨ ((yH τ q = 61 ∧ ¬ yLc τ = 20 ∧ ¬ yWt τ = 60) ∧ (0 ≤ (yLc τ).toInt ∧ (yLc τ).toInt < 20) ∧ x = 0 ∧ zI (yAdd (zA (zPb2 τ (q + 1) 0) 38 (upd (τ.2.2.1 38) (yLc τ).toNatClampNeg w)) 2 (yLc τ)) 25 33 (yLc τ + 1) = σ'))
abbrev yEmp (τ : zS) : Prop := yH τ (yP τ) < 0 ∨ yH τ (yP τ) = 44 ∨ yH τ (yP τ) = 40
abbrev yApC (τ : zS) (x : Int32) (σ' : zS) : Prop := (yH τ (yP τ) = 61 ∧ yApL τ x σ') ∨ (¬ yH τ (yP τ) = 61 ∧ yEmp τ ∧ x = 0 ∧ τ = σ') ∨ (¬ yH τ (yP τ) = 61 ∧ ¬ yEmp τ ∧ yApN τ x σ')
abbrev yApR (τ : zS) : zCs := fun o σ' => ∃ x, o = .inl (some (.int x)) ∧ yFr τ σ' ∧ (¬ yB τ = 0 → ¬ yB σ' = 0) ∧ (yB τ = 0 → (yP τ).toInt ≤ 1000 ∧ (yE τ).toInt ≤ 240 → yApC τ x σ')
abbrev sp147 (as : List Value) (σ : zS) : Option zCs := match as with
  | [.ref 183] => some (yApR σ)
  | _ => none
theorem yWF_pb (τ : zS) (p b : Int32) : ∀ (k : Nat) (w q : Int32), yWF (zPb2 τ p b) k w q = yWF τ k w q
  | 0, _, _ => rfl
  | k + 1, w, q => by
    unfold yWF
    rw [show yEx (zPb2 τ p b) q = yEx τ q from rfl]
    cases yEx τ q with
    | none => rfl
    | some x =>
      dsimp only
      rw [show yFl (zPb2 τ p b) x.2 = yFl τ x.2 from rfl]
      cases yFl τ x.2 with
      | none => rfl
      | some f =>
        dsimp only
        rw [show yH (zPb2 τ p b) f.2 = yH τ f.2 from rfl, yWF_pb τ p b k]
/-- a W from here on -/
theorem yTw_2 {τ σ' : zS} {p b : Int32} {o : zO} (h : yTo (zPb2 τ p b) (yWs (zPb2 τ p b) 0 (yP (zPb2 τ p b))) o σ') : ∃ x q b', o = .inl (some (.int x)) ∧ zPb2 τ q b' = σ' ∧ (¬ b = 0 → ¬ b' = 0) ∧ (b = 0 → p.toInt ≤ 1000 ∧ (yE τ).toInt ≤ 240 → (b' = 0 ∧ yWs τ 0 p = some (x, q)) ∨ (¬ b' = 0 ∧ yWs τ 0 p = none)) := by
  obtain ⟨x, q, b', h1, h2, h3, h4⟩ := h
  rw [zPb2_2] at h2
  refine ⟨x, q, b', h1, h2, h3, fun hb hp => ?_⟩
  have h5 := h4 hb hp
  have e : yWs (zPb2 τ p b) 0 (yP (zPb2 τ p b)) = yWs τ 0 p := yWF_pb τ p b _ _ _
  rw [e] at h5
  exact h5
section RF
variable {c0 : mH} {v5 : Value}
theorem z147_l (h0 : zC0 c0) {d n m : Nat} {r : mO × mH} {τ : zS} {w q b : Int32} (hx : zF v5 d n 147 m 24 [(1, .int w), (0, .ref 183)] [] (zH c0 (zPb2 τ q b)) = some r) : ∃ σ', r = zOut c0 (.inl (some (.int 0))) σ' ∧ yFr τ σ' ∧ (¬ b = 0 → ¬ yB σ' = 0) ∧ (b = 0 → (¬ (yH τ q = 61 ∧ ¬ yLc τ = 20 ∧ ¬ yWt τ = 60) ∧ ¬ yB σ' = 0) ∨ ((yH τ q = 61 ∧ ¬ yLc τ = 20 ∧ ¬ yWt τ = 60) ∧ (0 ≤ (yLc τ).toInt ∧ (yLc τ).toInt < 20) ∧ zI (yAdd (zA (zPb2 τ (q + 1) 0) 38 (upd (τ.2.2.1 38) (yLc τ).toNatClampNeg w)) 2 (yLc τ)) 25 33 (yLc τ + 1) = σ')) := by
  replace hx := zTr (C := nC147) (tb := [(150, sp150)]) h0 rfl rfl ⟨z150 h0, trivial⟩ (fun pc => pc.beq 30) 60 hx
  obtain ⟨_, _, ⟨b2, h1, rfl, rfl⟩, m1, hm1, hx⟩ := hx
  have hx : zF v5 d n 147 m1 30 [(1, .int w), (0, .ref 183)] [] (zH c0 (zPb2 (zPb2 τ q b) (q + 1) b2)) = some r := hx
  rw [zPb2_2] at hx
  have h1 : (yH τ q = 61 ∧ b2 = b) ∨ (¬ yH τ q = 61 ∧ b2 = 1) := h1
  replace hx := zTr (C := nC147) (tb := [(40, sp40)]) h0 rfl rfl ⟨z40 h0, trivial⟩ (fun pc => pc.beq 50) 60 hx
  -- wrong
  have bad : ∀ (m' : Nat) (b3 : Int32), ¬ b3 = 0 → zF v5 d n 147 m' 50 [(1, .int w), (0, .ref 183)] [] (zH c0 (zPb2 τ (q + 1) b3)) = some r → r = zOut c0 (.inl (some (.int 0))) (zPb2 τ (q + 1) b3) := by
    intro m' b3 hb hx
    rcases zTr (C := nC147) (tb := []) h0 rfl rfl trivial (fun pc => pc.beq 59) 60 hx with ⟨h, -⟩ | ⟨-, hx⟩
    · exact absurd (show b3 = 0 from cEqT h) hb
    · exact hx
  rcases hx with ⟨g1, m2, hm2, hx⟩ | ⟨g1, ⟨g2, m2, hm2, hx⟩ | ⟨g2, _, _, ⟨rfl, rfl⟩, m2, hm2, hx⟩⟩
  · have g1 : ¬ b2 = 0 := cNeT g1
    refine ⟨_, bad m2 b2 g1 hx, yFr_P (yFr_refl _), fun _ => g1, fun hb => Or.inl ⟨fun h => ?_, g1⟩⟩
    rcases h1 with ⟨-, e⟩ | ⟨e, -⟩
    · exact g1 (e.trans hb)
    · exact e h.1
  · have g1 : b2 = 0 := cNeF g1
    have g20 : ¬ yLc τ = 20 := cNeT g2
    have h61 : yH τ q = 61 := h1.elim And.left (fun h => absurd (g1.symm.trans h.2) (by decide))
    have hb0 : b = 0 := h1.elim (fun h => h.2.symm.trans g1) (fun h => absurd h61 h.1)
    subst g1
    have hx : zF v5 d n 147 m2 50 [(1, .int w), (0, .ref 183)] [] (zH c0 (zPb2 τ (q + 1) 0)) = some r := hx
    replace hx := zTr (C := nC147) (tb := [(193, sp193)]) h0 rfl rfl ⟨z193 h0, trivial⟩ (fun _ => false) 60 hx
    rcases hx with ⟨-, g3, _, _, ⟨k1, rfl, rfl⟩ | ⟨k1, k2, rfl, rfl⟩, hx⟩ | ⟨h, -⟩
    · exact ⟨_, hx, yFr_I (yFr_I (yFr_A (yFr_P (yFr_refl _)) rfl) rfl) rfl, fun _ => (by show ¬ (1 : Int32) = 0; decide), fun _ => Or.inl ⟨fun h => h.2.2 k1, by show ¬ (1 : Int32) = 0; decide⟩⟩
    · exact ⟨_, hx, yFr_I (yFr_W (yFr_A (yFr_P (yFr_refl _)) rfl)) rfl, fun h => absurd hb0 h, fun _ => Or.inr ⟨⟨h61, g20, k1⟩, zIn' g3, rfl⟩⟩
    · exact absurd rfl (cEqF h)
  · have g2 : yLc τ = 20 := cNeF g2
    have hx : zF v5 d n 147 m2 50 [(1, .int w), (0, .ref 183)] [] (zH c0 (zI (zPb2 τ (q + 1) b2) 25 23 1)) = some r := hx
    rw [show zI (zPb2 τ (q + 1) b2) 25 23 1 = zPb2 τ (q + 1) 1 from zI_zI 25 23 _ _] at hx
    exact ⟨_, bad m2 1 (by decide) hx, yFr_P (yFr_refl _), fun _ => (by show ¬ (1 : Int32) = 0; decide), fun _ => Or.inl ⟨fun h => h.2.1 g2, by show ¬ (1 : Int32) = 0; decide⟩⟩
theorem z147 (h0 : zC0 c0) : zSp c0 v5 147 sp147 := by
  intro d n as σ cs r hs hx
  unfold sp147 at hs
  split at hs
  · cases hs
    obtain ⟨d', hx⟩ := zGo hx
    replace hx := zTr (C := nC147) (tb := [(148, sp148), (152, sp152)]) h0 rfl rfl ⟨z148 h0, z152 h0, trivial⟩ (fun pc => pc.beq 24 || pc.beq 90) 60 hx
    obtain ⟨_, _, ⟨rfl, rfl⟩, hx⟩ := hx
    rcases hx with ⟨h1, m1, hm1, hx⟩ | ⟨h1, o1, σ1, h2, hx⟩
    · have h1 : ¬ yH σ (yP σ) = 61 := cNeT h1
      replace hx := zTr (C := nC147) (tb := [(148, sp148)]) h0 rfl rfl ⟨z148 h0, trivial⟩ (fun pc => pc.beq 117) 60 hx
      have emp : yEmp σ → r = zOut c0 (.inl (some (.int 0))) σ → ∃ o σ', yApR σ o σ' ∧ r = zOut c0 o σ' := fun he hx => ⟨_, _, ⟨0, rfl, yFr_refl _, fun h => h, fun _ _ => Or.inr (Or.inl ⟨h1, he, rfl, rfl⟩)⟩, hx⟩
      obtain ⟨_, _, ⟨rfl, rfl⟩, hx⟩ := hx
      rcases hx with ⟨g1, hx⟩ | ⟨g1, _, _, ⟨rfl, rfl⟩, ⟨g2, hx⟩ | ⟨g2, _, _, ⟨rfl, rfl⟩, ⟨g3, m2, hm2, hx⟩ | ⟨g3, hx⟩⟩⟩
      · exact emp (Or.inl (cLtT g1)) hx
      · exact emp (Or.inr (Or.inl (cEqT g2))) hx
      · have hne : ¬ yEmp σ := fun h => h.elim (cLtF g1) (fun h => h.elim (cEqF g2) (cNeT g3))
        replace hx := zTr (C := nC147) (tb := [(66, sp66)]) h0 rfl rfl ⟨z66 h0, trivial⟩ (fun pc => pc.beq 170) 60 hx
        obtain ⟨_, _, ⟨rfl, rfl⟩, hx⟩ := hx
        have fin : ∀ (m3 : Nat) (al : Int32), ((al = 1 ∧ yAlo σ) ∨ (al = 0 ∧ ¬ yAlo σ)) → zF v5 d' n 147 m3 170 [(2, .int al), (1, .int (yQ σ)), (0, .ref 183)] [] (zH c0 σ) = some r → ∃ o σ', yApR σ o σ' ∧ r = zOut c0 o σ' := by
          intro m3 al ha hx
          obtain ⟨x, σ', k1, k2, k3, k4⟩ := z147_n h0 rfl ha hx
          exact ⟨_, _, ⟨x, rfl, k2, k3, fun hb hp => Or.inr (Or.inr ⟨h1, hne, k4 hb hp⟩)⟩, k1⟩
        rcases hx with ⟨k1, m3, hm3, hx⟩ | ⟨k1, ⟨k2, m3, hm3, hx⟩ | ⟨k2, -, ⟨k3, m3, hm3, hx⟩ | ⟨k3, -, ⟨k4, m3, hm3, hx⟩ | ⟨k4, m3, hm3, hx⟩⟩⟩⟩
        · exact fin m3 0 (Or.inr ⟨rfl, fun h => cLeT k1 h.1⟩) hx
        · exact fin m3 1 (Or.inl ⟨rfl, cLeF k1, Or.inl (cEqT k2)⟩) hx
        · exact fin m3 1 (Or.inl ⟨rfl, cLeF k1, Or.inr (Or.inl (cEqT k3))⟩) hx
        · exact fin m3 0 (Or.inr ⟨rfl, fun h => h.2.elim (cEqF k2) (fun h => h.elim (cEqF k3) (cNeT k4))⟩) hx
        · exact fin m3 1 (Or.inl ⟨rfl, cLeF k1, Or.inr (Or.inr (cNeF k4))⟩) hx
      · exact emp (Or.inr (Or.inr (cNeF g3))) hx
    · have h1 : yH σ (yP σ) = 61 := cNeF h1
      have hl := (yH_lt h1 (by decide)).1
      have h2 : yTo (zI σ 25 21 (yP σ + 1)) (yWs (zI σ 25 21 (yP σ + 1)) 0 (yP (zI σ 25 21 (yP σ + 1)))) o1 σ1 := h2
      rw [zPb2_p] at h2
      obtain ⟨w, q, b, rfl, rfl, k1, k2⟩ := yTw_2 h2
      obtain ⟨m2, hm2, hx⟩ := hx
      obtain ⟨σ', g1, g2, g3, g4⟩ := z147_l h0 hx
      refine ⟨_, _, ⟨0, rfl, g2, fun h => g3 (k1 h), fun hb hp => Or.inl ⟨h1, ?_⟩⟩, g1⟩
      have := zInc hl
      have := Int32.lt_iff_toInt_lt.mp hl
      rcases k2 hb ⟨by omega, hp.2⟩ with ⟨e, k⟩ | ⟨e, k⟩
      · refine Or.inr ⟨w, q, k, ?_⟩
        rcases g4 e with ⟨a, b⟩ | ⟨a, b, c⟩
        · exact Or.inl ⟨a, b⟩
        · exact Or.inr ⟨a, b, rfl, c⟩
      · exact Or.inl ⟨k, g3 e⟩
  · cases hs
end RF
