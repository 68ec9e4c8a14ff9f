/-! THE REFERENCE: atoms -/
abbrev yBk (τ : zS) (d : Int32) : Prop := ¬ τ.2.2.1 39 d.toNatClampNeg = 0
abbrev yHas (τ : zS) (s : Int32) : Prop := ¬ τ.2.2.1 36 s.toNatClampNeg = 0
/-- what an atom that is a name comes to: its value, whether it is wrong -/
abbrev yNaR (τ : zS) (p q x b : Int32) : Prop := (yCap (yT τ) p (zDn p q) = false ∧ x = yNv (yT τ) p (min (zDn p q) 9) ∧ ((9 < q - p ∧ ¬ b = 0) ∨ (¬ 9 < q - p ∧ b = 0))) ∨ (yCap (yT τ) p (zDn p q) = true ∧ zLoc (yT τ) p q 66 ∧ ((¬ yBk τ (yT τ p.toNatClampNeg - 48) ∧ ¬ b = 0) ∨ (yBk τ (yT τ p.toNatClampNeg - 48) ∧ b = 0 ∧ x = zVal (τ.2.2.1 40 (yT τ p.toNatClampNeg - 48).toNatClampNeg)))) ∨ (yCap (yT τ) p (zDn p q) = true ∧ ¬ zLoc (yT τ) p q 66 ∧ ((¬ (yIs (yT τ) p q ∧ ¬ yFd τ (yNm τ p q) < 0 ∧ yHas τ (yFd τ (yNm τ p q))) ∧ ¬ b = 0) ∨ ((yIs (yT τ) p q ∧ ¬ yFd τ (yNm τ p q) < 0 ∧ yHas τ (yFd τ (yNm τ p q))) ∧ b = 0 ∧ x = zVal (τ.2.2.1 37 (yFd τ (yNm τ p q)).toNatClampNeg))))
abbrev yBd (v : Int64) : Prop := -1073741824 < v.toInt ∧ v.toInt < 1073741824
abbrev yAtR (τ : zS) (x q b : Int32) : Prop := (yHr τ = 42 ∧ q = yP τ + 1 ∧ ((yBd (yPl τ).toInt64 ∧ x = (yPl τ).toInt64.toInt32 ∧ b = 0) ∨ (¬ yBd (yPl τ).toInt64 ∧ ¬ b = 0))) ∨ (¬ yHr τ = 42 ∧ q = zRun (yT τ) (yE τ) (yP τ) ∧ ((q = yP τ ∧ ¬ b = 0) ∨ (¬ q = yP τ ∧ yNaR τ (yP τ) q x b)))
abbrev yAtP (τ : zS) : zCs := fun o σ' => ∃ x q b, o = .inl (some (.int x)) ∧ zPb2 τ q b = σ' ∧ (¬ yB τ = 0 → ¬ b = 0) ∧ (yB τ = 0 → (yP τ).toInt ≤ 1000 → yAtR τ x q b)
abbrev sp194 (as : List Value) (σ : zS) : Option zCs := match as with
  | [.ref 183] => some (yAtP σ)
  | _ => none
section RF
variable {c0 : mH} {v5 : Value}
theorem z194_v (h0 : zC0 c0) {d n : Nat} {r : mO × mH} {σ : zS} {p nb : Int32} (hp : p.toInt ≤ 1000) : ∀ (m i : Nat), i ≤ 9 → (p + Int32.ofNat i).toInt = p.toInt + i → i ≤ zDn p (yP σ) → zF v5 d n 194 m 113 [(4, .int (p + Int32.ofNat i)), (3, .int (yNv (yT σ) p i)), (2, .int nb), (1, .int p), (0, .ref 183)] [] (zH c0 σ) = some r → ∃ m' k, zF v5 d n 194 m' 153 [(4, .int k), (3, .int (yNv (yT σ) p (min (zDn p (yP σ)) 9))), (2, .int nb), (1, .int p), (0, .ref 183)] [] (zH c0 σ) = some r := by
  intro m
  induction m using Nat.strongRecOn with
  | ind m ih =>
    intro i hi hI hd hx
    have hlo := p.le_toInt
    have h9 : (p + 9).toInt = p.toInt + 9 := by
      have e9 : (9 : Int32).toInt = 9 := rfl
      rw [rAdd_ok (by rw [e9]; unfold rI0; omega) (by rw [e9]; unfold rI1; omega), e9]
    replace hx := zTr (C := nC194) (tb := []) h0 rfl rfl trivial (fun pc => pc.beq 113 || pc.beq 153) 40 hx
    have hD : zDn p (yP σ) = ((yP σ).toInt - p.toInt).toNat := rfl
    rcases hx with ⟨h1, m', hm, hx⟩ | ⟨h1, ⟨h2, m', hm, hx⟩ | ⟨h2, -, m', hm, hx⟩⟩
    · have h1 : ¬ (p + Int32.ofNat i).toInt < (yP σ).toInt := fun h => cGeT h1 (Int32.lt_iff_toInt_lt.mpr h)
      rw [show min (zDn p (yP σ)) 9 = i by omega]
      exact ⟨m', _, hx⟩
    · have h2 : ¬ (p + Int32.ofNat i).toInt < (p + 9).toInt := fun h => cGeT h2 (Int32.lt_iff_toInt_lt.mpr h)
      rw [show min (zDn p (yP σ)) 9 = i by omega]
      exact ⟨m', _, hx⟩
    · have h1' : (p + Int32.ofNat i).toInt < (yP σ).toInt := Int32.lt_iff_toInt_lt.mp (cGeF h1)
      have h2' : (p + Int32.ofNat i).toInt < (p + 9).toInt := Int32.lt_iff_toInt_lt.mp (cGeF h2)
      have hx : zF v5 d n 194 m' 113 [(4, .int (p + Int32.ofNat i + 1)), (3, .int (yNv (yT σ) p (i + 1))), (2, .int nb), (1, .int p), (0, .ref 183)] [] (zH c0 σ) = some r := hx
      have hinc := zInc (cGeF h1)
      rw [Int32.add_assoc, ← zOfS] at hx hinc
      exact ih m' (by omega) (i + 1) (by omega) (by rw [hinc, hI]; omega) (by omega) hx
theorem z194_w (h0 : zC0 c0) {d n : Nat} {r : mO × mH} {σ : zS} {p nb : Int32} : ∀ (m : Nat) (k v : Int32), zF v5 d n 194 m 113 [(4, .int k), (3, .int v), (2, .int nb), (1, .int p), (0, .ref 183)] [] (zH c0 σ) = some r → ∃ m' k v, zF v5 d n 194 m' 153 [(4, .int k), (3, .int v), (2, .int nb), (1, .int p), (0, .ref 183)] [] (zH c0 σ) = some r := by
  intro m
  induction m using Nat.strongRecOn with
  | ind m ih =>
    intro k v hx
    replace hx := zTr (C := nC194) (tb := []) h0 rfl rfl trivial (fun pc => pc.beq 113 || pc.beq 153) 40 hx
    rcases hx with ⟨h1, m', hm, hx⟩ | ⟨h1, ⟨h2, m', hm, hx⟩ | ⟨h2, -, m', hm, hx⟩⟩
    · exact ⟨m', _, _, hx⟩
    · exact ⟨m', _, _, hx⟩
    · exact ih m' (by omega) _ _ hx
/-- a name's end -/
theorem z194_s (h0 : zC0 c0) {d n m : Nat} {r : mO × mH} {σ : zS} {p q k nb : Int32} (hb : yB σ = 0) (hq : yP σ = q) (hx : zF v5 d n 194 m 170 [(3, .int k), (2, .int nb), (1, .int p), (0, .ref 183)] [] (zH c0 σ) = some r) : ∃ x b, r = zOut c0 (.inl (some (.int x))) (zI σ 25 23 b) ∧ ((zLoc (yT σ) p q 66 ∧ ((¬ yBk σ (yT σ p.toNatClampNeg - 48) ∧ ¬ b = 0) ∨ (yBk σ (yT σ p.toNatClampNeg - 48) ∧ b = 0 ∧ x = zVal (σ.2.2.1 40 (yT σ p.toNatClampNeg - 48).toNatClampNeg)))) ∨ (¬ zLoc (yT σ) p q 66 ∧ ∃ nm, (p.toInt ≤ 1000 → nm = yNm σ p q) ∧ ((¬ (yIs (yT σ) p q ∧ ¬ yFd σ nm < 0 ∧ yHas σ (yFd σ nm)) ∧ ¬ b = 0) ∨ ((yIs (yT σ) p q ∧ ¬ yFd σ nm < 0 ∧ yHas σ (yFd σ nm)) ∧ b = 0 ∧ x = zVal (σ.2.2.1 37 (yFd σ nm).toNatClampNeg))))) := by
  have self : zI σ 25 23 0 = σ := by
    rw [← hb]
    exact zI_self 25 23
  subst hq
  replace hx := zTr (C := nC194) (tb := [(97, sp97), (40, sp40), (74, sp74), (99, sp99), (140, sp140), (145, sp145)]) h0 rfl rfl ⟨z97 h0, z40 h0, z74 h0, z99 h0, z140 h0, z145 h0, trivial⟩ (fun _ => false) 60 hx
  obtain ⟨_, _, ⟨h1, rfl, rfl⟩ | ⟨h1, rfl, rfl⟩, hx⟩ := hx
  · rcases hx with ⟨h, -⟩ | ⟨-, -, -, hx⟩
    · exact absurd (cEqT h) (by decide)
    · rcases hx with ⟨h2, -, _, _, ⟨rfl, rfl⟩, hx⟩ | ⟨h2, _, _, ⟨rfl, rfl⟩, -, _, _, ⟨rfl, rfl⟩, hx⟩
      · refine ⟨_, 0, ?_, Or.inl ⟨h1, Or.inr ⟨cNeT h2, rfl, rfl⟩⟩⟩
        rw [self]
        exact hx
      · exact ⟨_, 1, hx, Or.inl ⟨h1, Or.inl ⟨fun h => h (cNeF h2), by decide⟩⟩⟩
  · rcases hx with ⟨-, hx⟩ | ⟨h, -⟩
    · obtain ⟨_, _, ⟨h2, rfl, rfl⟩ | ⟨h2, rfl, rfl⟩, hx⟩ := hx
      · rcases hx with ⟨h, -⟩ | ⟨-, hx⟩
        · exact absurd (cEqT h) (by decide)
        · obtain ⟨_, _, ⟨nm, h3, rfl, rfl⟩, _, _, ⟨rfl, rfl⟩, hx⟩ := hx
          rcases hx with ⟨h4, _, _, ⟨rfl, rfl⟩, hx⟩ | ⟨h4, -, ⟨h5, -, _, _, ⟨rfl, rfl⟩, hx⟩ | ⟨h5, _, _, ⟨rfl, rfl⟩, hx⟩⟩
          · exact ⟨_, 1, hx, Or.inr ⟨h1, nm, h3, Or.inl ⟨fun h => h.2.1 (cLtT h4), by decide⟩⟩⟩
          · refine ⟨_, 0, ?_, Or.inr ⟨h1, nm, h3, Or.inr ⟨⟨h2, cLtF h4, cNeT h5⟩, rfl, rfl⟩⟩⟩
            rw [self]
            exact hx
          · exact ⟨_, 1, hx, Or.inr ⟨h1, nm, h3, Or.inl ⟨fun h => h.2.2 (cNeF h5), by decide⟩⟩⟩
      · rcases hx with ⟨-, hx⟩ | ⟨h, -⟩
        · rcases hx with ⟨-, _, _, ⟨rfl, rfl⟩, hx⟩ | ⟨h, -⟩
          · exact ⟨_, 1, hx, Or.inr ⟨h1, yNm σ p (yP σ), fun _ => rfl, Or.inl ⟨fun h => h2 h.1, by decide⟩⟩⟩
          · exact absurd (show (-1 : Int32) < 0 by decide) (cLtF h)
        · exact absurd rfl (cEqF h)
    · exact absurd rfl (cEqF h)
theorem z194 (h0 : zC0 c0) : zSp c0 v5 194 sp194 := by
  intro d n as σ cs r hs hx
  unfold sp194 at hs
  split at hs
  · cases hs
    obtain ⟨d', hx⟩ := zGo hx
    replace hx := zTr (C := nC194) (tb := [(148, sp148), (196, sp196), (66, sp66), (40, sp40)]) h0 rfl rfl ⟨z148 h0, z196 h0, z66 h0, z40 h0, trivial⟩ (fun pc => pc.beq 64) 60 hx
    obtain ⟨_, _, ⟨rfl, rfl⟩, hx⟩ := hx
    rcases hx with ⟨h1, hx⟩ | ⟨h1, hx⟩
    · have h1 : ¬ yHr σ = 42 := cNeT h1
      obtain ⟨_, _, ⟨rfl, rfl⟩, hx⟩ := hx
      have hx := hx
      rcases hx with ⟨h2, hx⟩ | ⟨h2, _, _, ⟨rfl, rfl⟩, hx⟩
      · have h2 : ¬ zRun (yT σ) (yE σ) (yP σ) = yP σ := cNeT h2
        rcases hx with ⟨h3, m', hm, hx⟩ | ⟨h3, hx⟩
        · have h3 : yB σ = 0 := cEqT h3
          have hx : zF v5 d' n 194 m' 64 [(1, .int (yP σ)), (0, .ref 183)] [] (zH c0 (zI σ 25 21 (zRun (yT σ) (yE σ) (yP σ)))) = some r := hx
          have hqe : ∃ q, q = zRun (yT σ) (yE σ) (yP σ) := ⟨_, rfl⟩
          obtain ⟨q, hqe⟩ := hqe
          rw [← hqe] at hx h2
          have hpe : ∃ p, p = yP σ := ⟨_, rfl⟩
          obtain ⟨p, hpe⟩ := hpe
          rw [← hpe] at hx h2
          suffices hs : ∃ x b, r = zOut c0 (.inl (some (.int x))) (zPb2 σ q b) ∧ (p.toInt ≤ 1000 → yNaR σ p q x b) by
            obtain ⟨x, b, g1, g2⟩ := hs
            refine ⟨_, _, ⟨x, q, b, rfl, rfl, fun h => absurd h3 h, fun _ hp => Or.inr ⟨h1, hqe, Or.inr ?_⟩⟩, g1⟩
            rw [← hpe] at hp ⊢
            exact ⟨h2, g2 hp⟩
          obtain ⟨m1, hm1, hx⟩ := zTr (C := nC194) (tb := []) h0 rfl rfl trivial (fun pc => pc.beq 68) 60 hx
          have z : p + Int32.ofNat 0 = p := Int32.add_zero _
          have hx : zF v5 d' n 194 m1 68 [(3, .int p), (2, .int (zB1 (!yCap (yT σ) p 0))), (1, .int p), (0, .ref 183)] [] (zH c0 (zI σ 25 21 q)) = some r := hx
          obtain ⟨m2, k, hx⟩ := z194_n (σ := zI σ 25 21 q) h0 m1 0 (by rw [z]; omega) (by omega) (by rw [z]; exact hx)
          have hx : zF v5 d' n 194 m2 104 [(3, .int k), (2, .int (zB1 (!yCap (yT σ) p (zDn p q)))), (1, .int p), (0, .ref 183)] [] (zH c0 (zI σ 25 21 q)) = some r := hx
          have hx := zTr (C := nC194) (tb := []) h0 rfl rfl trivial (fun pc => pc.beq 113 || pc.beq 170) 60 hx
          cases hc : yCap (yT σ) p (zDn p q) with
          | true =>
            rw [hc] at hx
            rcases hx with ⟨-, m3, hm3, hx⟩ | ⟨h, -⟩
            · obtain ⟨x, b, g1, g2⟩ := z194_s (σ := zI σ 25 21 q) (q := q) h0 h3 rfl hx
              refine ⟨x, b, g1, fun hp => ?_⟩
              rcases g2 with ⟨g2, g3⟩ | ⟨g2, nm, g3, g4⟩
              · exact Or.inr (Or.inl ⟨hc, g2, g3⟩)
              · have e := g3 hp
                subst e
                exact Or.inr (Or.inr ⟨hc, g2, g4⟩)
            · exact absurd rfl (cEqF h)
          | false =>
            rw [hc] at hx
            rcases hx with ⟨h, -⟩ | ⟨-, m3, hm3, hx⟩
            · exact absurd (show (1 : Int32) = 0 from cEqT h) (by decide)
            · have hx : zF v5 d' n 194 m3 113 [(4, .int p), (3, .int 0), (2, .int 1), (1, .int p), (0, .ref 183)] [] (zH c0 (zI σ 25 21 q)) = some r := hx
              have fin : ∀ (m4 : Nat) (k4 v : Int32), zF v5 d' n 194 m4 153 [(4, .int k4), (3, .int v), (2, .int 1), (1, .int p), (0, .ref 183)] [] (zH c0 (zI σ 25 21 q)) = some r → ∃ b, r = zOut c0 (.inl (some (.int v))) (zPb2 σ q b) ∧ ((9 < q - p ∧ ¬ b = 0) ∨ (¬ 9 < q - p ∧ b = 0)) := by
                intro m4 k4 v hx
                have self : zI (zI σ 25 21 q) 25 23 0 = zI σ 25 21 q := by
                  have := zI_self (σ := zI σ 25 21 q) 25 23
                  rw [show (zI σ 25 21 q).1 25 23 = 0 from h3] at this
                  exact this
                rcases zTr (C := nC194) (tb := [(40, sp40)]) h0 rfl rfl ⟨z40 h0, trivial⟩ (fun _ => false) 60 hx with ⟨h5, hx⟩ | ⟨h5, _, _, ⟨rfl, rfl⟩, hx⟩
                · refine ⟨0, ?_, Or.inr ⟨cLeT h5, rfl⟩⟩
                  unfold zPb2
                  rw [self]
                  exact hx
                · exact ⟨1, hx, Or.inl ⟨cLeF h5, by decide⟩⟩
              by_cases hp : p.toInt ≤ 1000
              · obtain ⟨m4, k4, hx⟩ := z194_v (σ := zI σ 25 21 q) h0 hp m3 0 (by omega) (by rw [z]; omega) (by omega) (by rw [z]; exact hx)
                obtain ⟨b, g1, g2⟩ := fin m4 k4 _ hx
                exact ⟨_, b, g1, fun _ => Or.inl ⟨hc, rfl, g2⟩⟩
              · obtain ⟨m4, k4, v, hx⟩ := z194_w (σ := zI σ 25 21 q) h0 m3 _ _ hx
                obtain ⟨b, g1, g2⟩ := fin m4 k4 _ hx
                exact ⟨_, b, g1, fun h => absurd h hp⟩
        · have h3 : ¬ yB σ = 0 := cEqF h3
          refine ⟨_, _, ⟨0, zRun (yT σ) (yE σ) (yP σ), yB σ, rfl, ?_, fun h => h, fun h => absurd h h3⟩, hx⟩
          exact zI_self (σ := zI σ 25 21 (zRun (yT σ) (yE σ) (yP σ))) 25 23
      · have h2 : zRun (yT σ) (yE σ) (yP σ) = yP σ := cNeF h2
        rcases hx with ⟨h, -⟩ | ⟨-, hx⟩
        · exact absurd (show (1 : Int32) = 0 from cEqT h) (by decide)
        · exact ⟨_, _, ⟨0, zRun (yT σ) (yE σ) (yP σ), 1, rfl, rfl, fun _ => by decide, fun _ _ => Or.inr ⟨h1, rfl, Or.inl ⟨h2, by decide⟩⟩⟩, hx⟩
    · have h1 : yHr σ = 42 := cNeF h1
      obtain ⟨_, _, ⟨h2, h3, h4, rfl, rfl⟩ | ⟨h2, b, hb, rfl, rfl⟩, hx⟩ := hx
      · have h2 : yB σ = 0 := h2
        refine ⟨_, _, ⟨_, yP σ + 1, 0, rfl, ?_, fun h => absurd h2 h, fun _ _ => Or.inl ⟨h1, rfl, Or.inl ⟨⟨h3, h4⟩, rfl, rfl⟩⟩⟩, hx⟩
        have := zI_self (σ := zI σ 25 21 (yP σ + 1)) 25 23
        rw [show (zI σ 25 21 (yP σ + 1)).1 25 23 = 0 from h2] at this
        exact this
      · exact ⟨_, _, ⟨_, yP σ + 1, b, rfl, rfl, fun _ => hb, fun h _ => Or.inl ⟨h1, rfl, Or.inr ⟨fun g => h2 ⟨h, g.1, g.2⟩, hb⟩⟩⟩, hx⟩
  · cases hs
end RF
