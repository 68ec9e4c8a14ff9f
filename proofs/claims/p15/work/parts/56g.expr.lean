/-! THE REFERENCE: expressions, what is expected -/
abbrev sp150 (as : List Value) (σ : zS) : Option zCs := match as with
  | [.ref 183, .int c] => some (fun o σ' => ∃ b, ((yHr σ = c ∧ b = yB σ) ∨ (¬ yHr σ = c ∧ b = 1)) ∧ zN (zPb2 σ (yP σ + 1) b) o σ')
  | _ => none
section RF
variable {c0 : mH} {v5 : Value}
theorem z149_a (h0 : zC0 c0) {d n m : Nat} {r : mO × mH} {τ : zS} {ng p b : Int32} (hg : ng = 0 ∨ ng = 1) (hx : zF v5 d n 149 m 38 [(1, .int ng), (0, .ref 183)] [] (zH c0 (zPb2 τ p b)) = some r) : ∃ x q b', r = zOut c0 (.inl (some (.int x))) (zPb2 τ q b') ∧ (¬ b = 0 → ¬ b' = 0) ∧ (b = 0 → p.toInt ≤ 1000 ∧ (yE τ).toInt ≤ 240 → (b' = 0 ∧ (match yA τ p with
    | none => none
    | some y => yLoop (yA τ) (yT τ) (yE τ) (if ng = 1 then -y.1 else y.1) y.2) = some (x, q)) ∨ (¬ b' = 0 ∧ (match yA τ p with
    | none => none
    | some y => yLoop (yA τ) (yT τ) (yE τ) (if ng = 1 then -y.1 else y.1) y.2) = none)) := by
  replace hx := zTr (C := nC149) (tb := [(194, sp194)]) h0 rfl rfl ⟨z194 h0, trivial⟩ (fun pc => pc.beq 50) 60 hx
  obtain ⟨o1, σ1, h3, hx⟩ := hx
  obtain ⟨x, q, b2, rfl, rfl, h4, h5⟩ := yAtP_2 h3
  have fin : ∀ (m' : Nat) (v : Int32), v = (if ng = 1 then -x else x) → zF v5 d n 149 m' 50 [(2, .int v), (1, .int ng), (0, .ref 183)] [] (zH c0 (zPb2 τ q b2)) = some r → ∃ x q b', r = zOut c0 (.inl (some (.int x))) (zPb2 τ q b') ∧ (¬ b = 0 → ¬ b' = 0) ∧ (b = 0 → p.toInt ≤ 1000 ∧ (yE τ).toInt ≤ 240 → (b' = 0 ∧ (match yA τ p with
    | none => none
    | some y => yLoop (yA τ) (yT τ) (yE τ) (if ng = 1 then -y.1 else y.1) y.2) = some (x, q)) ∨ (¬ b' = 0 ∧ (match yA τ p with
    | none => none
    | some y => yLoop (yA τ) (yT τ) (yE τ) (if ng = 1 then -y.1 else y.1) y.2) = none)) := by
    intro m' v hv hx
    have hx := zF_lv (b := [(2, .int v), (4, .int 0), (3, .int 0), (1, .int ng), (0, .ref 183)]) (fun e he => by
      simp only [List.mem_cons, List.not_mem_nil, or_false] at he
      rcases he with rfl | rfl | rfl <;> rfl) hx
    obtain ⟨x', q', b', g1, g2, g3⟩ := z149_l h0 m' v 0 0 q b2 hx
    refine ⟨x', q', b', g1, fun h => g2 (h4 h), fun hb hp => ?_⟩
    rcases h5 hb hp.1 with ⟨k1, k2⟩ | ⟨k1, k2⟩
    · rw [k2]
      dsimp only
      rw [← hv]
      have hq := yA_ge _ _ k2
      exact g3 k1 ⟨by dsimp only at hq; omega, hp.2⟩
    · rw [k2]
      exact Or.inr ⟨g2 k1, rfl⟩
  rcases hx with ⟨g1, m', hm, hx⟩ | ⟨g1, m', hm, hx⟩
  · have g1 : ng = 0 := cEqT g1
    refine fin m' x ?_ hx
    rw [g1]
    rfl
  · have g1 : ¬ ng = 0 := cEqF g1
    have e1 : ng = 1 := hg.elim (fun h => absurd h g1) id
    refine fin m' (-x) ?_ hx
    rw [if_pos e1]
theorem z149 (h0 : zC0 c0) : zSp c0 v5 149 sp149 := by
  intro d n as σ cs r hs hx
  unfold sp149 at hs
  split at hs
  · cases hs
    obtain ⟨d', hx⟩ := zGo hx
    replace hx := zTr (C := nC149) (tb := [(148, sp148)]) h0 rfl rfl ⟨z148 h0, trivial⟩ (fun pc => pc.beq 38) 60 hx
    have e0 : zPb2 σ (yP σ) (yB σ) = σ := zPb2_self σ
    obtain ⟨_, _, ⟨rfl, rfl⟩, hx⟩ := hx
    have fin : ∀ (m' : Nat) (ng p : Int32), (ng = 0 ∨ ng = 1) → (p = yP σ ∨ (yP σ < yE σ ∧ p = yP σ + 1)) → yEx σ (yP σ) = (match yA σ p with
        | none => none
        | some y => yLoop (yA σ) (yT σ) (yE σ) (if ng = 1 then -y.1 else y.1) y.2) → zF v5 d' n 149 m' 38 [(1, .int ng), (0, .ref 183)] [] (zH c0 (zPb2 σ p (yB σ))) = some r → ∃ o σ', yTo σ (yEx σ (yP σ)) o σ' ∧ r = zOut c0 o σ' := by
      intro m' ng p hg hp he hx
      obtain ⟨x, q, b', g1, g2, g3⟩ := z149_a h0 hg hx
      refine ⟨_, _, ⟨x, q, b', rfl, rfl, g2, fun hb hpe => ?_⟩, g1⟩
      rw [he]
      refine g3 hb ⟨?_, hpe.2⟩
      rcases hp with rfl | ⟨hl, rfl⟩
      · exact hpe.1
      · have := zInc hl
        have := Int32.lt_iff_toInt_lt.mp hl
        omega
    rcases hx with ⟨h1, hx⟩ | ⟨h1, hx⟩
    · have h1 : ¬ yH σ (yP σ) = 45 := cNeT h1
      rcases hx with ⟨h, -⟩ | ⟨-, _, _, ⟨rfl, rfl⟩, ⟨h2, m', hm, hx⟩ | ⟨h2, m', hm, hx⟩⟩
      · exact absurd rfl (cNeT h)
      · have h2 : ¬ yH σ (yP σ) = 43 := cNeT h2
        refine fin m' 0 (yP σ) (Or.inl rfl) (Or.inl rfl) ?_ ?_
        · unfold yEx
          rw [if_neg h1, if_neg h2]
          rfl
        · rw [e0]
          exact hx
      · have h2 : yH σ (yP σ) = 43 := cNeF h2
        have hx : zF v5 d' n 149 m' 38 [(1, .int 0), (0, .ref 183)] [] (zH c0 (zI σ 25 21 (yP σ + 1))) = some r := hx
        rw [zPb2_p] at hx
        refine fin m' 0 (yP σ + 1) (Or.inl rfl) (Or.inr ⟨(yH_lt h2 (by decide)).1, rfl⟩) ?_ hx
        unfold yEx
        rw [if_neg h1, if_pos h2]
        rfl
    · have h1 : yH σ (yP σ) = 45 := cNeF h1
      rcases hx with ⟨-, m', hm, hx⟩ | ⟨h, -⟩
      · have hx : zF v5 d' n 149 m' 38 [(1, .int 1), (0, .ref 183)] [] (zH c0 (zI σ 25 21 (yP σ + 1))) = some r := hx
        rw [zPb2_p] at hx
        refine fin m' 1 (yP σ + 1) (Or.inr rfl) (Or.inr ⟨(yH_lt h1 (by decide)).1, rfl⟩) ?_ hx
        unfold yEx
        rw [if_pos h1]
        rfl
      · exact absurd (cNeF h) (by decide)
  · cases hs
theorem z150 (h0 : zC0 c0) : zSp c0 v5 150 sp150 := by
  intro d n as σ cs r hs hx
  unfold sp150 at hs
  split at hs
  · cases hs
    obtain ⟨d', hx⟩ := zGo hx
    obtain ⟨_, _, ⟨rfl, rfl⟩, hx⟩ := zTr (C := nC150) (tb := [(148, sp148), (40, sp40)]) h0 rfl rfl ⟨z148 h0, z40 h0, trivial⟩ (fun _ => false) 60 hx
    rcases hx with ⟨h1, hx⟩ | ⟨h1, _, _, ⟨rfl, rfl⟩, hx⟩
    · refine ⟨_, _, ⟨yB σ, Or.inl ⟨cEqT h1, rfl⟩, rfl, ?_⟩, hx⟩
      exact (zPb2_p σ _).symm
    · refine ⟨_, _, ⟨1, Or.inr ⟨cEqF h1, rfl⟩, rfl, ?_⟩, hx⟩
      show zPb2 σ (yP σ + 1) 1 = zI (zI σ 25 23 1) 25 21 (yP σ + 1)
      unfold zPb2 zI
      dsimp only
      congr 1
      funext k i
      by_cases h : k = 25 ∧ i = 21
      · obtain ⟨rfl, rfl⟩ := h
        rfl
      · rw [u2_ne _ _ h]
        by_cases h' : k = 25 ∧ i = 23
        · obtain ⟨rfl, rfl⟩ := h'
          rfl
        · rw [u2_ne _ _ h', u2_ne _ _ h', u2_ne _ _ h]
  · cases hs
end RF
