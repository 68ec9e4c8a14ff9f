/-! THE REFERENCE: expressions -/
theorem yA_pb (τ : zS) (p b : Int32) : yA (zPb2 τ p b) = yA τ := rfl
theorem yEx_pb (τ : zS) (p b : Int32) : yEx (zPb2 τ p b) = yEx τ := rfl
/-- what is left of an expression -/
abbrev yLp (τ : zS) (v p b : Int32) (r : mO × mH) (c0 : mH) : Prop := ∃ x q b', r = zOut c0 (.inl (some (.int x))) (zPb2 τ q b') ∧ (¬ b = 0 → ¬ b' = 0) ∧ (b = 0 → p.toInt ≤ 1000 ∧ (yE τ).toInt ≤ 240 → (b' = 0 ∧ yLoop (yA τ) (yT τ) (yE τ) v p = some (x, q)) ∨ (¬ b' = 0 ∧ yLoop (yA τ) (yT τ) (yE τ) v p = none))
section RF
variable {c0 : mH} {v5 : Value}
/-- an atom from here on, in its own words -/
theorem yAtP_2 {τ σ' : zS} {p b : Int32} {o : zO} (h : yAtP (zPb2 τ p b) o σ') : ∃ x q b', o = .inl (some (.int x)) ∧ zPb2 τ q b' = σ' ∧ (¬ b = 0 → ¬ b' = 0) ∧ (b = 0 → p.toInt ≤ 1000 → (b' = 0 ∧ yA τ p = some (x, q)) ∨ (¬ b' = 0 ∧ yA τ p = none)) := by
  obtain ⟨x, q, b', h1, h2, h3, h4⟩ := h
  rw [zPb2_2] at h2
  exact ⟨x, q, b', h1, h2, h3, fun hb hp => yA_ok (τ := zPb2 τ p b) (h4 hb hp)⟩
theorem z149_l (h0 : zC0 c0) {d n : Nat} {r : mO × mH} {τ : zS} {ng : Int32} : ∀ (m : Nat) (v w c p b : Int32), zF v5 d n 149 m 50 [(2, .int v), (4, .int w), (3, .int c), (1, .int ng), (0, .ref 183)] [] (zH c0 (zPb2 τ p b)) = some r → yLp τ v p b r c0 := by
  intro m
  induction m using Nat.strongRecOn with
  | ind m ih =>
    intro v w c p b hx
    replace hx := zTr (C := nC149) (tb := [(148, sp148), (195, sp195)]) h0 rfl rfl ⟨z148 h0, z195 h0, trivial⟩ (fun pc => pc.beq 82) 60 hx
    rcases hx with ⟨h1, hx⟩ | ⟨h1, hx⟩
    · have h1 : ¬ b = 0 := cNeT h1
      exact ⟨v, p, b, hx, fun h => h, fun h => absurd h h1⟩
    · have h1 : b = 0 := cNeF h1
      obtain ⟨_, _, ⟨rfl, rfl⟩, _, _, ⟨h2, rfl, rfl⟩ | ⟨h2, rfl, rfl⟩, hx⟩ := hx
      · rcases hx with ⟨h, -⟩ | ⟨-, hx⟩
        · exact absurd (cEqT h) (by decide)
        · obtain ⟨_, _, ⟨rfl, rfl⟩, m1, hm1, hx⟩ := hx
          have h2 : zOpr (yH τ p) := h2
          have hlt : p < yE τ := by
            by_cases hl : p < yE τ
            · exact hl
            · have e : yH τ p = -1 := if_neg hl
              rw [e] at h2
              exact absurd h2 (by decide)
          have hH : yH τ p = yT τ p.toNatClampNeg := if_pos hlt
          rw [hH] at h2
          have hx : zF v5 d n 149 m1 82 [(3, .int (yH τ p)), (2, .int v), (4, .int w), (1, .int ng), (0, .ref 183)] [] (zH c0 (zI (zPb2 τ p b) 25 21 (p + 1))) = some r := hx
          rw [hH, zPb2_p, zPb2_2] at hx
          have hx : zF v5 d n 149 m1 82 [(3, .int (yT τ p.toNatClampNeg)), (2, .int v), (4, .int w), (1, .int ng), (0, .ref 183)] [] (zH c0 (zPb2 τ (p + 1) b)) = some r := hx
          generalize hc : yT τ p.toNatClampNeg = c' at hx h2
          replace hx := zTr (C := nC149) (tb := [(194, sp194), (40, sp40)]) h0 rfl rfl ⟨z194 h0, z40 h0, trivial⟩ (fun pc => pc.beq 103) 60 hx
          obtain ⟨o1, σ1, h3, hx⟩ := hx
          obtain ⟨x, q, b2, rfl, rfl, h4, h5⟩ := yAtP_2 h3
          have go : ∀ (m' : Nat) (v' p' b' : Int32) (lv : mL), m' < m → (∃ w' c'', rSubl lv [(2, .int v'), (4, .int w'), (3, .int c''), (1, .int ng), (0, .ref 183)]) → zF v5 d n 149 m' 50 lv [] (zH c0 (zPb2 τ p' b')) = some r → yLp τ v' p' b' r c0 := by
            intro m' v' p' b' lv hm hl hx
            obtain ⟨w', c'', hl⟩ := hl
            exact ih m' hm v' w' c'' p' b' (zF_lv hl hx)
          -- once it is wrong it stays so
          have bad : ∀ (m2 : Nat) (b3 : Int32), m2 < m → ¬ b3 = 0 → (p.toInt ≤ 1000 ∧ (yE τ).toInt ≤ 240 → yLoop (yA τ) (yT τ) (yE τ) v p = none) → zF v5 d n 149 m2 103 [(4, .int x), (3, .int c'), (2, .int v), (1, .int ng), (0, .ref 183)] [] (zH c0 (zPb2 τ q b3)) = some r → yLp τ v p b r c0 := by
            intro m2 b3 hm2 hb3 hn hx
            replace hx := zTr (C := nC149) (tb := []) h0 rfl rfl trivial (fun pc => pc.beq 50 || pc.beq 110) 60 hx
            rcases hx with ⟨-, m3, hm3, hx⟩ | ⟨h, -⟩
            · obtain ⟨x', q', b', g1, g2, -⟩ := go m3 v q b3 _ (by omega) ⟨x, c', fun e he => by
                have he : e ∈ [(4, Value.int x), (3, Value.int c'), (2, Value.int v), (1, Value.int ng), (0, Value.ref 183)] := he
                simp only [List.mem_cons, List.not_mem_nil, or_false] at he
                rcases he with rfl | rfl | rfl | rfl | rfl <;> rfl⟩ hx
              exact ⟨x', q', b', g1, fun h => absurd h1 h, fun _ hp => Or.inr ⟨g2 hb3, hn hp⟩⟩
            · exact absurd (show b3 = 0 from cNeF h) hb3
          have hp1 : p.toInt ≤ 1000 ∧ (yE τ).toInt ≤ 240 → (p + 1).toInt ≤ 1000 := fun h => by
            have := zInc hlt
            have := Int32.lt_iff_toInt_lt.mp hlt
            omega
          have hgo := yLoop_go (A := yA τ) (T := yT τ) (e := yE τ) (v := v) (fun p b h => (yA_ge p b h).1) hlt (by rw [hc]; exact h2)
          rw [hc] at hgo
          have h9 : ∀ (m2 : Nat) (b3 : Int32), m2 < m → (b3 = b2 ∧ ¬ (c' = 47 ∧ x = 0)) ∨ (b3 = 1 ∧ c' = 47 ∧ x = 0) → zF v5 d n 149 m2 103 [(4, .int x), (3, .int c'), (2, .int v), (1, .int ng), (0, .ref 183)] [] (zH c0 (zPb2 τ q b3)) = some r → yLp τ v p b r c0 := by
            intro m2 b3 hm2 hb3 hy
            by_cases h2z : b2 = 0
            · rcases hb3 with ⟨e3, hne⟩ | ⟨e3, hz⟩
              · have hAx : p.toInt ≤ 1000 ∧ (yE τ).toInt ≤ 240 → yA τ (p + 1) = some (x, q) := fun h => (h5 h1 (hp1 h)).elim And.right (fun g => absurd h2z g.1)
                rw [e3] at hy
                clear hx
                have hx := hy
                replace hx := zTr (C := nC149) (tb := []) h0 rfl rfl trivial (fun pc => pc.beq 50 || pc.beq 180) 60 hx
                have fin : ∀ (m3 : Nat) (X : Int64), m3 < m → X = yCv v c' x → zF v5 d n 149 m3 180 [(4, .int x), (3, .int c'), (2, .int v), (1, .int ng), (0, .ref 183)] [.long X, .ref 183] (zH c0 (zPb2 τ q b2)) = some r → yLp τ v p b r c0 := by
                  intro m3 X hm3 hX hx
                  subst hX
                  replace hx := zTr (C := nC149) (tb := [(196, sp196)]) h0 rfl rfl ⟨z196 h0, trivial⟩ (fun pc => pc.beq 50) 60 hx
                  obtain ⟨_, _, ⟨g1, g2, g3, rfl, rfl⟩ | ⟨g1, b4, g2, rfl, rfl⟩, m4, hm4, hx⟩ := hx
                  · obtain ⟨x', q', b', k1, k2, k3⟩ := go m4 (yCv v c' x).toInt32 q b2 _ (by omega) ⟨x, c', fun e he => by
                      have he : e ∈ [(2, Value.int (yCv v c' x).toInt32), (4, Value.int x), (3, Value.int c'), (1, Value.int ng), (0, Value.ref 183)] := he
                      simp only [List.mem_cons, List.not_mem_nil, or_false] at he
                      rcases he with rfl | rfl | rfl | rfl | rfl <;> rfl⟩ hx
                    refine ⟨x', q', b', k1, fun h => absurd h1 h, fun _ hp => ?_⟩
                    have hq := yA_ge _ _ (hAx hp)
                    rw [hgo, hAx hp]
                    have hcb : yCb v c' x = some (yCv v c' x).toInt32 := by
                      unfold yCb
                      rw [if_neg hne, if_pos ⟨g2, g3⟩]
                    dsimp only
                    rw [hcb]
                    exact k3 h2z ⟨by dsimp only at hq; omega, hp.2⟩
                  · have hx : zF v5 d n 149 m4 50 [(2, .int 0), (4, .int x), (3, .int c'), (1, .int ng), (0, .ref 183)] [] (zH c0 (zI (zPb2 τ q b2) 25 23 b4)) = some r := hx
                    rw [show zI (zPb2 τ q b2) 25 23 b4 = zPb2 τ q b4 from zI_zI 25 23 _ _] at hx
                    obtain ⟨x', q', b', k1, k2, -⟩ := ih m4 (by omega) 0 x c' q b4 hx
                    refine ⟨x', q', b', k1, fun h => absurd h1 h, fun _ hp => Or.inr ⟨k2 g2, ?_⟩⟩
                    rw [hgo, hAx hp]
                    have hcb : yCb v c' x = none := by
                      unfold yCb
                      rw [if_neg hne, if_neg (fun h => g1 ⟨h2z, h.1, h.2⟩)]
                    dsimp only
                    rw [hcb]
                rcases hx with ⟨h, -⟩ | ⟨-, hx⟩
                · exact absurd h2z (cNeT h)
                · rcases hx with ⟨g1, ⟨g2, ⟨g3, ⟨g4, m3, hm3, hx⟩ | ⟨g4, g5, m3, hm3, hx⟩⟩ | ⟨g3, m3, hm3, hx⟩⟩ | ⟨g2, m3, hm3, hx⟩⟩ | ⟨g1, m3, hm3, hx⟩
                  · refine fin m3 _ (by omega) ?_ hx
                    unfold yCv
                    rw [if_neg (show ¬ c' = 43 from cNeT g1), if_neg (show ¬ c' = 45 from cNeT g2), if_neg (show ¬ c' = 42 from cNeT g3), if_neg (show ¬ c' = 47 from cNeT g4)]
                  · refine fin m3 _ (by omega) ?_ hx
                    unfold yCv
                    rw [if_neg (show ¬ c' = 43 from cNeT g1), if_neg (show ¬ c' = 45 from cNeT g2), if_neg (show ¬ c' = 42 from cNeT g3), if_pos (show c' = 47 from cNeF g4)]
                  · refine fin m3 _ (by omega) ?_ hx
                    unfold yCv
                    rw [if_neg (show ¬ c' = 43 from cNeT g1), if_neg (show ¬ c' = 45 from cNeT g2), if_pos (show c' = 42 from cNeF g3)]
                  · refine fin m3 _ (by omega) ?_ hx
                    unfold yCv
                    rw [if_neg (show ¬ c' = 43 from cNeT g1), if_pos (show c' = 45 from cNeF g2)]
                  · refine fin m3 _ (by omega) ?_ hx
                    unfold yCv
                    rw [if_pos (show c' = 43 from cNeF g1)]
              · rw [e3] at hy
                refine bad m2 1 hm2 (by decide) (fun hp => ?_) hy
                rw [hgo]
                rcases h5 h1 (hp1 hp) with ⟨-, g⟩ | ⟨g, -⟩
                · rw [g]
                  have hcb : yCb v c' x = none := by
                    unfold yCb
                    rw [if_pos hz]
                  dsimp only
                  rw [hcb]
                · exact absurd h2z g
            · have hne : ¬ b3 = 0 := hb3.elim (fun h => by rw [h.1]; exact h2z) (fun h => by rw [h.1]; decide)
              refine bad m2 b3 hm2 hne (fun hp => ?_) hy
              rw [hgo]
              rcases h5 h1 (hp1 hp) with ⟨g, -⟩ | ⟨-, g⟩
              · exact absurd g h2z
              · rw [g]
          rcases hx with ⟨g1, m2, hm2, hx⟩ | ⟨g1, ⟨g2, m2, hm2, hx⟩ | ⟨g2, _, _, ⟨rfl, rfl⟩, m2, hm2, hx⟩⟩
          · exact h9 m2 b2 (by omega) (Or.inl ⟨rfl, fun h => cNeT g1 h.1⟩) hx
          · exact h9 m2 b2 (by omega) (Or.inl ⟨rfl, fun h => cNeT g2 h.2⟩) hx
          · have hx : zF v5 d n 149 m2 103 [(4, .int x), (3, .int c'), (2, .int v), (1, .int ng), (0, .ref 183)] [] (zH c0 (zI (zPb2 τ q b2) 25 23 1)) = some r := hx
            rw [show zI (zPb2 τ q b2) 25 23 1 = zPb2 τ q 1 from zI_zI 25 23 _ _] at hx
            exact h9 m2 1 (by omega) (Or.inr ⟨rfl, cNeF g1, cNeF g2⟩) hx
      · rcases hx with ⟨-, hx⟩ | ⟨h, -⟩
        · have h2 : ¬ zOpr (yH τ p) := h2
          refine ⟨v, p, b, hx, fun h => h, fun _ _ => Or.inl ⟨h1, yLoop_stop (fun h => h2 ?_)⟩⟩
          have hH : yH τ p = yT τ p.toNatClampNeg := if_pos h.1
          rw [hH]
          exact h.2
        · exact absurd rfl (cEqF h)
end RF
