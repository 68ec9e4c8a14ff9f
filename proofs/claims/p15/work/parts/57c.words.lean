/-! THE REFERENCE: words() -/
section RF
variable {c0 : mH} {v5 : Value}
theorem z152_l (h0 : zC0 c0) {d n : Nat} {r : mO × mH} {τ : zS} : ∀ (m : Nat) (w f v p b : Int32), zF v5 d n 152 m 4 [(2, .int 1), (1, .int w), (4, .int f), (3, .int v), (0, .ref 183)] [] (zH c0 (zPb2 τ p b)) = some r → yWp τ w p b r c0 := by
  intro m
  induction m using Nat.strongRecOn with
  | ind m ih =>
    intro w f v p b hx
    replace hx := zTr (C := nC152) (tb := [(149, sp149)]) h0 rfl rfl ⟨z149 h0, trivial⟩ (fun pc => pc.beq 23) 60 hx
    rcases hx with ⟨h, -⟩ | ⟨-, ⟨h1, hx⟩ | ⟨h1, o1, σ1, h2, hx⟩⟩
    · exact absurd (cEqT h) (by decide)
    · have h1 : ¬ b = 0 := cNeT h1
      exact ⟨w, p, b, hx, fun h => h, fun h => absurd h h1⟩
    · have h1 : b = 0 := cNeF h1
      obtain ⟨x, q, b2, rfl, rfl, h3, h4⟩ := yTo_2 h2
      obtain ⟨m1, hm1, hx⟩ := hx
      have hx : zF v5 d n 152 m1 23 [(4, .int 5), (3, .int x), (2, .int 1), (1, .int w), (0, .ref 183)] [] (zH c0 (zPb2 τ q b2)) = some r := hx
      -- behind the field: 92
      have fin92 : ∀ (m2 : Nat) (f q2 : Int32), m2 < m → (p.toInt ≤ 1000 ∧ (yE τ).toInt ≤ 240 → yEx τ p = some (x, q) ∧ yFl τ q = some (f, q2)) → zF v5 d n 152 m2 92 [(4, .int f), (3, .int x), (2, .int 1), (1, .int w), (0, .ref 183)] [] (zH c0 (zPb2 τ q2 0)) = some r → yWp τ w p b r c0 := by
        intro m2 f q2 hm2 hF hx
        replace hx := zTr (C := nC152) (tb := [(101, sp101), (172, sp172), (148, sp148)]) h0 rfl rfl ⟨z101 h0, z172 h0, z148 h0, trivial⟩ (fun pc => pc.beq 4) 60 hx
        rcases hx with ⟨h, -⟩ | ⟨-, hx⟩
        · exact absurd rfl (cNeT h)
        · obtain ⟨_, _, ⟨rfl, rfl⟩, _, _, ⟨rfl, rfl⟩, hx⟩ := hx
          rcases hx with ⟨h, -⟩ | ⟨-, hx⟩
          · exact absurd rfl (cNeT h)
          · obtain ⟨_, _, ⟨rfl, rfl⟩, hx⟩ := hx
            rcases hx with ⟨h5, ⟨-, m3, hm3, hx⟩ | ⟨h, -⟩⟩ | ⟨h5, ⟨h, -⟩ | ⟨-, m3, hm3, hx⟩⟩
            · have h5 : ¬ yH τ q2 = 44 := cNeT h5
              have hx : zF v5 d n 152 m3 4 [(2, .int 0), (1, .int (yPut w f (yOf x))), (4, .int f), (3, .int x), (0, .ref 183)] [] (zH c0 (zI (zPb2 τ q2 0) 25 21 (q2 + 0))) = some r := hx
              have hx := zF_lv (b := [(2, .int 0), (1, .int (yPut w f (yOf x))), (0, .ref 183), (4, .int f), (3, .int x)]) (fun e he => by
                simp only [List.mem_cons, List.not_mem_nil, or_false] at he
                rcases he with rfl | rfl | rfl | rfl | rfl <;> rfl) hx
              rw [zPb2_p, zPb2_2, Int32.add_zero] at hx
              refine ⟨_, q2, 0, z152_0 h0 rfl hx, fun h => absurd h1 h, fun _ hp => Or.inl ⟨rfl, ?_⟩⟩
              rw [yWs_step, (hF hp).1]
              dsimp only
              rw [(hF hp).2]
              dsimp only
              rw [if_neg h5]
            · exact absurd rfl (cEqF h)
            · exact absurd (cEqT h) (by decide)
            · have h5 : yH τ q2 = 44 := cNeF h5
              have hx : zF v5 d n 152 m3 4 [(2, .int 1), (1, .int (yPut w f (yOf x))), (4, .int f), (3, .int x), (0, .ref 183)] [] (zH c0 (zI (zPb2 τ q2 0) 25 21 (q2 + 1))) = some r := hx
              rw [zPb2_p, zPb2_2] at hx
              obtain ⟨x', q', b', k1, k2, k3⟩ := ih m3 (by omega) _ f x (q2 + 1) 0 hx
              refine ⟨x', q', b', k1, fun h => absurd h1 h, fun _ hp => ?_⟩
              rw [yWs_step, (hF hp).1]
              dsimp only
              rw [(hF hp).2]
              dsimp only
              rw [if_pos h5]
              have h6 := yH_lt h5 (by decide)
              have h7 := zInc h6.1
              have h8 := Int32.lt_iff_toInt_lt.mp h6.1
              exact k3 rfl ⟨by omega, hp.2⟩
      have bad92 : ∀ (m2 : Nat) (f q2 b3 : Int32), ¬ b3 = 0 → (p.toInt ≤ 1000 ∧ (yE τ).toInt ≤ 240 → yWs τ w p = none) → zF v5 d n 152 m2 92 [(4, .int f), (3, .int x), (2, .int 1), (1, .int w), (0, .ref 183)] [] (zH c0 (zPb2 τ q2 b3)) = some r → yWp τ w p b r c0 := by
        intro m2 f q2 b3 hb hn hx
        obtain ⟨q', g⟩ := z152_b h0 hb hx
        exact ⟨w, q', b3, g, fun _ => hb, fun _ hp => Or.inr ⟨hb, hn hp⟩⟩
      -- the check of the field: 61
      have chk61 : ∀ (m2 : Nat) (f q2 b3 : Int32), m2 < m → (p.toInt ≤ 1000 ∧ (yE τ).toInt ≤ 240 → yEx τ p = some (x, q) ∧ ((b3 = 0 ∧ (yOkf f → yFl τ q = some (f, q2)) ∧ (¬ yOkf f → yFl τ q = none)) ∨ (¬ b3 = 0 ∧ yFl τ q = none))) → zF v5 d n 152 m2 61 [(4, .int f), (3, .int x), (2, .int 1), (1, .int w), (0, .ref 183)] [] (zH c0 (zPb2 τ q2 b3)) = some r → yWp τ w p b r c0 := by
        intro m2 f q2 b3 hm2 hF hx
        have none_of : (p.toInt ≤ 1000 ∧ (yE τ).toInt ≤ 240 → yFl τ q = none) → (p.toInt ≤ 1000 ∧ (yE τ).toInt ≤ 240 → yWs τ w p = none) := by
          intro g hp
          rw [yWs_step, (hF hp).1]
          dsimp only
          rw [g hp]
        replace hx := zTr (C := nC152) (tb := [(168, sp168), (40, sp40)]) h0 rfl rfl ⟨z168 h0, z40 h0, trivial⟩ (fun pc => pc.beq 92) 60 hx
        have wr : ∀ (m3 : Nat), ¬ yOkf f → b3 = 0 → zF v5 d n 152 m3 92 [(4, .int f), (3, .int x), (2, .int 1), (1, .int w), (0, .ref 183)] [] (zH c0 (zI (zPb2 τ q2 b3) 25 23 1)) = some r → yWp τ w p b r c0 := by
          intro m3 hno hb3 hx
          rw [show zI (zPb2 τ q2 b3) 25 23 1 = zPb2 τ q2 1 from zI_zI 25 23 _ _] at hx
          exact bad92 m3 f q2 1 (by decide) (none_of (fun hp => (hF hp).2.elim (fun g => g.2.2 hno) (fun g => absurd hb3 g.1))) hx
        rcases hx with ⟨g1, m3, hm3, hx⟩ | ⟨g1, hx⟩
        · have g1 : ¬ b3 = 0 := cNeT g1
          exact bad92 m3 f q2 b3 g1 (none_of (fun hp => (hF hp).2.elim (fun g => absurd g.1 g1) And.right)) hx
        · have g1 : b3 = 0 := cNeF g1
          rcases hx with ⟨g2, _, _, ⟨rfl, rfl⟩, m3, hm3, hx⟩ | ⟨g2, ⟨g3, _, _, ⟨rfl, rfl⟩, m3, hm3, hx⟩ | ⟨g3, hx⟩⟩
          · exact wr m3 (fun h => h.1 (cLtT g2)) g1 hx
          · exact wr m3 (fun h => h.2.1 (cGtT g3)) g1 hx
          · obtain ⟨_, _, ⟨g4, rfl, rfl⟩ | ⟨g4, rfl, rfl⟩, hx⟩ := hx
            · rcases hx with ⟨-, m3, hm3, hx⟩ | ⟨h, -⟩
              · have hx : zF v5 d n 152 m3 92 [(4, .int f), (3, .int x), (2, .int 1), (1, .int w), (0, .ref 183)] [] (zH c0 (zPb2 τ q2 b3)) = some r := hx
                rw [g1] at hx
                exact fin92 m3 f q2 (by omega) (fun hp => ⟨(hF hp).1, (hF hp).2.elim (fun g => g.2.1 ⟨cLtF g2, cGtF g3, g4⟩) (fun g => absurd g1 g.1)⟩) hx
              · exact absurd (cNeF h) (by decide)
            · rcases hx with ⟨h, -⟩ | ⟨-, _, _, ⟨rfl, rfl⟩, m3, hm3, hx⟩
              · exact absurd rfl (cNeT h)
              · exact wr m3 (fun h => g4 h.2.2) g1 hx
      replace hx := zTr (C := nC152) (tb := [(148, sp148), (149, sp149), (150, sp150)]) h0 rfl rfl ⟨z148 h0, z149 h0, z150 h0, trivial⟩ (fun pc => pc.beq 61 || pc.beq 92) 60 hx
      rcases hx with ⟨g1, m2, hm2, hx⟩ | ⟨g1, hx⟩
      · have g1 : ¬ b2 = 0 := cNeT g1
        have hx : zF v5 d n 152 m2 61 [(4, .int 5), (3, .int x), (2, .int 1), (1, .int w), (0, .ref 183)] [] (zH c0 (zPb2 τ q b2)) = some r := hx
        replace hx := zTr (C := nC152) (tb := []) h0 rfl rfl trivial (fun pc => pc.beq 92) 60 hx
        rcases hx with ⟨-, m3, hm3, hx⟩ | ⟨h, -⟩
        · refine bad92 m3 5 q b2 g1 (fun hp => ?_) hx
          rw [yWs_step]
          rcases h4 h1 hp with ⟨k, -⟩ | ⟨-, k⟩
          · exact absurd k g1
          · rw [k]
        · exact absurd (show b2 = 0 from cNeF h) g1
      · have g1 : b2 = 0 := cNeF g1
        have hE : p.toInt ≤ 1000 ∧ (yE τ).toInt ≤ 240 → yEx τ p = some (x, q) := fun hp => (h4 h1 hp).elim And.right (fun k => absurd g1 k.1)
        obtain ⟨_, _, ⟨rfl, rfl⟩, hx⟩ := hx
        rcases hx with ⟨g2, m2, hm2, hx⟩ | ⟨g2, o3, σ3, g3, hx⟩
        · have g2 : ¬ yH τ q = 40 := cNeT g2
          refine chk61 m2 5 q b2 (by omega) (fun hp => ⟨hE hp, Or.inl ⟨g1, fun _ => ?_, fun h => absurd (by decide) h⟩⟩) hx
          unfold yFl
          rw [if_neg g2]
        · have g2 : yH τ q = 40 := cNeF g2
          have g3 : yTo (zI (zPb2 τ q b2) 25 21 (q + 1)) (yEx (zI (zPb2 τ q b2) 25 21 (q + 1)) (yP (zI (zPb2 τ q b2) 25 21 (q + 1)))) o3 σ3 := g3
          rw [zPb2_p, zPb2_2] at g3
          obtain ⟨y, q3, b3, rfl, rfl, k3, k4⟩ := yTo_2 g3
          obtain ⟨_, _, ⟨b4, k5, rfl, rfl⟩, m2, hm2, hx⟩ := hx
          have hx : zF v5 d n 152 m2 61 [(4, .int y), (3, .int x), (2, .int 1), (1, .int w), (0, .ref 183)] [] (zH c0 (zPb2 (zPb2 τ q3 b3) (q3 + 1) b4)) = some r := hx
          rw [zPb2_2] at hx
          have h6 := yH_lt g2 (by decide)
          have h7 := zInc h6.1
          have h8 := Int32.lt_iff_toInt_lt.mp h6.1
          have k5 : (yH τ q3 = 41 ∧ b4 = b3) ∨ (¬ yH τ q3 = 41 ∧ b4 = 1) := k5
          refine chk61 m2 y (q3 + 1) b4 (by omega) (fun hp => ⟨hE hp, ?_⟩) hx
          unfold yFl
          rw [if_pos g2]
          rcases k4 g1 ⟨by omega, hp.2⟩ with ⟨k6, k7⟩ | ⟨k6, k7⟩
          · rw [k7]
            dsimp only
            rcases k5 with ⟨k8, k9⟩ | ⟨k8, k9⟩
            · exact Or.inl ⟨k9.trans k6, fun hk => by rw [if_pos ⟨k8, hk⟩], fun hk => by rw [if_neg (fun h => hk h.2)]⟩
            · exact Or.inr ⟨by rw [k9]; decide, by rw [if_neg (fun h => k8 h.1)]⟩
          · rw [k7]
            refine Or.inr ⟨?_, rfl⟩
            rcases k5 with ⟨-, k9⟩ | ⟨-, k9⟩
            · rw [k9]; exact k6
            · rw [k9]; decide
theorem z152 (h0 : zC0 c0) : zSp c0 v5 152 sp152 := by
  intro d n as σ cs r hs hx
  unfold sp152 at hs
  split at hs
  · cases hs
    obtain ⟨d', hx⟩ := zGo hx
    obtain ⟨m', hm, hx⟩ := zTr (C := nC152) (tb := []) h0 rfl rfl trivial (fun pc => pc.beq 4) 60 hx
    have hx : zF v5 d' n 152 m' 4 [(2, .int 1), (1, .int 0), (0, .ref 183)] [] (zH c0 σ) = some r := hx
    have hx := zF_lv (b := [(2, .int 1), (1, .int 0), (4, .int 0), (3, .int 0), (0, .ref 183)]) (fun e he => by
      simp only [List.mem_cons, List.not_mem_nil, or_false] at he
      rcases he with rfl | rfl | rfl <;> rfl) hx
    rw [← zPb2_self σ] at hx
    obtain ⟨x, q, b, g1, g2, g3⟩ := z152_l h0 m' _ _ _ _ _ hx
    exact ⟨_, _, ⟨x, q, b, rfl, rfl, g2, g3⟩, g1⟩
  · cases hs
end RF
