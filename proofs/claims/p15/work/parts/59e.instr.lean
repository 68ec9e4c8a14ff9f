/-! THE REFERENCE: instruction(), index and F -/
/-- behind the index -/
abbrev yInF (τ : zS) (x n i f q : Int32) (σ' : zS) : Prop := (yFx τ n f q = none ∧ ¬ yB σ' = 0) ∨ ∃ y q', yFx τ n f q = some (y, q') ∧ yInE τ x n i y q' σ'
abbrev yInP (τ : zS) (x n : Int32) (σ' : zS) : Prop := (yIx τ (yP τ) = none ∧ ¬ yB σ' = 0) ∨ ∃ i q, yIx τ (yP τ) = some (i, q) ∧ yInF τ x n i (yF0 n) q σ'
abbrev yInR (τ : zS) (n : Int32) : zCs := fun o σ' => ∃ x σ1, yApR τ (.inl (some (.int x))) σ1 ∧ o = .inl none ∧ yFr σ1 σ' ∧ (¬ yB σ1 = 0 → ¬ yB σ' = 0) ∧ (yB σ1 = 0 → yBnd σ1 → yInP σ1 x n σ')
abbrev sp103 (as : List Value) (σ : zS) : Option zCs := match as with
  | [.ref 183, .int n] => some (yInR σ n)
  | _ => none
section RF
variable {c0 : mH} {v5 : Value}
theorem z103_f (h0 : zC0 c0) {d n0 m : Nat} {r : mO × mH} {τ : zS} {x n i f q b : Int32} (hx : zF v5 d n0 103 m 65 [(4, .int i), (3, .int x), (2, .int f), (0, .ref 183), (1, .int n)] [] (zH c0 (zPb2 τ q b)) = some r) : ∃ σ', r = zOut c0 (.inl none) σ' ∧ yFr τ σ' ∧ (¬ b = 0 → ¬ yB σ' = 0) ∧ (b = 0 → q.toInt ≤ 1000 ∧ (yE τ).toInt ≤ 240 → yInF τ x n i f q σ') := by
  replace hx := zTr (C := nC103) (tb := [(148, sp148), (149, sp149), (150, sp150), (40, sp40)]) h0 rfl rfl ⟨z148 h0, z149 h0, z150 h0, z40 h0, trivial⟩ (fun pc => pc.beq 123 || pc.beq 102) 60 hx
  rcases hx with ⟨g1, m1, hm1, hx⟩ | ⟨g1, hx⟩
  · have g1 : ¬ b = 0 := cNeT g1
    obtain ⟨σ', k1, k2, k3, -⟩ := z103_e h0 hx
    exact ⟨σ', k1, k2, k3, fun h => absurd h g1⟩
  · have g1 : b = 0 := cNeF g1
    obtain ⟨_, _, ⟨rfl, rfl⟩, hx⟩ := hx
    rcases hx with ⟨g2, m1, hm1, hx⟩ | ⟨g2, o1, σ1, g3, hx⟩
    · have g2 : ¬ yH τ q = 40 := cNeT g2
      obtain ⟨σ', k1, k2, k3, k4⟩ := z103_e h0 hx
      refine ⟨σ', k1, k2, k3, fun hb hp => Or.inr ⟨f, q, ?_, k4 hb⟩⟩
      unfold yFx
      rw [if_neg g2]
    · have g2 : yH τ q = 40 := cNeF g2
      have g3 : yTo (zI (zPb2 τ q b) 25 21 (q + 1)) (yEx (zI (zPb2 τ q b) 25 21 (q + 1)) (yP (zI (zPb2 τ q b) 25 21 (q + 1)))) o1 σ1 := g3
      rw [zPb2_p, zPb2_2] at g3
      obtain ⟨y, q3, b3, rfl, rfl, k3, k4⟩ := yTo_2 g3
      obtain ⟨_, _, ⟨b4, k5, rfl, rfl⟩, m1, hm1, hx⟩ := hx
      have hx : zF v5 d n0 103 m1 102 [(2, .int y), (4, .int i), (3, .int x), (0, .ref 183), (1, .int n)] [] (zH c0 (zPb2 (zPb2 τ q3 b3) (q3 + 1) b4)) = some r := hx
      rw [zPb2_2] at hx
      have k5 : (yH τ q3 = 41 ∧ b4 = b3) ∨ (¬ yH τ q3 = 41 ∧ b4 = 1) := k5
      have h6 := yH_lt g2 (by decide)
      have h7 := zInc h6.1
      have h8 := Int32.lt_iff_toInt_lt.mp h6.1
      have eF : yFx τ n f q = (match yEx τ (q + 1) with
          | none => none
          | some y => if yH τ y.2 = 41 ∧ ¬ y.1 < 0 ∧ ¬ 63 < y.1 ∧ n < 8192 then some (y.1, y.2 + 1) else none) := by
        unfold yFx
        exact if_pos g2
      have nrm : ∀ (m2 : Nat) (b5 : Int32), zF v5 d n0 103 m2 123 [(2, .int y), (4, .int i), (3, .int x), (0, .ref 183), (1, .int n)] [] (zH c0 (zPb2 τ (q3 + 1) b5)) = some r → zF v5 d n0 103 m2 123 [(4, .int i), (3, .int x), (2, .int y), (0, .ref 183), (1, .int n)] [] (zH c0 (zPb2 τ (q3 + 1) b5)) = some r := fun m2 b5 hx => zF_lv (fun e he => by
        simp only [List.mem_cons, List.not_mem_nil, or_false] at he
        rcases he with rfl | rfl | rfl | rfl | rfl <;> rfl) hx
      have fin : ∀ (m2 : Nat) (b5 : Int32), ((b5 = b4 ∧ ¬ y < 0 ∧ ¬ 63 < y ∧ n < 8192) ∨ (b5 = 1 ∧ ¬ (¬ y < 0 ∧ ¬ 63 < y ∧ n < 8192))) → zF v5 d n0 103 m2 123 [(2, .int y), (4, .int i), (3, .int x), (0, .ref 183), (1, .int n)] [] (zH c0 (zPb2 τ (q3 + 1) b5)) = some r → ∃ σ', r = zOut c0 (.inl none) σ' ∧ yFr τ σ' ∧ (¬ b = 0 → ¬ yB σ' = 0) ∧ (b = 0 → q.toInt ≤ 1000 ∧ (yE τ).toInt ≤ 240 → yInF τ x n i f q σ') := by
        intro m2 b5 h5 hx
        obtain ⟨σ', l1, l2, l3, l4⟩ := z103_e h0 (nrm m2 b5 hx)
        refine ⟨σ', l1, l2, fun h => absurd g1 h, fun _ hp => ?_⟩
        unfold yInF
        rw [eF]
        rcases k4 g1 ⟨by omega, hp.2⟩ with ⟨e, k⟩ | ⟨e, k⟩
        · rw [k]
          dsimp only
          by_cases hall : yH τ q3 = 41 ∧ ¬ y < 0 ∧ ¬ 63 < y ∧ n < 8192
          · rw [if_pos hall]
            have e4 : b4 = 0 := k5.elim (fun h => h.2.trans e) (fun h => absurd hall.1 h.1)
            have e5 : b5 = 0 := h5.elim (fun h => h.1.trans e4) (fun h => absurd hall.2 h.2)
            exact Or.inr ⟨y, q3 + 1, rfl, l4 e5⟩
          · rw [if_neg hall]
            refine Or.inl ⟨rfl, l3 ?_⟩
            rcases h5 with ⟨h5, h6⟩ | ⟨h5, -⟩
            · rw [h5]
              rcases k5 with ⟨k5, -⟩ | ⟨-, k5⟩
              · exact absurd ⟨k5, h6⟩ hall
              · rw [k5]; decide
            · rw [h5]; decide
        · rw [k]
          refine Or.inl ⟨rfl, l3 ?_⟩
          rcases h5 with ⟨h5, -⟩ | ⟨h5, -⟩
          · rw [h5]
            rcases k5 with ⟨-, k5⟩ | ⟨-, k5⟩
            · rw [k5]; exact e
            · rw [k5]; decide
          · rw [h5]; decide
      have wr : ∀ (m2 : Nat), ¬ (¬ y < 0 ∧ ¬ 63 < y ∧ n < 8192) → zF v5 d n0 103 m2 123 [(2, .int y), (4, .int i), (3, .int x), (0, .ref 183), (1, .int n)] [] (zH c0 (zI (zPb2 τ (q3 + 1) b4) 25 23 1)) = some r → ∃ σ', r = zOut c0 (.inl none) σ' ∧ yFr τ σ' ∧ (¬ b = 0 → ¬ yB σ' = 0) ∧ (b = 0 → q.toInt ≤ 1000 ∧ (yE τ).toInt ≤ 240 → yInF τ x n i f q σ') := by
        intro m2 hn hx
        rw [show zI (zPb2 τ (q3 + 1) b4) 25 23 1 = zPb2 τ (q3 + 1) 1 from zI_zI 25 23 _ _] at hx
        exact fin m2 1 (Or.inr ⟨rfl, hn⟩) hx
      replace hx := zTr (C := nC103) (tb := [(40, sp40)]) h0 rfl rfl ⟨z40 h0, trivial⟩ (fun pc => pc.beq 123) 60 hx
      rcases hx with ⟨l1, _, _, ⟨rfl, rfl⟩, m2, hm2, hx⟩ | ⟨l1, ⟨l2, _, _, ⟨rfl, rfl⟩, m2, hm2, hx⟩ | ⟨l2, ⟨l3, m2, hm2, hx⟩ | ⟨l3, _, _, ⟨rfl, rfl⟩, m2, hm2, hx⟩⟩⟩
      · exact wr m2 (fun h => h.1 (cLtT l1)) hx
      · exact wr m2 (fun h => h.2.1 (cGtT l2)) hx
      · exact fin m2 b4 (Or.inl ⟨rfl, cLtF l1, cGtF l2, cLtT l3⟩) hx
      · exact wr m2 (fun h => cLtF l3 h.2.2) hx
theorem z103 (h0 : zC0 c0) : zSp c0 v5 103 sp103 := by
  intro d n0 as σ cs r hs hx
  unfold sp103 at hs
  split at hs
  · rename_i n
    cases hs
    obtain ⟨d', hx⟩ := zGo hx
    replace hx := zTr (C := nC103) (tb := [(147, sp147)]) h0 rfl rfl ⟨z147 h0, trivial⟩ (fun pc => pc.beq 17) 60 hx
    obtain ⟨-, -, _, τ, ⟨x, rfl, h1, h2, h3⟩, m1, hm1, hx⟩ := hx
    have hx : zF v5 d' n0 103 m1 17 [(4, .int 0), (3, .int x), (2, .int (yF0 n)), (0, .ref 183), (1, .int n)] [] (zH c0 τ) = some r := hx
    suffices hs : ∃ σ', r = zOut c0 (.inl none) σ' ∧ yFr τ σ' ∧ (¬ yB τ = 0 → ¬ yB σ' = 0) ∧ (yB τ = 0 → yBnd τ → yInP τ x n σ') by
      obtain ⟨σ', k1, k2, k3, k4⟩ := hs
      exact ⟨_, _, ⟨x, τ, ⟨x, rfl, h1, h2, h3⟩, rfl, k2, k3, k4⟩, k1⟩
    have self := zPb2_self τ
    have fin : ∀ (m2 : Nat) (i q b : Int32), zF v5 d' n0 103 m2 65 [(4, .int i), (3, .int x), (2, .int (yF0 n)), (0, .ref 183), (1, .int n)] [] (zH c0 (zPb2 τ q b)) = some r → (¬ yB τ = 0 → ¬ b = 0) → (yB τ = 0 → yBnd τ → (b = 0 ∧ yIx τ (yP τ) = some (i, q) ∧ q.toInt ≤ 1000) ∨ (¬ b = 0 ∧ yIx τ (yP τ) = none)) → ∃ σ', r = zOut c0 (.inl none) σ' ∧ yFr τ σ' ∧ (¬ yB τ = 0 → ¬ yB σ' = 0) ∧ (yB τ = 0 → yBnd τ → yInP τ x n σ') := by
      intro m2 i q b hx hb hF
      obtain ⟨σ', k1, k2, k3, k4⟩ := z103_f h0 hx
      refine ⟨σ', k1, k2, fun h => k3 (hb h), fun h0' hp => ?_⟩
      rcases hF h0' hp with ⟨e, k, l⟩ | ⟨e, k⟩
      · exact Or.inr ⟨i, q, k, k4 e ⟨l, hp.2⟩⟩
      · exact Or.inl ⟨k, k3 e⟩
    replace hx := zTr (C := nC103) (tb := [(148, sp148), (149, sp149), (40, sp40)]) h0 rfl rfl ⟨z148 h0, z149 h0, z40 h0, trivial⟩ (fun pc => pc.beq 65) 60 hx
    rcases hx with ⟨g1, m2, hm2, hx⟩ | ⟨g1, hx⟩
    · have g1 : ¬ yB τ = 0 := cNeT g1
      exact fin m2 0 (yP τ) (yB τ) (by rw [self]; exact hx) (fun h => h) (fun h => absurd h g1)
    · have g1 : yB τ = 0 := cNeF g1
      obtain ⟨_, _, ⟨rfl, rfl⟩, hx⟩ := hx
      rcases hx with ⟨g2, m2, hm2, hx⟩ | ⟨g2, o1, σ1, g3, hx⟩
      · have g2 : ¬ yH τ (yP τ) = 44 := cNeT g2
        refine fin m2 0 (yP τ) (yB τ) (by rw [self]; exact hx) (fun h => h) (fun _ hp => Or.inl ⟨g1, ?_, hp.1⟩)
        unfold yIx
        rw [if_neg g2]
      · have g2 : yH τ (yP τ) = 44 := cNeF g2
        have g3 : yTo (zI τ 25 21 (yP τ + 1)) (yEx (zI τ 25 21 (yP τ + 1)) (yP (zI τ 25 21 (yP τ + 1)))) o1 σ1 := g3
        rw [zPb2_p] at g3
        obtain ⟨y, q3, b3, rfl, rfl, k3, k4⟩ := yTo_2 g3
        have h6 := yH_lt g2 (by decide)
        have h7 := zInc h6.1
        have h8 := Int32.lt_iff_toInt_lt.mp h6.1
        have eI : yIx τ (yP τ) = (match yEx τ (yP τ + 1) with
            | none => none
            | some y => if ¬ y.1 < 0 ∧ ¬ 6 < y.1 then some y else none) := by
          unfold yIx
          exact if_pos g2
        have wr : ∀ (m2 : Nat), ¬ (¬ y < 0 ∧ ¬ 6 < y) → zF v5 d' n0 103 m2 65 [(4, .int y), (3, .int x), (2, .int (yF0 n)), (0, .ref 183), (1, .int n)] [] (zH c0 (zI (zPb2 τ q3 b3) 25 23 1)) = some r → ∃ σ', r = zOut c0 (.inl none) σ' ∧ yFr τ σ' ∧ (¬ yB τ = 0 → ¬ yB σ' = 0) ∧ (yB τ = 0 → yBnd τ → yInP τ x n σ') := by
          intro m2 hn hx
          rw [show zI (zPb2 τ q3 b3) 25 23 1 = zPb2 τ q3 1 from zI_zI 25 23 _ _] at hx
          refine fin m2 y q3 1 hx (fun _ => by decide) (fun _ hp => Or.inr ⟨by decide, ?_⟩)
          rw [eI]
          rcases k4 g1 ⟨by have := hp.2; omega, hp.2⟩ with ⟨-, k⟩ | ⟨-, k⟩
          · rw [k]
            dsimp only
            rw [if_neg hn]
          · rw [k]
        rcases hx with ⟨l1, _, _, ⟨rfl, rfl⟩, m2, hm2, hx⟩ | ⟨l1, ⟨l2, m2, hm2, hx⟩ | ⟨l2, _, _, ⟨rfl, rfl⟩, m2, hm2, hx⟩⟩
        · exact wr m2 (fun h => h.1 (cLtT l1)) hx
        · refine fin m2 y q3 b3 hx (fun h => absurd g1 h) (fun _ hp => ?_)
          rw [eI]
          rcases k4 g1 ⟨by have := hp.2; omega, hp.2⟩ with ⟨e, k⟩ | ⟨e, k⟩
          · rw [k]
            dsimp only
            rw [if_pos ⟨cLtF l1, cLeT l2⟩]
            have hq := (yEx_ge k).2
            dsimp only at hq
            exact Or.inl ⟨e, rfl, by have := hp.2; omega⟩
          · rw [k]
            exact Or.inr ⟨e, rfl⟩
        · exact wr m2 (fun h => h.2 (cLeF l2)) hx
  · cases hs
end RF
