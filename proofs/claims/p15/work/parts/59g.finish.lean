/-! THE REFERENCE: finish(), literals and the end -/
abbrev yPl1 (τ : zS) (i : Nat) (x : (Nat → Int32) × (Nat → Int32)) : zS := zI (yStd (zOI τ x.2 x.1 0) (yPl τ) (τ.2.2.1 38 i)) 25 24 (yPl τ + 1)
def yPlF : Nat → Nat → zS → Option zS
  | 0, _, τ => some τ
  | k + 1, i, τ => match ySet τ 2 (Int32.ofNat i) (yOf (yPl τ)) (yWt τ) with
    | none => none
    | some x => if yPlc (yPl τ) then yPlF k (i + 1) (yPl1 τ i x) else none
/-- whether one of the first n still waits -/
def yOpn (O : Nat → Int32) : Nat → Nat → Prop
  | 0, _ => False
  | k + 1, i => ¬ O i = 0 ∨ yOpn O k (i + 1)
def yFin (τ : zS) : Option zS := match yPsF (yCn τ).toInt.toNat 0 τ with
  | none => none
  | some τ1 => yPlF (yLc τ1).toInt.toNat 0 τ1
abbrev yFiR (τ : zS) : zCs := fun o σ' => o = .inl none ∧ yFr τ σ' ∧ (¬ yB τ = 0 → ¬ yB σ' = 0) ∧ (yB τ = 0 → (yFin τ = none ∧ ¬ yB σ' = 0) ∨ ∃ τ1, yFin τ = some τ1 ∧ ((yOpn (τ1.2.2.1 44) (yWt τ1).toInt.toNat 0 ∧ ¬ yB σ' = 0) ∨ (¬ yOpn (τ1.2.2.1 44) (yWt τ1).toInt.toNat 0 ∧ zI τ1 25 26 1 = σ')))
abbrev sp153 (as : List Value) (σ : zS) : Option zCs := match as with
  | [.ref 183] => some (yFiR σ)
  | _ => none
section RF
variable {c0 : mH} {v5 : Value}
theorem z153_l (h0 : zC0 c0) {d n : Nat} {r : mO × mH} : ∀ (m i : Nat) (τ : zS), i ≤ 20 → zF v5 d n 153 m 65 [(1, .int (Int32.ofNat i)), (0, .ref 183)] [] (zH c0 τ) = some r → ∃ m' k τ', zF v5 d n 153 m' 127 [(1, .int k), (0, .ref 183)] [] (zH c0 τ') = some r ∧ yFr τ τ' ∧ (¬ yB τ = 0 → ¬ yB τ' = 0) ∧ (yB τ = 0 → (yB τ' = 0 ∧ yPlF ((yLc τ).toInt - i).toNat i τ = some τ') ∨ (¬ yB τ' = 0 ∧ yPlF ((yLc τ).toInt - i).toNat i τ = none)) := by
  intro m
  induction m using Nat.strongRecOn with
  | ind m ih =>
    intro i τ hi hx
    have hI : (Int32.ofNat i).toInt = i := zOfI (by omega)
    have hn : (Int32.ofNat i).toNatClampNeg = i := by
      have e : (Int32.ofNat i).toNatClampNeg = (Int32.ofNat i).toInt.toNat := rfl
      rw [e, hI]
      omega
    replace hx := zTr (C := nC153) (tb := [(101, sp101), (105, sp105), (151, sp151)]) h0 rfl rfl ⟨z101 h0, z105 h0, z151 h0, trivial⟩ (fun pc => pc.beq 65 || pc.beq 127) 80 hx
    rcases hx with ⟨h1, m1, hm1, hx⟩ | ⟨h1, ⟨h2, m1, hm1, hx⟩ | ⟨h2, hx⟩⟩
    · have h1 : ¬ (i : Int) < (yLc τ).toInt := fun h' => cGeT h1 (Int32.lt_iff_toInt_lt.mpr (by rw [hI]; exact h'))
      refine ⟨m1, _, τ, hx, yFr_refl _, fun h => h, fun h => Or.inl ⟨h, ?_⟩⟩
      rw [show ((yLc τ).toInt - i).toNat = 0 by omega]
      rfl
    · have h2 : ¬ yB τ = 0 := cNeT h2
      exact ⟨m1, _, τ, hx, yFr_refl _, fun h => h, fun h => absurd h h2⟩
    · have h1 : (i : Int) < (yLc τ).toInt := by
        have := Int32.lt_iff_toInt_lt.mp (cGeF h1)
        rw [hI] at this
        exact this
      have h2 : yB τ = 0 := cNeF h2
      rw [show ((yLc τ).toInt - i).toNat = ((yLc τ).toInt - (i + 1 : Nat)).toNat + 1 by omega]
      unfold yPlF
      obtain ⟨_, _, ⟨rfl, rfl⟩, _, _, ⟨rfl, I, O, b, rfl, g2, g3⟩, h3, hx⟩ := hx
      have h3 := zIn h3
      rw [hI] at h3
      have g3 := g3 h2
      have nx : ∀ (m2 : Nat) (τ1 : zS), m2 < m → yFr τ τ1 → zF v5 d n 153 m2 65 [(1, .int (Int32.ofNat i + 1)), (0, .ref 183)] [] (zH c0 τ1) = some r → ∃ m' k τ', zF v5 d n 153 m' 127 [(1, .int k), (0, .ref 183)] [] (zH c0 τ') = some r ∧ yFr τ τ' ∧ (¬ yB τ1 = 0 → ¬ yB τ' = 0) ∧ (yB τ1 = 0 → (yB τ' = 0 ∧ yPlF ((yLc τ1).toInt - (i + 1 : Nat)).toNat (i + 1) τ1 = some τ') ∨ (¬ yB τ' = 0 ∧ yPlF ((yLc τ1).toInt - (i + 1 : Nat)).toNat (i + 1) τ1 = none)) := by
        intro m2 τ1 hm hf hx
        rw [← zOfS] at hx
        obtain ⟨m', k, τ', k1, k2, k3, k4⟩ := ih m2 hm (i + 1) τ1 (by omega) hx
        exact ⟨m', k, τ', k1, yFr_trans hf k2, k3, k4⟩
      obtain ⟨_, _, ⟨l1, rfl, rfl⟩ | ⟨l1, rfl, rfl⟩, m1, hm1, hx⟩ := hx
      · have l2 : ¬ yPlc (yPl τ) := l1
        obtain ⟨m', k, τ', k1, k2, k3, -⟩ := nx m1 _ (by omega) (yFr_I (yFr_I (yFr_O (yFr_refl _)) rfl) rfl) hx
        refine ⟨m', k, τ', k1, k2, fun h => absurd h2 h, fun _ => Or.inr ⟨k3 (by show ¬ (1 : Int32) = 0; decide), ?_⟩⟩
        split
        · rfl
        · rw [if_neg l2]
      · have l2 : yPlc (yPl τ) := l1
        have hx : zF v5 d n 153 m1 65 [(1, .int (Int32.ofNat i + 1)), (0, .ref 183)] [] (zH c0 (zI (yStd (zOI τ O I b) (yPl τ) (τ.2.2.1 38 (Int32.ofNat i).toNatClampNeg)) 25 24 (yPl τ + 1))) = some r := hx
        rw [hn] at hx
        obtain ⟨m', k, τ', k1, k2, k3, k4⟩ := nx m1 _ (by omega) (yFr_I (yFr_S (yFr_O (yFr_refl _))) rfl) hx
        refine ⟨m', k, τ', k1, k2, fun h => absurd h2 h, fun _ => ?_⟩
        rcases g3 with ⟨e, k⟩ | ⟨e, k⟩
        · have k' : ySet τ 2 (Int32.ofNat i) (yOf (yPl τ)) (yWt τ) = some (I, O) := k
          rw [k']
          dsimp only
          rw [if_pos l2]
          rw [e] at k4
          exact k4 rfl
        · have k' : ySet τ 2 (Int32.ofNat i) (yOf (yPl τ)) (yWt τ) = none := k
          rw [k']
          exact Or.inr ⟨k3 e, rfl⟩
theorem z153_w (h0 : zC0 c0) {d n : Nat} {r : mO × mH} {τ : zS} : ∀ (m : Nat) (i b : Int32), ¬ b = 0 → zF v5 d n 153 m 129 [(1, .int i), (0, .ref 183)] [] (zH c0 (zI τ 25 23 b)) = some r → ∃ b', r = zOut c0 (.inl none) (zI (zI τ 25 23 b') 25 26 1) ∧ ¬ b' = 0 := by
  intro m
  induction m using Nat.strongRecOn with
  | ind m ih =>
    intro i b hb hx
    replace hx := zTr (C := nC153) (tb := []) h0 rfl rfl trivial (fun pc => pc.beq 129) 80 hx
    rcases hx with ⟨h1, -, hx⟩ | ⟨h1, ⟨h2, -, m1, hm1, hx⟩ | ⟨h2, hx⟩⟩
    · exact ⟨b, hx, hb⟩
    · have hx : zF v5 d n 153 m1 129 [(1, .int (i + 1)), (0, .ref 183)] [] (zH c0 (zI (zI τ 25 23 b) 25 23 1)) = some r := hx
      rw [zI_zI] at hx
      exact ih m1 (by omega) (i + 1) 1 (by decide) hx
    · exact absurd (show b = 0 from cNeF h2) hb
theorem z153_o (h0 : zC0 c0) {d n : Nat} {r : mO × mH} {τ : zS} : ∀ (m i : Nat) (b : Int32), i ≤ 60 → zF v5 d n 153 m 129 [(1, .int (Int32.ofNat i)), (0, .ref 183)] [] (zH c0 (zI τ 25 23 b)) = some r → ∃ b', r = zOut c0 (.inl none) (zI (zI τ 25 23 b') 25 26 1) ∧ (¬ b = 0 → ¬ b' = 0) ∧ (b = 0 → (yOpn (τ.2.2.1 44) ((yWt τ).toInt - i).toNat i ∧ ¬ b' = 0) ∨ (¬ yOpn (τ.2.2.1 44) ((yWt τ).toInt - i).toNat i ∧ b' = 0)) := by
  intro m
  induction m using Nat.strongRecOn with
  | ind m ih =>
    intro i b hi hx
    by_cases hb : b = 0
    · have hI : (Int32.ofNat i).toInt = i := zOfI (by omega)
      have hn : (Int32.ofNat i).toNatClampNeg = i := by
        have e : (Int32.ofNat i).toNatClampNeg = (Int32.ofNat i).toInt.toNat := rfl
        rw [e, hI]
        omega
      replace hx := zTr (C := nC153) (tb := []) h0 rfl rfl trivial (fun pc => pc.beq 129) 80 hx
      rcases hx with ⟨h1, -, hx⟩ | ⟨h1, ⟨h2, -, m1, hm1, hx⟩ | ⟨h2, h3, hx⟩⟩
      · have h1 : ¬ (i : Int) < (yWt τ).toInt := fun h' => cGeT h1 (Int32.lt_iff_toInt_lt.mpr (by rw [hI]; exact h'))
        rw [show ((yWt τ).toInt - i).toNat = 0 by omega]
        exact ⟨b, hx, fun h => h, fun h => Or.inr ⟨fun h => h, h⟩⟩
      · exact absurd hb (show ¬ b = 0 from cNeT h2)
      · have h1 : (i : Int) < (yWt τ).toInt := by
          have := Int32.lt_iff_toInt_lt.mp (cGeF h1)
          rw [hI] at this
          exact this
        have h3 := zIn h3
        rw [hI] at h3
        rw [show ((yWt τ).toInt - i).toNat = ((yWt τ).toInt - (i + 1 : Nat)).toNat + 1 by omega]
        unfold yOpn
        rcases hx with ⟨h4, -, m1, hm1, hx⟩ | ⟨h4, -, m1, hm1, hx⟩
        · have h4 : τ.2.2.1 44 (Int32.ofNat i).toNatClampNeg = 0 := cEqT h4
          rw [hn] at h4
          have hx : zF v5 d n 153 m1 129 [(1, .int (Int32.ofNat i + 1)), (0, .ref 183)] [] (zH c0 (zI (zI τ 25 23 b) 25 23 0)) = some r := hx
          rw [zI_zI, ← zOfS] at hx
          obtain ⟨b', k1, k2, k3⟩ := ih m1 (by omega) (i + 1) 0 (by omega) hx
          refine ⟨b', k1, fun h => absurd hb h, fun _ => ?_⟩
          rcases k3 rfl with ⟨k4, k5⟩ | ⟨k4, k5⟩
          · exact Or.inl ⟨Or.inr k4, k5⟩
          · exact Or.inr ⟨fun h => h.elim (fun h => h h4) k4, k5⟩
        · have h4 : ¬ τ.2.2.1 44 (Int32.ofNat i).toNatClampNeg = 0 := cEqF h4
          rw [hn] at h4
          have hx : zF v5 d n 153 m1 129 [(1, .int (Int32.ofNat i + 1)), (0, .ref 183)] [] (zH c0 (zI (zI τ 25 23 b) 25 23 1)) = some r := hx
          rw [zI_zI] at hx
          obtain ⟨b', k1, k2⟩ := z153_w h0 m1 _ 1 (by decide) hx
          exact ⟨b', k1, fun h => absurd hb h, fun _ => Or.inl ⟨Or.inl h4, k2⟩⟩
    · obtain ⟨b', k1, k2⟩ := z153_w h0 m _ b hb hx
      exact ⟨b', k1, fun _ => k2, fun h => absurd h hb⟩
theorem z153 (h0 : zC0 c0) : zSp c0 v5 153 sp153 := by
  intro d n as σ cs r hs hx
  unfold sp153 at hs
  split at hs
  · cases hs
    obtain ⟨d', hx⟩ := zGo hx
    obtain ⟨m1, hm1, hx⟩ := zTr (C := nC153) (tb := []) h0 rfl rfl trivial (fun pc => pc.beq 2) 60 hx
    have hx : zF v5 d' n 153 m1 2 [(1, .int (Int32.ofNat 0)), (0, .ref 183)] [] (zH c0 σ) = some r := hx
    obtain ⟨m2, k2, τ1, hx, f1, b1, e1⟩ := z153_s h0 m1 0 σ (by omega) hx
    obtain ⟨m3, hm3, hx⟩ := zTr (C := nC153) (tb := []) h0 rfl rfl trivial (fun pc => pc.beq 65) 60 hx
    have hx : zF v5 d' n 153 m3 65 [(1, .int (Int32.ofNat 0)), (0, .ref 183)] [] (zH c0 τ1) = some r := hx
    obtain ⟨m4, k4, τ2, hx, f2, b2, e2⟩ := z153_l h0 m3 0 τ1 (by omega) hx
    obtain ⟨m5, hm5, hx⟩ := zTr (C := nC153) (tb := []) h0 rfl rfl trivial (fun pc => pc.beq 129) 60 hx
    have hx : zF v5 d' n 153 m5 129 [(1, .int (Int32.ofNat 0)), (0, .ref 183)] [] (zH c0 τ2) = some r := hx
    rw [← zI_self (σ := τ2) 25 23] at hx
    obtain ⟨b', g1, g2, g3⟩ := z153_o h0 m5 0 _ (by omega) hx
    rw [show ((yCn σ).toInt - (0 : Nat)).toNat = (yCn σ).toInt.toNat by omega] at e1
    rw [show ((yLc τ1).toInt - (0 : Nat)).toNat = (yLc τ1).toInt.toNat by omega] at e2
    rw [show ((yWt τ2).toInt - (0 : Nat)).toNat = (yWt τ2).toInt.toNat by omega] at g3
    refine ⟨.inl none, zI (zI τ2 25 23 b') 25 26 1, ⟨rfl, yFr_trans f1 (yFr_trans f2 (yFr_I (yFr_I (yFr_refl _) rfl) rfl)), fun h => g2 (b2 (b1 h)), fun h => ?_⟩, g1⟩
    unfold yFin
    rcases e1 h with ⟨h1, e1⟩ | ⟨h1, e1⟩
    · rw [e1]
      dsimp only
      rcases e2 h1 with ⟨h2, e2⟩ | ⟨h2, e2⟩
      · refine Or.inr ⟨τ2, e2, ?_⟩
        rcases g3 h2 with ⟨h3, h4⟩ | ⟨h3, h4⟩
        · exact Or.inl ⟨h3, h4⟩
        · refine Or.inr ⟨h3, ?_⟩
          rw [h4, ← show yB τ2 = 0 from h2, zI_self]
      · exact Or.inl ⟨e2, g2 h2⟩
    · rw [e1]
      exact Or.inl ⟨rfl, g2 (b2 h1)⟩
  · cases hs
end RF
