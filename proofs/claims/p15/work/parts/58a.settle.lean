/-! THE REFERENCE: what stands, what waits -/
abbrev yPlc (x : Int32) : Prop := ¬ x < 0 ∧ ¬ 199 < x
abbrev yStd (σ : zS) (a w : Int32) : zS := zA (zA σ 33 (upd (σ.2.2.1 33) a.toNatClampNeg w)) 34 (upd (σ.2.2.1 34) a.toNatClampNeg (vp_nar .boolean 1))
abbrev sp151 (as : List Value) (σ : zS) : Option zCs := match as with
  | [.ref 183, .int a, .int w] => some (fun o σ' => (¬ yPlc a ∧ zN (zI σ 25 23 1) o σ') ∨ (yPlc a ∧ zN (yStd σ a w) o σ'))
  | _ => none
abbrev yWt (σ : zS) : Int32 := σ.1 25 37
abbrev yAdd (σ : zS) (k x : Int32) : zS := zI (zA (zA (zA (zA σ 41 (upd (σ.2.2.1 41) (yWt σ).toNatClampNeg k)) 42 (upd (σ.2.2.1 42) (yWt σ).toNatClampNeg x)) 43 (upd (σ.2.2.1 43) (yWt σ).toNatClampNeg (yPl σ))) 44 (upd (σ.2.2.1 44) (yWt σ).toNatClampNeg (vp_nar .boolean 1))) 25 37 (yWt σ + 1)
abbrev sp193 (as : List Value) (σ : zS) : Option zCs := match as with
  | [.ref 183, .int k, .int x] => some (fun o σ' => (yWt σ = 60 ∧ zN (zI σ 25 23 1) o σ') ∨ (¬ yWt σ = 60 ∧ (0 ≤ (yWt σ).toInt ∧ (yWt σ).toInt < 60) ∧ zN (yAdd σ k x) o σ'))
  | _ => none
def yAdr (w x : Int32) : Int32 := yMade ((zMag w <<< ((18 : Int32) &&& (31 : Int32))) ||| (zMag x &&& (262143 : Int32))) (w &&& 1 = 1)
def yAd1 (w x b : Int32) : Int32 := (2 : Int32) * ((zMag w <<< ((18 : Int32) &&& (31 : Int32))) ||| (zMag x &&& (262143 : Int32))) + (if b = 0 then (0 : Int32) else 1)
theorem yAd1_1 {w x : Int32} (h : w &&& 1 = 1) : yAdr w x = yAd1 w x 1 := by
  unfold yAdr yMade yAd1
  rw [if_pos h, if_neg (by decide)]
theorem yAd1_0 {w x : Int32} (h : ¬ w &&& 1 = 1) : yAdr w x = yAd1 w x 0 := by
  unfold yAdr yMade yAd1
  rw [if_neg h, if_pos rfl]
def ySetF (k x w : Int32) (K H R : Nat → Int32) : Nat → Nat → (Nat → Int32) → (Nat → Int32) → Option ((Nat → Int32) × (Nat → Int32))
  | 0, _, I, O => some (I, O)
  | n + 1, i, I, O => if ¬ O i = 0 ∧ K i = k ∧ H i = x then (if zMag w < 4096 then ySetF k x w K H R n (i + 1) (upd I (R i).toNatClampNeg (yAdr w (I (R i).toNatClampNeg))) (upd O i (vp_nar .boolean 0)) else none) else ySetF k x w K H R n (i + 1) I O
abbrev zOI (σ : zS) (O I : Nat → Int32) (b : Int32) : zS := zI (zA (zA σ 44 O) 33 I) 25 23 b
abbrev ySet (σ : zS) (k x w fi : Int32) : Option ((Nat → Int32) × (Nat → Int32)) := ySetF k x w (σ.2.2.1 41) (σ.2.2.1 42) (σ.2.2.1 43) fi.toInt.toNat 0 (σ.2.2.1 33) (σ.2.2.1 44)
abbrev ySeR (σ : zS) (k x w fi : Int32) : zCs := fun o σ' => o = .inl none ∧ ∃ I O b, zOI σ O I b = σ' ∧ (¬ yB σ = 0 → ¬ b = 0) ∧ (yB σ = 0 → (b = 0 ∧ ySet σ k x w fi = some (I, O)) ∨ (¬ b = 0 ∧ ySet σ k x w fi = none))
abbrev sp105 (as : List Value) (σ : zS) : Option zCs := match as with
  | [.ref 183, .int k, .int x, .int w, .int fi] => some (ySeR σ k x w fi)
  | _ => none
abbrev yDef (σ : zS) (s w : Int32) : zS := zA (zA σ 36 (upd (σ.2.2.1 36) s.toNatClampNeg (vp_nar .boolean 1))) 37 (upd (σ.2.2.1 37) s.toNatClampNeg w)
abbrev sp102 (as : List Value) (σ : zS) : Option zCs := match as with
  | [.ref 183, .int s, .int w] => some (fun o σ' => (0 ≤ s.toInt ∧ s.toInt < 30) ∧ ySeR (yDef σ s w) 0 s w (yWt σ) o σ')
  | _ => none
theorem u1_oi {α : Type} (f : Nat → α) (a b a' b' : α) : u1 (u1 (u1 (u1 f 44 a) 33 b) 44 a') 33 b' = u1 (u1 f 44 a') 33 b' := by
  funext k
  unfold u1
  cases k.beq 44 <;> cases k.beq 33 <;> rfl
theorem u1_oj {α : Type} (f : Nat → α) (a b a' : α) : u1 (u1 (u1 f 44 a) 33 b) 44 a' = u1 (u1 f 44 a') 33 b := by
  funext k
  by_cases h1 : k = 44
  · subst h1; rfl
  · by_cases h2 : k = 33
    · subst h2; rfl
    · simp only [u1_ne _ _ h1, u1_ne _ _ h2]
theorem zOI_i (σ : zS) (O I O' I' : Nat → Int32) (b : Int32) : zA (zA (zOI σ O I b) 44 O') 33 I' = zOI σ O' I' b := by
  unfold zOI zA zI
  dsimp only
  rw [u1_oi]
theorem zOI_b (σ : zS) (O I O' : Nat → Int32) (b b' : Int32) : zI (zA (zOI σ O I b) 44 O') 25 23 b' = zOI σ O' I b' := by
  unfold zOI zA zI
  dsimp only
  rw [u1_oj, u2_u2]
theorem zOI_self (σ : zS) : zOI σ (σ.2.2.1 44) (σ.2.2.1 33) (yB σ) = σ := by
  unfold zOI zA zI
  dsimp only
  rw [u1_self, u1_self, u2_self]
section RF
variable {c0 : mH} {v5 : Value}
theorem z151 (h0 : zC0 c0) : zSp c0 v5 151 sp151 := by
  intro d n as σ cs r hs hx
  unfold sp151 at hs
  split at hs
  · cases hs
    obtain ⟨d', hx⟩ := zGo hx
    obtain ⟨_, _, ⟨h1, rfl, rfl⟩ | ⟨h1, rfl, rfl⟩, hx⟩ := zTr (C := nC151) (tb := [(46, sp46), (40, sp40)]) h0 rfl rfl ⟨z46 h0, z40 h0, trivial⟩ (fun _ => false) 60 hx
    · rcases hx with ⟨-, -, -, hx⟩ | ⟨h, -⟩
      · exact ⟨_, _, Or.inr ⟨h1, rfl, rfl⟩, hx⟩
      · exact absurd (cNeF h) (by decide)
    · rcases hx with ⟨h, -⟩ | ⟨-, _, _, ⟨rfl, rfl⟩, hx⟩
      · exact absurd rfl (cNeT h)
      · exact ⟨_, _, Or.inl ⟨h1, rfl, rfl⟩, hx⟩
  · cases hs
theorem z193 (h0 : zC0 c0) : zSp c0 v5 193 sp193 := by
  intro d n as σ cs r hs hx
  unfold sp193 at hs
  split at hs
  · cases hs
    obtain ⟨d', hx⟩ := zGo hx
    rcases zTr (C := nC193) (tb := [(40, sp40)]) h0 rfl rfl ⟨z40 h0, trivial⟩ (fun _ => false) 60 hx with ⟨h1, h2, -, -, -, hx⟩ | ⟨h1, _, _, ⟨rfl, rfl⟩, hx⟩
    · exact ⟨_, _, Or.inr ⟨cNeT h1, zIn' h2, rfl, rfl⟩, hx⟩
    · exact ⟨_, _, Or.inl ⟨cNeF h1, rfl, rfl⟩, hx⟩
  · cases hs
theorem z105_l (h0 : zC0 c0) {d n : Nat} {r : mO × mH} {σ : zS} {k x w fi : Int32} : ∀ (m i : Nat) (O I : Nat → Int32) (b : Int32), i ≤ 60 → zF v5 d n 105 m 3 [(5, .int (Int32.ofNat i)), (0, .ref 183), (1, .int k), (2, .int x), (3, .int w), (4, .int fi)] [] (zH c0 (zOI σ O I b)) = some r → ∃ I' O' b', r = zOut c0 (.inl none) (zOI σ O' I' b') ∧ (¬ b = 0 → ¬ b' = 0) ∧ (b = 0 → (b' = 0 ∧ ySetF k x w (σ.2.2.1 41) (σ.2.2.1 42) (σ.2.2.1 43) (fi.toInt - i).toNat i I O = some (I', O')) ∨ (¬ b' = 0 ∧ ySetF k x w (σ.2.2.1 41) (σ.2.2.1 42) (σ.2.2.1 43) (fi.toInt - i).toNat i I O = none)) := by
  intro m
  induction m using Nat.strongRecOn with
  | ind m ih =>
    intro i O I b hi hx
    have hI : (Int32.ofNat i).toInt = i := zOfI (by omega)
    have hn : (Int32.ofNat i).toNatClampNeg = i := by
      have e : (Int32.ofNat i).toNatClampNeg = (Int32.ofNat i).toInt.toNat := rfl
      rw [e, hI]
      omega
    replace hx := zTr (C := nC105) (tb := [(70, sp70), (40, sp40), (73, sp73), (146, sp146)]) h0 rfl rfl ⟨z70 h0, z40 h0, z73 h0, z146 h0, trivial⟩ (fun pc => pc.beq 3 || pc.beq 120) 80 hx
    rcases hx with ⟨h1, hx⟩ | ⟨h1, ⟨h2, hx⟩ | ⟨h2, h3, hx⟩⟩
    · have h1 : ¬ (i : Int) < fi.toInt := fun h' => cGeT h1 (Int32.lt_iff_toInt_lt.mpr (by rw [hI]; exact h'))
      rw [show (fi.toInt - i).toNat = 0 by omega]
      refine ⟨I, O, b, hx, fun h => h, fun h => Or.inl ⟨h, rfl⟩⟩
    · have h2 : ¬ b = 0 := cNeT h2
      exact ⟨I, O, b, hx, fun h => h, fun h => absurd h h2⟩
    · have h1 : (i : Int) < fi.toInt := by
        have := Int32.lt_iff_toInt_lt.mp (cGeF h1)
        rw [hI] at this
        exact this
      have h2 : b = 0 := cNeF h2
      have h3 := zIn h3
      rw [hI] at h3
      rw [show (fi.toInt - i).toNat = (fi.toInt - (i + 1 : Nat)).toNat + 1 by omega]
      have cont : ∀ (m' : Nat) (O' I' : Nat → Int32) (b' : Int32), m' < m → zF v5 d n 105 m' 120 [(5, .int (Int32.ofNat i)), (0, .ref 183), (1, .int k), (2, .int x), (3, .int w), (4, .int fi)] [] (zH c0 (zOI σ O' I' b')) = some r → ∃ I'' O'' b'', r = zOut c0 (.inl none) (zOI σ O'' I'' b'') ∧ (¬ b' = 0 → ¬ b'' = 0) ∧ (b' = 0 → (b'' = 0 ∧ ySetF k x w (σ.2.2.1 41) (σ.2.2.1 42) (σ.2.2.1 43) (fi.toInt - (i + 1 : Nat)).toNat (i + 1) I' O' = some (I'', O'')) ∨ (¬ b'' = 0 ∧ ySetF k x w (σ.2.2.1 41) (σ.2.2.1 42) (σ.2.2.1 43) (fi.toInt - (i + 1 : Nat)).toNat (i + 1) I' O' = none)) := by
        intro m' O' I' b' hm hx
        obtain ⟨m2, hm2, hx⟩ := zTr (C := nC105) (tb := []) h0 rfl rfl trivial (fun pc => pc.beq 3) 80 hx
        have hx : zF v5 d n 105 m2 3 [(5, .int (Int32.ofNat i + 1)), (0, .ref 183), (1, .int k), (2, .int x), (3, .int w), (4, .int fi)] [] (zH c0 (zOI σ O' I' b')) = some r := hx
        rw [← zOfS] at hx
        exact ih m2 (by omega) (i + 1) O' I' b' (by omega) hx
      unfold ySetF
      have skip : ∀ (m' : Nat), m' < m → ¬ (¬ O i = 0 ∧ σ.2.2.1 41 i = k ∧ σ.2.2.1 42 i = x) → zF v5 d n 105 m' 120 [(5, .int (Int32.ofNat i)), (0, .ref 183), (1, .int k), (2, .int x), (3, .int w), (4, .int fi)] [] (zH c0 (zOI σ O I b)) = some r → ∃ I' O' b', r = zOut c0 (.inl none) (zOI σ O' I' b') ∧ (¬ b = 0 → ¬ b' = 0) ∧ (b = 0 → (b' = 0 ∧ (if ¬ O i = 0 ∧ σ.2.2.1 41 i = k ∧ σ.2.2.1 42 i = x then (if zMag w < 4096 then ySetF k x w (σ.2.2.1 41) (σ.2.2.1 42) (σ.2.2.1 43) (fi.toInt - (i + 1 : Nat)).toNat (i + 1) (upd I (σ.2.2.1 43 i).toNatClampNeg (yAdr w (I (σ.2.2.1 43 i).toNatClampNeg))) (upd O i (vp_nar .boolean 0)) else none) else ySetF k x w (σ.2.2.1 41) (σ.2.2.1 42) (σ.2.2.1 43) (fi.toInt - (i + 1 : Nat)).toNat (i + 1) I O) = some (I', O')) ∨ (¬ b' = 0 ∧ (if ¬ O i = 0 ∧ σ.2.2.1 41 i = k ∧ σ.2.2.1 42 i = x then (if zMag w < 4096 then ySetF k x w (σ.2.2.1 41) (σ.2.2.1 42) (σ.2.2.1 43) (fi.toInt - (i + 1 : Nat)).toNat (i + 1) (upd I (σ.2.2.1 43 i).toNatClampNeg (yAdr w (I (σ.2.2.1 43 i).toNatClampNeg))) (upd O i (vp_nar .boolean 0)) else none) else ySetF k x w (σ.2.2.1 41) (σ.2.2.1 42) (σ.2.2.1 43) (fi.toInt - (i + 1 : Nat)).toNat (i + 1) I O) = none)) := by
        intro m' hm hc hx
        rw [if_neg hc]
        exact cont m' O I b hm hx
      rcases hx with ⟨h4, m', hm, hx⟩ | ⟨h4, -, ⟨h5, m', hm, hx⟩ | ⟨h5, -, ⟨h6, m', hm, hx⟩ | ⟨h6, -, hx⟩⟩⟩
      · have h4 : O (Int32.ofNat i).toNatClampNeg = 0 := cEqT h4
        rw [hn] at h4
        exact skip m' (by omega) (fun h => h.1 h4) hx
      · have h5 : ¬ σ.2.2.1 41 (Int32.ofNat i).toNatClampNeg = k := cNeT h5
        rw [hn] at h5
        exact skip m' (by omega) (fun h => h5 h.2.1) hx
      · have h6 : ¬ σ.2.2.1 42 (Int32.ofNat i).toNatClampNeg = x := cNeT h6
        rw [hn] at h6
        exact skip m' (by omega) (fun h => h6 h.2.2) hx
      · have h4 : ¬ O (Int32.ofNat i).toNatClampNeg = 0 := cEqF h4
        have h5 : σ.2.2.1 41 (Int32.ofNat i).toNatClampNeg = k := cNeF h5
        have h6 : σ.2.2.1 42 (Int32.ofNat i).toNatClampNeg = x := cNeF h6
        rw [hn] at h4 h5 h6
        rw [if_pos ⟨h4, h5, h6⟩]
        obtain ⟨_, _, ⟨rfl, rfl⟩, hx⟩ := hx
        rcases hx with ⟨h7, hx⟩ | ⟨h7, _, _, ⟨rfl, rfl⟩, m', hm, hx⟩
        · have h7 : zMag w < 4096 := cLtT h7
          rw [if_pos h7]
          obtain ⟨-, _, _, ⟨rfl, rfl⟩, -, -, _, _, ⟨rfl, rfl⟩, hx⟩ := hx
          obtain ⟨_, _, ⟨h8, rfl, rfl⟩ | ⟨h8, rfl, rfl⟩, _, _, ⟨rfl, rfl⟩, -, m', hm, hx⟩ := hx
          · have hx : zF v5 d n 105 m' 120 [(5, .int (Int32.ofNat i)), (0, .ref 183), (1, .int k), (2, .int x), (3, .int w), (4, .int fi)] [] (zH c0 (zA (zA (zOI σ O I b) 44 (upd O (Int32.ofNat i).toNatClampNeg (vp_nar .boolean 0))) 33 (upd I (σ.2.2.1 43 (Int32.ofNat i).toNatClampNeg).toNatClampNeg (yAd1 w (I (σ.2.2.1 43 (Int32.ofNat i).toNatClampNeg).toNatClampNeg) 1)))) = some r := hx
            rw [zOI_i, hn] at hx
            rw [yAd1_1 h8]
            exact cont m' _ _ _ (by omega) hx
          · have hx : zF v5 d n 105 m' 120 [(5, .int (Int32.ofNat i)), (0, .ref 183), (1, .int k), (2, .int x), (3, .int w), (4, .int fi)] [] (zH c0 (zA (zA (zOI σ O I b) 44 (upd O (Int32.ofNat i).toNatClampNeg (vp_nar .boolean 0))) 33 (upd I (σ.2.2.1 43 (Int32.ofNat i).toNatClampNeg).toNatClampNeg (yAd1 w (I (σ.2.2.1 43 (Int32.ofNat i).toNatClampNeg).toNatClampNeg) 0)))) = some r := hx
            rw [zOI_i, hn] at hx
            rw [yAd1_0 h8]
            exact cont m' _ _ _ (by omega) hx
        · have h7 : ¬ zMag w < 4096 := cLtF h7
          rw [if_neg h7]
          have hx : zF v5 d n 105 m' 120 [(5, .int (Int32.ofNat i)), (0, .ref 183), (1, .int k), (2, .int x), (3, .int w), (4, .int fi)] [] (zH c0 (zI (zA (zOI σ O I b) 44 (upd O (Int32.ofNat i).toNatClampNeg (vp_nar .boolean 0))) 25 23 1)) = some r := hx
          rw [zOI_b] at hx
          obtain ⟨I', O', b', k1, k2, -⟩ := cont m' _ _ 1 (by omega) hx
          exact ⟨I', O', b', k1, fun h => absurd h2 h, fun _ => Or.inr ⟨k2 (by decide), rfl⟩⟩
theorem z105 (h0 : zC0 c0) : zSp c0 v5 105 sp105 := by
  intro d n as σ cs r hs hx
  unfold sp105 at hs
  split at hs
  · rename_i k x w fi
    cases hs
    obtain ⟨d', hx⟩ := zGo hx
    obtain ⟨m', hm, hx⟩ := zTr (C := nC105) (tb := []) h0 rfl rfl trivial (fun pc => pc.beq 3) 60 hx
    have hx : zF v5 d' n 105 m' 3 [(5, .int (Int32.ofNat 0)), (0, .ref 183), (1, .int k), (2, .int x), (3, .int w), (4, .int fi)] [] (zH c0 σ) = some r := hx
    rw [← zOI_self σ] at hx
    obtain ⟨I, O, b, g1, g2, g3⟩ := z105_l h0 m' 0 _ _ _ (by omega) hx
    rw [show (fi.toInt - (0 : Nat)).toNat = fi.toInt.toNat by omega] at g3
    exact ⟨_, _, ⟨rfl, I, O, b, rfl, g2, g3⟩, g1⟩
  · cases hs
theorem z102 (h0 : zC0 c0) : zSp c0 v5 102 sp102 := by
  intro d n as σ cs r hs hx
  unfold sp102 at hs
  split at hs
  · cases hs
    obtain ⟨d', hx⟩ := zGo hx
    obtain ⟨h1, -, _, _, ⟨rfl, I, O, b, rfl, g2, g3⟩, hx⟩ := zTr (C := nC102) (tb := [(105, sp105)]) h0 rfl rfl ⟨z105 h0, trivial⟩ (fun _ => false) 60 hx
    exact ⟨_, _, ⟨zIn' h1, rfl, I, O, b, rfl, g2, g3⟩, hx⟩
  · cases hs
end RF
