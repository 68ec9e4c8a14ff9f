/-! THE PROCESSOR, the reference's: memory, jumps, moves -/
noncomputable def yJps (τ : zS) (f m : Int32) : zS := if ¬ yS τ = 0 ∨ ¬ f < 10 then zI τ 25 4 1 else
  (fun υ => if (f = 2 ∨ f = 3) ∧ yS υ = 0 then zI υ 25 3 0 else υ) (@ite _ (qGoes τ f) (Classical.propDecidable _) (yJm (zI τ 25 4 0) m (if f = 1 then 0 else 1)) (zI τ 25 4 0))
abbrev sp116 (as : List Value) (σ : zS) : Option zCs := match as with
  | [.ref 183, .int f, .int m] => some (zN (yJps σ f m))
  | _ => none
noncomputable def yMvs (τ : zS) (c f m g : Int32) : zS := if c < 48 then
    (if ¬ yS τ = 0 ∨ ¬ f < 6 then zI τ 25 4 1 else @ite _ (zHo f (zVal (qR τ (r8 c).toNatClampNeg))) (Classical.propDecidable _) (yJm (zI τ 25 4 0) m 1) (zI τ 25 4 0))
  else if ¬ yS τ = 0 ∨ ¬ f < 4 then zI τ 25 4 1 else if f < 2 then qAdd (zI τ 25 4 0) (r8 c) (if f = 0 then m else -m)
  else zA (zI τ 25 4 0) 27 (upd (qR τ) (r8 c).toNatClampNeg (yEnW (r8 c) (2 * (if m < 0 then -m else m) + (if (if g = (if f = 3 then (1 : Int32) else 0) then (0 : Int32) else 1) = 0 then 0 else 1))))
abbrev sp117 (as : List Value) (σ : zS) : Option zCs := match as with
  | [.ref 183, .int c, .int f, .int m, .int g] => some (zN (yMvs σ c f m g))
  | _ => none
section RF
variable {c0 : mH} {v5 : Value}
theorem z109 (h0 : zC0 c0) : zSp c0 v5 109 sp109 := by
  intro d n as σ cs r hs hx
  unfold sp109 at hs
  split at hs
  · rename_i c f m
    cases hs
    obtain ⟨d', hx⟩ := zGo hx
    refine ⟨_, _, ⟨rfl, rfl⟩, ?_⟩
    have go : ∀ (b : Int32) (m' : Nat), (b = 1 ∧ (yFd5 f ∧ qPlc m) ∨ b = 0 ∧ ¬ (yFd5 f ∧ qPlc m)) → zF v5 d' n 109 m' 24 [(0, .ref 183), (1, .int c), (2, .int f), (3, .int m)] [] (zH c0 (zNd σ (¬ b = 0))) = some r → r = zOut c0 (.inl none) (yTch σ c f m) := by
      intro b m' hb hx
      unfold yTch
      by_cases hq : ¬ yS σ = 0 ∨ ¬ (yFd5 f ∧ qPlc m)
      · rw [if_pos hq]
        rw [zNd_1 (hq.elim .inl (fun e => .inr (fun w => by
          rcases hb with ⟨_, e2⟩ | ⟨e2, _⟩
          · exact e e2
          · exact w e2)))] at hx
        replace hx := zTr (C := nC109) (tb := []) h0 rfl rfl trivial (fun pc => pc.beq 32) 60 hx
        rcases hx with ⟨h1, m2, hm, hx⟩ | ⟨h1, hx⟩
        · exact absurd (show (1 : Int32) = 0 from cEqT h1) (by decide)
        · exact hx
      · rw [if_neg hq]
        have hg : yFd5 f ∧ qPlc m := Decidable.not_not.mp (fun e => hq (.inr e))
        have hb1 : b = 1 := by
          rcases hb with ⟨e, _⟩ | ⟨_, e⟩
          · exact e
          · exact absurd hg e
        subst hb1
        rw [zNd_0 (fun w => w.elim (fun e => hq (.inl e)) (fun e => e (by decide)))] at hx
        replace hx := zTr (C := nC109) (tb := [(169, sp169), (170, sp170), (171, sp171), (172, sp172), (173, sp173)]) h0 rfl rfl ⟨z169 h0, z170 h0, z171 h0, z172 h0, z173 h0, trivial⟩ (fun _ => false) 80 hx
        rcases hx with ⟨h1, _, _, _, ⟨rfl, rfl⟩, hx⟩ | ⟨h1, hx⟩
        · rcases hx with ⟨h2, hx⟩ | ⟨h2, _, _, ⟨rfl, rfl⟩, hx⟩
          · rw [if_neg (show ¬ c < 5 from cGeT h2)]
            rcases hx with ⟨h3, hx⟩ | ⟨h3, _, _, _, ⟨rfl, rfl⟩, hx⟩
            · rw [if_neg (show ¬ c < 16 from cGeT h3)]
              rcases hx with ⟨h4, hx⟩ | ⟨h4, _, _, _, ⟨rfl, rfl⟩, hx⟩
              · rw [if_neg (show ¬ c < 24 from cGeT h4)]
                rcases hx with ⟨h5, _, _, _, _, ⟨rfl, rfl⟩, hx⟩ | ⟨h5, _, ⟨h6, ⟨h7, _, _, ⟨rfl, rfl⟩, _, hx⟩ | ⟨h7, _, _, _, ⟨rfl, rfl⟩, _, hx⟩⟩ | ⟨h6, _, _, _, _, ⟨rfl, rfl⟩, _, hx⟩⟩
                · rw [if_neg (show ¬ c < 34 from cGeT h5)]; exact hx
                · rw [if_pos (show c < 34 from cGeF h5), if_neg (show ¬ c < 32 from cGeT h6), if_neg (show ¬ c = 32 from cNeT h7)]; exact hx
                · rw [if_pos (show c < 34 from cGeF h5), if_neg (show ¬ c < 32 from cGeT h6), if_pos (show c = 32 from cNeF h7)]; exact hx
                · rw [if_pos (show c < 34 from cGeF h5), if_pos (show c < 32 from cGeF h6)]; exact hx
              · rw [if_pos (show c < 24 from cGeF h4)]; exact hx
            · rw [if_pos (show c < 16 from cGeF h3)]; exact hx
          · rw [if_pos (show c < 5 from cGeF h2)]; exact hx
        · exact absurd rfl (cEqF h1)
    replace hx := zTr (C := nC109) (tb := [(168, sp168), (46, sp46), (113, sp113)]) h0 rfl rfl ⟨z168 h0, z46 h0, z113 h0, trivial⟩ (fun pc => pc.beq 24) 60 hx
    obtain ⟨_, _, (⟨p, rfl, rfl⟩ | ⟨p, rfl, rfl⟩), hx⟩ := hx
    · rcases hx with ⟨h1, hx⟩ | ⟨h1, _, _, (⟨q, rfl, rfl⟩ | ⟨q, rfl, rfl⟩), hx⟩
      · exact absurd (cEqT h1) (by decide)
      · rcases hx with ⟨h2, hx⟩ | ⟨h2, _, _, ⟨rfl, rfl⟩, m', hm, hx⟩
        · exact absurd (cEqT h2) (by decide)
        · exact go 1 m' (.inl ⟨rfl, p, q⟩) hx
      · rcases hx with ⟨h2, _, _, ⟨rfl, rfl⟩, m', hm, hx⟩ | ⟨h2, hx⟩
        · exact go 0 m' (.inr ⟨rfl, fun w => q w.2⟩) hx
        · exact absurd rfl (cEqF h2)
    · rcases hx with ⟨h1, _, _, ⟨rfl, rfl⟩, m', hm, hx⟩ | ⟨h1, hx⟩
      · exact go 0 m' (.inr ⟨rfl, fun w => p w.1⟩) hx
      · exact absurd rfl (cEqF h1)
  · cases hs
theorem z117 (h0 : zC0 c0) : zSp c0 v5 117 sp117 := by
  intro d n as σ cs r hs hx
  unfold sp117 at hs
  split at hs
  · rename_i c f m g
    cases hs
    obtain ⟨d', hx⟩ := zGo hx
    refine ⟨_, _, ⟨rfl, rfl⟩, ?_⟩
    have low : c < 48 → ∀ (b : Int32) (m' : Nat), (b = 1 ∧ f < 6 ∨ b = 0 ∧ ¬ f < 6) → zF v5 d' n 117 m' 27 [(5, .int (r8 c)), (0, .ref 183), (1, .int c), (2, .int f), (3, .int m), (4, .int g)] [] (zH c0 (zNd σ (¬ b = 0))) = some r → r = zOut c0 (.inl none) (yMvs σ c f m g) := by
      intro hc b m' hb hx
      unfold yMvs
      rw [if_pos hc]
      by_cases hq : ¬ yS σ = 0 ∨ ¬ f < 6
      · rw [if_pos hq]
        rw [zNd_1 (hq.elim .inl (fun e => .inr (fun w => by
          rcases hb with ⟨_, e2⟩ | ⟨e2, _⟩
          · exact e e2
          · exact w e2)))] at hx
        replace hx := zTr (C := nC117) (tb := []) h0 rfl rfl trivial (fun pc => pc.beq 34) 60 hx
        rcases hx with ⟨h1, hx⟩ | ⟨h1, m2, hm, hx⟩
        · exact hx
        · exact absurd (show (1 : Int32) = 0 from cNeF h1) (by decide)
      · rw [if_neg hq]
        have hg : f < 6 := Decidable.not_not.mp (fun e => hq (.inr e))
        have hb1 : b = 1 := by
          rcases hb with ⟨e, _⟩ | ⟨_, e⟩
          · exact e
          · exact absurd hg e
        subst hb1
        rw [zNd_0 (fun w => w.elim (fun e => hq (.inl e)) (fun e => e (by decide)))] at hx
        replace hx := zTr (C := nC117) (tb := [(74, sp74), (181, sp181), (114, sp114)]) h0 rfl rfl ⟨z74 h0, z181 h0, z114 h0, trivial⟩ (fun _ => false) 60 hx
        rcases hx with ⟨h1, hx⟩ | ⟨h1, _, _, _, ⟨rfl, rfl⟩, _, _, (⟨p, rfl, rfl⟩ | ⟨p, rfl, rfl⟩), hx⟩
        · exact absurd rfl (cNeT h1)
        · rw [if_pos (show zHo f (zVal (qR σ (r8 c).toNatClampNeg)) from p)]
          rcases hx with ⟨h2, hx⟩ | ⟨h2, _, _, ⟨rfl, rfl⟩, hx⟩
          · exact absurd (cEqT h2) (by decide)
          · exact hx
        · rw [if_neg (show ¬ zHo f (zVal (qR σ (r8 c).toNatClampNeg)) from p)]
          rcases hx with ⟨h2, hx⟩ | ⟨h2, hx⟩
          · exact hx
          · exact absurd rfl (cEqF h2)
    have high : ¬ c < 48 → ∀ (b : Int32) (m' : Nat), (b = 1 ∧ f < 4 ∨ b = 0 ∧ ¬ f < 4) → zF v5 d' n 117 m' 73 [(5, .int (r8 c)), (0, .ref 183), (1, .int c), (2, .int f), (3, .int m), (4, .int g)] [] (zH c0 (zNd σ (¬ b = 0))) = some r → r = zOut c0 (.inl none) (yMvs σ c f m g) := by
      intro hc b m' hb hx
      unfold yMvs
      rw [if_neg hc]
      by_cases hq : ¬ yS σ = 0 ∨ ¬ f < 4
      · rw [if_pos hq]
        rw [zNd_1 (hq.elim .inl (fun e => .inr (fun w => by
          rcases hb with ⟨_, e2⟩ | ⟨e2, _⟩
          · exact e e2
          · exact w e2)))] at hx
        replace hx := zTr (C := nC117) (tb := []) h0 rfl rfl trivial (fun pc => pc.beq 81) 60 hx
        rcases hx with ⟨h1, m2, hm, hx⟩ | ⟨h1, hx⟩
        · exact absurd (show (1 : Int32) = 0 from cEqT h1) (by decide)
        · exact hx
      · rw [if_neg hq]
        have hg : f < 4 := Decidable.not_not.mp (fun e => hq (.inr e))
        have hb1 : b = 1 := by
          rcases hb with ⟨e, _⟩ | ⟨_, e⟩
          · exact e
          · exact absurd hg e
        subst hb1
        rw [zNd_0 (fun w => w.elim (fun e => hq (.inl e)) (fun e => e (by decide)))] at hx
        replace hx := zTr (C := nC117) (tb := [(177, sp177), (146, sp146), (171, sp171)]) h0 rfl rfl ⟨z177 h0, z146 h0, z171 h0, trivial⟩ (fun pc => pc.beq 118) 60 hx
        rcases hx with ⟨h1, hx⟩ | ⟨h1, hx⟩
        · rcases hx with ⟨h2, hx⟩ | ⟨h2, ⟨h3, _, _, ⟨rfl, rfl⟩, hx⟩ | ⟨h3, _, _, ⟨rfl, rfl⟩, hx⟩⟩
          · rw [if_neg (show ¬ f < 2 from cGeT h2)]
            have set : ∀ (m2 : Nat) (x : Int32), x = (if m < 0 then -m else m) → zF v5 d' n 117 m2 118 [(5, .int (r8 c)), (0, .ref 183), (1, .int c), (2, .int f), (3, .int m), (4, .int g)] [.int x, .int (r8 c), .ref 183] (zH c0 (zI σ 25 4 0)) = some r → r = zOut c0 (.inl none) (zA (zI σ 25 4 0) 27 (upd (qR σ) (r8 c).toNatClampNeg (yEnW (r8 c) (2 * (if m < 0 then -m else m) + (if (if g = (if f = 3 then (1 : Int32) else 0) then (0 : Int32) else 1) = 0 then 0 else 1))))) := by
              intro m2 x hxx hx
              replace hx := zTr (C := nC117) (tb := [(146, sp146), (171, sp171)]) h0 rfl rfl ⟨z146 h0, z171 h0, trivial⟩ (fun _ => false) 60 hx
              rw [← hxx]
              rcases hx with ⟨h3, ⟨h4, _, _, ⟨rfl, rfl⟩, _, _, ⟨rfl, rfl⟩, hx⟩ | ⟨h4, _, _, ⟨rfl, rfl⟩, _, _, ⟨rfl, rfl⟩, hx⟩⟩ | ⟨h3, ⟨h4, _, _, ⟨rfl, rfl⟩, _, _, ⟨rfl, rfl⟩, hx⟩ | ⟨h4, _, _, ⟨rfl, rfl⟩, _, _, ⟨rfl, rfl⟩, hx⟩⟩
              · rw [if_neg (show ¬ f = 3 from cNeT h3), if_pos (show g = 0 from cEqT h4)]; exact hx
              · rw [if_neg (show ¬ f = 3 from cNeT h3), if_neg (show ¬ g = 0 from cEqF h4)]; exact hx
              · rw [if_pos (show f = 3 from cNeF h3), if_pos (show g = 1 from cEqT h4)]; exact hx
              · rw [if_pos (show f = 3 from cNeF h3), if_neg (show ¬ g = 1 from cEqF h4)]; exact hx
            rcases hx with ⟨h3, m2, hm, hx⟩ | ⟨h3, m2, hm, hx⟩
            · exact set m2 _ (if_neg (cGeT h3)).symm hx
            · exact set m2 _ (if_pos (cGeF h3)).symm hx
          · rw [if_pos (show f < 2 from cGeF h2), if_neg (cNeT h3)]; exact hx
          · rw [if_pos (show f < 2 from cGeF h2), if_pos (cNeF h3)]; exact hx
        · exact absurd rfl (cEqF h1)
    replace hx := zTr (C := nC117) (tb := [(113, sp113)]) h0 rfl rfl ⟨z113 h0, trivial⟩ (fun pc => pc.beq 27 || pc.beq 73) 60 hx
    obtain ⟨_, hx⟩ := hx
    rcases hx with ⟨h1, ⟨h2, _, _, ⟨rfl, rfl⟩, m', hm, hx⟩ | ⟨h2, _, _, ⟨rfl, rfl⟩, m', hm, hx⟩⟩ | ⟨h1, ⟨h2, _, _, ⟨rfl, rfl⟩, m', hm, hx⟩ | ⟨h2, _, _, ⟨rfl, rfl⟩, m', hm, hx⟩⟩
    · exact high (cGeT h1) 0 m' (.inr ⟨rfl, cGeT h2⟩) hx
    · exact high (cGeT h1) 1 m' (.inl ⟨rfl, cGeF h2⟩) hx
    · exact low (cGeF h1) 0 m' (.inr ⟨rfl, cGeT h2⟩) hx
    · exact low (cGeF h1) 1 m' (.inl ⟨rfl, cGeF h2⟩) hx
  · cases hs
end RF
