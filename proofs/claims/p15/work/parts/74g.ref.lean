/-! THE PROCESSOR, the reference's: jumps by state, words moved -/
theorem i32_9 {f : Int32} (h3 : 3 < f) (h10 : f < 10) (a4 : ¬ f = 4) (a5 : ¬ f = 5) (a6 : ¬ f = 6) (a7 : ¬ f = 7) (a8 : ¬ f = 8) : f = 9 := by
  rw [Int32.lt_iff_toInt_lt] at h3 h10
  rw [show (3 : Int32).toInt = 3 from rfl] at h3
  rw [show (10 : Int32).toInt = 10 from rfl] at h10
  have e : ∀ k : Int32, ¬ f = k → ¬ f.toInt = k.toInt := fun k h q => h (Int32.toInt_inj.mp q)
  have b4 := e 4 a4
  have b5 := e 5 a5
  have b6 := e 6 a6
  have b7 := e 7 a7
  have b8 := e 8 a8
  rw [show (4 : Int32).toInt = 4 from rfl] at b4
  rw [show (5 : Int32).toInt = 5 from rfl] at b5
  rw [show (6 : Int32).toInt = 6 from rfl] at b6
  rw [show (7 : Int32).toInt = 7 from rfl] at b7
  rw [show (8 : Int32).toInt = 8 from rfl] at b8
  apply Int32.toInt_inj.mp
  rw [show (9 : Int32).toInt = 9 from rfl]
  omega
def yMov (τ : zS) (f m : Int32) : zS := if f = 0 then τ else if ¬ yRw m f then zI τ 25 4 1 else if ¬ yRw (zVal (qR τ 1)) f then zI (zNd τ True) 25 4 1 else qAdd (zA (zNd (zNd τ True) True) 26 (mMv (qM τ) m (zVal (qR τ 1)) f.toNatClampNeg)) 1 f
abbrev sp112 (as : List Value) (σ : zS) : Option zCs := match as with
  | [.ref 183, .int f, .int m] => some (zN (yMov σ f m))
  | _ => none
section RG
variable {c0 : mH} {v5 : Value}
theorem z116 (h0 : zC0 c0) : zSp c0 v5 116 sp116 := by
  intro d n as σ cs r hs hx
  unfold sp116 at hs
  split at hs
  · rename_i f m
    cases hs
    obtain ⟨d', hx⟩ := zGo hx
    refine ⟨_, _, ⟨rfl, rfl⟩, ?_⟩
    have stD : ∀ (m' : Nat) (g : Int32) (υ : zS), zF v5 d' n 116 m' 198 [(3, .int g), (0, .ref 183), (1, .int f), (2, .int m)] [] (zH c0 υ) = some r → r = zOut c0 (.inl none) (if (f = 2 ∨ f = 3) ∧ yS υ = 0 then zI υ 25 3 0 else υ) := by
      intro m' g υ hx
      replace hx := zTr (C := nC116) (tb := []) h0 rfl rfl trivial (fun _ => false) 60 hx
      rcases hx with ⟨h1, ⟨h2, hx⟩ | ⟨h2, _, hx⟩⟩ | ⟨h1, ⟨h3, hx⟩ | ⟨h3, ⟨h2, hx⟩ | ⟨h2, _, hx⟩⟩⟩
      · rw [if_neg (fun q => cNeT h2 q.2)]; exact hx
      · rw [if_pos ⟨.inl (cEqT h1), cNeF h2⟩]; exact hx
      · rw [if_neg (fun q => q.1.elim (cEqF h1) (cNeT h3))]; exact hx
      · rw [if_neg (fun q => cNeT h2 q.2)]; exact hx
      · rw [if_pos ⟨.inr (cNeF h3), cNeF h2⟩]; exact hx
    have stC : ¬ (¬ yS σ = 0 ∨ ¬ f < 10) → ∀ (m' : Nat) (g : Int32), (qGoes σ f ∧ g = 1 ∨ ¬ qGoes σ f ∧ g = 0) → zF v5 d' n 116 m' 179 [(3, .int g), (0, .ref 183), (1, .int f), (2, .int m)] [] (zH c0 (zI σ 25 4 0)) = some r → r = zOut c0 (.inl none) (yJps σ f m) := by
      intro hq m' g hg hx
      unfold yJps
      rw [if_neg hq]
      replace hx := zTr (C := nC116) (tb := [(114, sp114)]) h0 rfl rfl ⟨z114 h0, trivial⟩ (fun pc => pc.beq 198) 60 hx
      rcases hg with ⟨e, rfl⟩ | ⟨e, rfl⟩
      · rw [if_pos e]
        rcases hx with ⟨h1, m2, hm, hx⟩ | ⟨h1, ⟨h2, _, _, ⟨rfl, rfl⟩, m2, hm, hx⟩ | ⟨h2, _, _, ⟨rfl, rfl⟩, m2, hm, hx⟩⟩
        · exact absurd (cEqT h1) (by decide)
        · rw [if_pos (show f = 1 from cEqT h2)]
          exact stD m2 _ _ hx
        · rw [if_neg (show ¬ f = 1 from cEqF h2)]
          exact stD m2 _ _ hx
      · rw [if_neg e]
        rcases hx with ⟨h1, m2, hm, hx⟩ | ⟨h1, hx⟩
        · exact stD m2 _ _ hx
        · exact absurd rfl (cEqF h1)
    have stB : ¬ (¬ yS σ = 0 ∨ ¬ f < 10) → ∀ (m' : Nat) (g : Int32), ((f < 2 ∨ (f = 2 ∧ ¬ σ.1 25 3 = 0) ∨ (f = 3 ∧ σ.1 25 3 = 0)) ∧ g = 1 ∨ ¬ (f < 2 ∨ (f = 2 ∧ ¬ σ.1 25 3 = 0) ∨ (f = 3 ∧ σ.1 25 3 = 0)) ∧ g = 0) → zF v5 d' n 116 m' 58 [(3, .int g), (0, .ref 183), (1, .int f), (2, .int m)] [] (zH c0 (zI σ 25 4 0)) = some r → r = zOut c0 (.inl none) (yJps σ f m) := by
      intro hq m' g hg hx
      have f10 : f < 10 := Decidable.not_not.mp (fun e => hq (.inr e))
      replace hx := zTr (C := nC116) (tb := []) h0 rfl rfl trivial (fun pc => pc.beq 179) 60 hx
      rcases hx with ⟨h1, m2, hm, hx⟩ | ⟨h1, hx⟩
      · refine stC hq m2 g ?_ hx
        unfold qGoes
        rw [if_neg (show ¬ 3 < f from cLeT h1)]
        exact hg
      · have h3 : 3 < f := cLeF h1
        have fin : ∀ (m2 : Nat) (g' k : Int32), f - 4 = k → (zHo k (σ.1 25 5) ∧ g' = 1 ∨ ¬ zHo k (σ.1 25 5) ∧ g' = 0) → zF v5 d' n 116 m2 179 [(3, .int g'), (0, .ref 183), (1, .int f), (2, .int m)] [] (zH c0 (zI σ 25 4 0)) = some r → r = zOut c0 (.inl none) (yJps σ f m) := by
          intro m2 g' k hk hg' hx
          refine stC hq m2 g' ?_ hx
          unfold qGoes
          rw [if_pos h3, hk]
          exact hg'
        rcases hx with ⟨a4, hx⟩ | ⟨a4, ⟨b, m2, hm, hx⟩ | ⟨b, m2, hm, hx⟩⟩
        · rcases hx with ⟨a5, hx⟩ | ⟨a5, ⟨b, m2, hm, hx⟩ | ⟨b, m2, hm, hx⟩⟩
          · rcases hx with ⟨a6, hx⟩ | ⟨a6, ⟨b, m2, hm, hx⟩ | ⟨b, m2, hm, hx⟩⟩
            · rcases hx with ⟨a7, hx⟩ | ⟨a7, ⟨b, m2, hm, hx⟩ | ⟨b, m2, hm, hx⟩⟩
              · rcases hx with ⟨a8, hx⟩ | ⟨a8, ⟨b, m2, hm, hx⟩ | ⟨b, m2, hm, hx⟩⟩
                · have e9 := i32_9 h3 f10 (cNeT a4) (cNeT a5) (cNeT a6) (cNeT a7) (cNeT a8)
                  rcases hx with ⟨b, m2, hm, hx⟩ | ⟨b, m2, hm, hx⟩
                  · exact fin m2 0 5 (by rw [e9]; decide) (.inr ⟨fun q => q (cGtT b), rfl⟩) hx
                  · exact fin m2 1 5 (by rw [e9]; decide) (.inl ⟨cGtF b, rfl⟩) hx
                · exact fin m2 0 4 (by rw [show f = 8 from cNeF a8]; decide) (.inr ⟨fun q => q (cEqT b), rfl⟩) hx
                · exact fin m2 1 4 (by rw [show f = 8 from cNeF a8]; decide) (.inl ⟨cEqF b, rfl⟩) hx
              · exact fin m2 0 3 (by rw [show f = 7 from cNeF a7]; decide) (.inr ⟨fun q => q (cLtT b), rfl⟩) hx
              · exact fin m2 1 3 (by rw [show f = 7 from cNeF a7]; decide) (.inl ⟨cLtF b, rfl⟩) hx
            · exact fin m2 0 2 (by rw [show f = 6 from cNeF a6]; decide) (.inr ⟨cLeT b, rfl⟩) hx
            · exact fin m2 1 2 (by rw [show f = 6 from cNeF a6]; decide) (.inl ⟨cLeF b, rfl⟩) hx
          · exact fin m2 0 1 (by rw [show f = 5 from cNeF a5]; decide) (.inr ⟨cNeT b, rfl⟩) hx
          · exact fin m2 1 1 (by rw [show f = 5 from cNeF a5]; decide) (.inl ⟨cNeF b, rfl⟩) hx
        · exact fin m2 0 0 (by rw [show f = 4 from cNeF a4]; decide) (.inr ⟨cGeT b, rfl⟩) hx
        · exact fin m2 1 0 (by rw [show f = 4 from cNeF a4]; decide) (.inl ⟨cGeF b, rfl⟩) hx
    have go : ∀ (b : Int32) (m' : Nat), (b = 1 ∧ f < 10 ∨ b = 0 ∧ ¬ f < 10) → zF v5 d' n 116 m' 15 [(0, .ref 183), (1, .int f), (2, .int m)] [] (zH c0 (zNd σ (¬ b = 0))) = some r → r = zOut c0 (.inl none) (yJps σ f m) := by
      intro b m' hb hx
      by_cases hq : ¬ yS σ = 0 ∨ ¬ f < 10
      · rw [zNd_1 (hq.elim .inl (fun e => .inr (fun w => by
          rcases hb with ⟨_, e2⟩ | ⟨e2, _⟩
          · exact e e2
          · exact w e2)))] at hx
        unfold yJps
        rw [if_pos hq]
        replace hx := zTr (C := nC116) (tb := []) h0 rfl rfl trivial (fun pc => pc.beq 23) 60 hx
        rcases hx with ⟨h1, m2, hm, hx⟩ | ⟨h1, hx⟩
        · exact absurd (show (1 : Int32) = 0 from cEqT h1) (by decide)
        · exact hx
      · have hg : f < 10 := Decidable.not_not.mp (fun e => hq (.inr e))
        have hb1 : b = 1 := by
          rcases hb with ⟨e, _⟩ | ⟨_, e⟩
          · exact e
          · exact absurd hg e
        subst hb1
        rw [zNd_0 (fun w => w.elim (fun e => hq (.inl e)) (fun e => e (by decide)))] at hx
        replace hx := zTr (C := nC116) (tb := []) h0 rfl rfl trivial (fun pc => pc.beq 58) 60 hx
        rcases hx with ⟨h1, hx⟩ | ⟨h1, hx⟩
        · rcases hx with ⟨h2, m2, hm, hx⟩ | ⟨h2, ⟨h3, ⟨h4, m2, hm, hx⟩ | ⟨h4, ⟨h5, m2, hm, hx⟩ | ⟨h5, m2, hm, hx⟩⟩⟩ | ⟨h3, ⟨h4, m2, hm, hx⟩ | ⟨h4, ⟨h5, m2, hm, hx⟩ | ⟨h5, ⟨h6, m2, hm, hx⟩ | ⟨h6, m2, hm, hx⟩⟩⟩⟩⟩
          · exact stB hq m2 1 (.inl ⟨.inl (cLtT h2), rfl⟩) hx
          · exact stB hq m2 0 (.inr ⟨fun q => q.elim (cLtF h2) (fun q => q.elim (fun q => cNeT h3 q.1) (fun q => cNeT h4 q.1)), rfl⟩) hx
          · exact stB hq m2 0 (.inr ⟨fun q => q.elim (cLtF h2) (fun q => q.elim (fun q => cNeT h3 q.1) (fun q => cNeT h5 q.2)), rfl⟩) hx
          · exact stB hq m2 1 (.inl ⟨.inr (.inr ⟨cNeF h4, cNeF h5⟩), rfl⟩) hx
          · exact stB hq m2 1 (.inl ⟨.inr (.inl ⟨cNeF h3, cNeT h4⟩), rfl⟩) hx
          · exact stB hq m2 0 (.inr ⟨fun q => q.elim (cLtF h2) (fun q => q.elim (fun q => q.2 (cNeF h4)) (fun q => cNeT h5 q.1)), rfl⟩) hx
          · have := (cNeF h3).symm.trans (cNeF h5)
            exact absurd this (by decide)
          · have := (cNeF h3).symm.trans (cNeF h5)
            exact absurd this (by decide)
        · exact absurd rfl (cEqF h1)
    replace hx := zTr (C := nC116) (tb := [(113, sp113)]) h0 rfl rfl ⟨z113 h0, trivial⟩ (fun pc => pc.beq 15) 60 hx
    rcases hx with ⟨h1, _, _, ⟨rfl, rfl⟩, m', hm, hx⟩ | ⟨h1, _, _, ⟨rfl, rfl⟩, m', hm, hx⟩
    · exact go 0 m' (.inr ⟨rfl, cGeT h1⟩) hx
    · exact go 1 m' (.inl ⟨rfl, cGeF h1⟩) hx
  · cases hs
theorem z112 (h0 : zC0 c0) : zSp c0 v5 112 sp112 := by
  intro d n as σ cs r hs hx
  unfold sp112 at hs
  split at hs
  · rename_i f m
    cases hs
    obtain ⟨d', hx⟩ := zGo hx
    refine ⟨_, _, ⟨rfl, rfl⟩, ?_⟩
    have loop : ∀ (τ : zS), qM τ = qM σ → ∀ (m' k : Nat), ((k : Int) ≤ f.toInt ∨ k = 0) → zF v5 d' n 112 m' 36 [(4, .int (Int32.ofNat k)), (3, .int (zVal (qR σ 1))), (0, .ref 183), (1, .int f), (2, .int m)] [] (zH c0 (zA τ 26 (mMv (qM σ) m (zVal (qR σ 1)) k))) = some r → r = zOut c0 (.inl none) (qAdd (zA τ 26 (mMv (qM σ) m (zVal (qR σ 1)) f.toNatClampNeg)) 1 f) := by
      intro τ hτ m'
      induction m' using Nat.strongRecOn with
      | ind m' ih =>
        intro k hk hx
        have hkI : (Int32.ofNat k).toInt = k := Int32.toInt_ofNat_of_lt (by have := Int32.toInt_lt f; rcases hk with hk | hk <;> omega)
        replace hx := zTr (C := nC112) (tb := [(177, sp177)]) h0 rfl rfl ⟨z177 h0, trivial⟩ (fun pc => pc.beq 36) 60 hx
        rcases hx with ⟨h1, _, _, ⟨rfl, rfl⟩, hx⟩ | ⟨h1, _, _, m2, hm, hx⟩
        · have h1 : ¬ (k : Int) < f.toInt := fun q => cGeT h1 (Int32.lt_iff_toInt_lt.mpr (by rw [hkI]; exact q))
          have e2 : f.toNatClampNeg = k := by
            show f.toInt.toNat = k
            omega
          rw [e2]
          exact hx
        · have h1 : Int32.ofNat k < f := cGeF h1
          have h1 := Int32.lt_iff_toInt_lt.mp h1
          rw [hkI] at h1
          rw [zA_zA] at hx
          refine ih m2 (by omega) (k + 1) (.inl (by omega)) ?_
          rw [zOfS]
          exact hx
    replace hx := zTr (C := nC112) (tb := [(74, sp74), (176, sp176)]) h0 rfl rfl ⟨z74 h0, z176 h0, trivial⟩ (fun pc => pc.beq 36) 60 hx
    unfold yMov
    obtain ⟨_, _, _, ⟨rfl, rfl⟩, hx⟩ := hx
    have bad1 : ∀ {τ : zS}, zNd τ False = zI τ 25 4 1 := fun {τ} => zNd_1 (.inr id)
    rcases hx with ⟨h1, hx⟩ | ⟨h1, _, _, (⟨p, rfl, rfl⟩ | ⟨p, rfl, rfl⟩), hx⟩
    · rw [if_pos (cEqT h1)]
      exact hx
    · rw [if_neg (cEqF h1), if_neg (fun q => q p)]
      rcases hx with ⟨h2, hx⟩ | ⟨h2, _, _, (⟨q, rfl, rfl⟩ | ⟨q, rfl, rfl⟩), hx⟩
      · exact absurd (cEqT h2) (by decide)
      · rw [if_neg (fun w => w q)]
        rcases hx with ⟨h3, m2, hm, hx⟩ | ⟨h3, hx⟩
        · have hx' := hx
          rw [← zA_self (zNd (zNd σ True) True) 26] at hx'
          exact loop (zNd (zNd σ True) True) rfl m2 0 (.inr rfl) hx'
        · exact absurd (cNeF h3) (by decide)
      · rw [if_pos (show ¬ yRw (zVal (qR σ 1)) f from q)]
        rcases hx with ⟨h3, m2, hm, hx⟩ | ⟨h3, hx⟩
        · exact absurd rfl (cNeT h3)
        · rw [bad1] at hx
          exact hx
    · rw [if_neg (cEqF h1), if_pos p]
      rcases hx with ⟨h2, hx⟩ | ⟨h2, hx⟩
      · rw [bad1] at hx
        exact hx
      · exact absurd rfl (cEqF h2)
  · cases hs
end RG
