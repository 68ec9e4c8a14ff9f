/-! THE UNITS, the reference's: with what is needed -/
theorem zNd_cg {τ : zS} {p q : Prop} [Decidable p] [Decidable q] (h : p ↔ q) : zNd τ p = zNd τ q := by
  by_cases hq : ¬ yS τ = 0 ∨ ¬ p
  · rw [zNd_1 hq, zNd_1 (hq.imp id (fun e w => e (h.mpr w)))]
  · rw [zNd_0 hq, zNd_0 (fun w => hq (w.imp id (fun e w => e (h.mp w))))]
theorem zNd_s {τ : zS} {p : Prop} [Decidable p] : yS (zNd τ p) = if ¬ yS τ = 0 ∨ ¬ p then 1 else 0 := rfl
theorem ndr_s {τ : zS} {p q : Prop} [Decidable p] [Decidable q] : yS (ndr τ p q) = 0 ↔ (yS τ = 0 ∧ p ∧ q) := by
  unfold ndr
  rw [zNd_s, zNd_s]
  by_cases h1 : yS τ = 0 <;> by_cases h2 : p <;> by_cases h3 : q <;> simp [h1, h2, h3]
def qUnt (τ : zS) (c f m : Int32) : zS := if ¬ yS τ = 0 ∨ zSlot f < 0 then zI τ 25 4 1 else
  (fun υ => if ¬ yS υ = 0 then υ else zA υ 31 (upd (υ.2.2.1 31) (zSlot f).toNatClampNeg (υ.1 25 8 + 1 + (if zSlot f = 0 then 4 else if zSlot f = 1 then 8 else 6)))) (if c = 35 then yCtl (zI τ 25 4 0) (zSlot f) m else if c = 36 then yRds (zI τ 25 4 0) (zSlot f) m else if c = 37 then yWrs (zI τ 25 4 0) (zSlot f) m else zI τ 25 4 0)
abbrev sp115 (as : List Value) (σ : zS) : Option zCs := match as with
  | [.ref 183, .int c, .int f, .int m] => some (zN (qUnt σ c f m))
  | _ => none
section RI
variable {c0 : mH} {v5 : Value}
theorem z179 (h0 : zC0 c0) : zSp c0 v5 179 sp179 := by
  intro d n as σ cs r hs hx
  unfold sp179 at hs
  split at hs
  · rename_i u m
    cases hs
    obtain ⟨d', hx⟩ := zGo hx
    refine ⟨_, _, ⟨rfl, rfl⟩, ?_⟩
    have row : ∀ (k : Int32) (m' : Nat) (υ : zS), υ = zNd σ (rdN σ u) → k = rdK u → zF v5 d' n 179 m' 46 [(0, .ref 183), (1, .int u), (2, .int m)] [.int k, .int m, .ref 183] (zH c0 υ) = some r → r = zOut c0 (.inl none) (yRds σ u m) := by
      intro k m' υ hυ hk hx
      subst hυ hk
      replace hx := zTr (C := nC179) (tb := [(176, sp176)]) h0 rfl rfl ⟨z176 h0, trivial⟩ (fun pc => pc.beq 60) 60 hx
      unfold yRds
      obtain ⟨_, _, (⟨p, rfl, rfl⟩ | ⟨p, rfl, rfl⟩), hx⟩ := hx
      · have e : zNd (zNd σ (rdN σ u)) True = ndr σ (rdN σ u) (yRw m (rdK u)) := zNd_cg ⟨fun _ => p, fun _ => trivial⟩
        rw [e] at hx
        rcases hx with ⟨h1, hx⟩ | ⟨h1, ⟨h2, m2, hm, hx⟩ | ⟨h2, hx⟩⟩
        · exact absurd (cEqT h1) (by decide)
        · have hs := ndr_s.mp (cEqT h2)
          rw [if_neg (fun q => q.elim (fun q => q hs.1) (fun q => q.elim (fun q => q hs.2.1) (fun q => q hs.2.2)))]
          exact z179_g h0 hx
        · have hs : ¬ (yS σ = 0 ∧ rdN σ u ∧ yRw m (rdK u)) := fun q => cEqF h2 (ndr_s.mpr q)
          rw [if_pos (by
            by_cases a : yS σ = 0
            · by_cases b : rdN σ u
              · exact .inr (.inr (fun c => hs ⟨a, b, c⟩))
              · exact .inr (.inl b)
            · exact .inl a)]
          exact hx
      · have e : zNd (zNd σ (rdN σ u)) False = ndr σ (rdN σ u) (yRw m (rdK u)) := zNd_cg ⟨fun q => q.elim, fun q => p q⟩
        rw [e] at hx
        rcases hx with ⟨h1, hx⟩ | ⟨h1, hx⟩
        · rw [if_pos (.inr (.inr p))]
          exact hx
        · exact absurd rfl (cEqF h1)
    have go : ∀ (b : Int32) (m' : Nat), (b = 1 ∧ rdN σ u ∨ b = 0 ∧ ¬ rdN σ u) → zF v5 d' n 179 m' 34 [(0, .ref 183), (1, .int u), (2, .int m)] [] (zH c0 (zNd σ (¬ b = 0))) = some r → r = zOut c0 (.inl none) (yRds σ u m) := by
      intro b m' hb hx
      have e : zNd σ (¬ b = 0) = zNd σ (rdN σ u) := zNd_cg (by
        rcases hb with ⟨e1, e2⟩ | ⟨e1, e2⟩
        · exact ⟨fun _ => e2, fun _ => by rw [e1]; decide⟩
        · exact ⟨fun q => absurd e1 q, fun q => absurd q e2⟩)
      replace hx := zTr (C := nC179) (tb := []) h0 rfl rfl trivial (fun pc => pc.beq 46) 60 hx
      rcases hx with ⟨h1, m2, hm, hx⟩ | ⟨h1, m2, hm, hx⟩
      · exact row _ m2 _ e (by unfold rdK; rw [if_neg (cNeT h1)]; rfl) hx
      · exact row _ m2 _ e (by unfold rdK; rw [if_pos (cNeF h1)]; rfl) hx
    replace hx := zTr (C := nC179) (tb := [(113, sp113)]) h0 rfl rfl ⟨z113 h0, trivial⟩ (fun pc => pc.beq 34) 60 hx
    rcases hx with ⟨h1, ⟨h2, _, _, ⟨rfl, rfl⟩, m', hm, hx⟩ | ⟨h2, ⟨h3, _, _, ⟨rfl, rfl⟩, m', hm, hx⟩ | ⟨h3, _, _, ⟨rfl, rfl⟩, m', hm, hx⟩⟩⟩ | ⟨h1, ⟨h4, _, _, ⟨rfl, rfl⟩, m', hm, hx⟩ | ⟨h4, ⟨h2, _, _, ⟨rfl, rfl⟩, m', hm, hx⟩ | ⟨h2, hx⟩⟩⟩
    · exact go 0 m' (.inr ⟨rfl, fun q => q.elim (fun q => cNeT h1 q.1) (fun q => cNeT h2 q.1)⟩) hx
    · exact go 0 m' (.inr ⟨rfl, fun q => q.elim (fun q => cNeT h1 q.1) (fun q => cLeT h3 q.2)⟩) hx
    · exact go 1 m' (.inl ⟨rfl, .inr ⟨cNeF h2, cLeF h3⟩⟩) hx
    · exact go 1 m' (.inl ⟨rfl, .inl ⟨cNeF h1, cLtT h4⟩⟩) hx
    · exact go 0 m' (.inr ⟨rfl, fun q => q.elim (fun q => cLtF h4 q.2) (fun q => cNeT h2 q.1)⟩) hx
    · have := (cNeF h1).symm.trans (cNeF h2)
      exact absurd this (by decide)
  · cases hs
theorem z180 (h0 : zC0 c0) : zSp c0 v5 180 sp180 := by
  intro d n as σ cs r hs hx
  unfold sp180 at hs
  split at hs
  · rename_i u m
    cases hs
    obtain ⟨d', hx⟩ := zGo hx
    refine ⟨_, _, ⟨rfl, rfl⟩, ?_⟩
    have row : ∀ (k : Int32) (m' : Nat) (υ : zS), υ = zNd σ (wrN σ u) → k = wrK u → zF v5 d' n 180 m' 40 [(0, .ref 183), (1, .int u), (2, .int m)] [.int k, .int m, .ref 183] (zH c0 υ) = some r → r = zOut c0 (.inl none) (yWrs σ u m) := by
      intro k m' υ hυ hk hx
      subst hυ hk
      replace hx := zTr (C := nC180) (tb := [(176, sp176)]) h0 rfl rfl ⟨z176 h0, trivial⟩ (fun pc => pc.beq 54) 60 hx
      unfold yWrs
      obtain ⟨_, _, (⟨p, rfl, rfl⟩ | ⟨p, rfl, rfl⟩), hx⟩ := hx
      · have e : zNd (zNd σ (wrN σ u)) True = ndr σ (wrN σ u) (yRw m (wrK u)) := zNd_cg ⟨fun _ => p, fun _ => trivial⟩
        rw [e] at hx
        rcases hx with ⟨h1, hx⟩ | ⟨h1, ⟨h2, m2, hm, hx⟩ | ⟨h2, hx⟩⟩
        · exact absurd (cEqT h1) (by decide)
        · have hs := ndr_s.mp (cEqT h2)
          rw [if_neg (fun q => q.elim (fun q => q hs.1) (fun q => q.elim (fun q => q hs.2.1) (fun q => q hs.2.2)))]
          exact z180_g h0 hx
        · have hs : ¬ (yS σ = 0 ∧ wrN σ u ∧ yRw m (wrK u)) := fun q => cEqF h2 (ndr_s.mpr q)
          rw [if_pos (by
            by_cases a : yS σ = 0
            · by_cases b : wrN σ u
              · exact .inr (.inr (fun c => hs ⟨a, b, c⟩))
              · exact .inr (.inl b)
            · exact .inl a)]
          exact hx
      · have e : zNd (zNd σ (wrN σ u)) False = ndr σ (wrN σ u) (yRw m (wrK u)) := zNd_cg ⟨fun q => q.elim, fun q => p q⟩
        rw [e] at hx
        rcases hx with ⟨h1, hx⟩ | ⟨h1, hx⟩
        · rw [if_pos (.inr (.inr p))]
          exact hx
        · exact absurd rfl (cEqF h1)
    have go : ∀ (b : Int32) (m' : Nat), (b = 1 ∧ wrN σ u ∨ b = 0 ∧ ¬ wrN σ u) → zF v5 d' n 180 m' 27 [(0, .ref 183), (1, .int u), (2, .int m)] [] (zH c0 (zNd σ (¬ b = 0))) = some r → r = zOut c0 (.inl none) (yWrs σ u m) := by
      intro b m' hb hx
      have e : zNd σ (¬ b = 0) = zNd σ (wrN σ u) := zNd_cg (by
        rcases hb with ⟨e1, e2⟩ | ⟨e1, e2⟩
        · exact ⟨fun _ => e2, fun _ => by rw [e1]; decide⟩
        · exact ⟨fun q => absurd e1 q, fun q => absurd q e2⟩)
      replace hx := zTr (C := nC180) (tb := []) h0 rfl rfl trivial (fun pc => pc.beq 40) 60 hx
      rcases hx with ⟨h1, m2, hm, hx⟩ | ⟨h1, m2, hm, hx⟩
      · exact row _ m2 _ e (by unfold wrK; rw [if_neg (cNeT h1)]; rfl) hx
      · exact row _ m2 _ e (by unfold wrK; rw [if_pos (cNeF h1)]; rfl) hx
    replace hx := zTr (C := nC180) (tb := [(113, sp113)]) h0 rfl rfl ⟨z113 h0, trivial⟩ (fun pc => pc.beq 27) 60 hx
    rcases hx with ⟨h1, ⟨h2, _, _, ⟨rfl, rfl⟩, m', hm, hx⟩ | ⟨h2, _, _, ⟨rfl, rfl⟩, m', hm, hx⟩⟩ | ⟨h1, ⟨h4, _, _, ⟨rfl, rfl⟩, m', hm, hx⟩ | ⟨h4, ⟨h2, _, _, ⟨rfl, rfl⟩, m', hm, hx⟩ | ⟨h2, hx⟩⟩⟩
    · exact go 0 m' (.inr ⟨rfl, fun q => q.elim (fun q => cNeT h1 q.1) (cNeT h2)⟩) hx
    · exact go 1 m' (.inl ⟨rfl, .inr (cNeF h2)⟩) hx
    · exact go 1 m' (.inl ⟨rfl, .inl ⟨cNeF h1, cLtT h4⟩⟩) hx
    · exact go 0 m' (.inr ⟨rfl, fun q => q.elim (fun q => cLtF h4 q.2) (cNeT h2)⟩) hx
    · have := (cNeF h1).symm.trans (cNeF h2)
      exact absurd this (by decide)
  · cases hs
theorem z115 (h0 : zC0 c0) : zSp c0 v5 115 sp115 := by
  intro d n as σ cs r hs hx
  unfold sp115 at hs
  split at hs
  · rename_i c f m
    cases hs
    obtain ⟨d', hx⟩ := zGo hx
    refine ⟨_, _, ⟨rfl, rfl⟩, ?_⟩
    have fin : ∀ (m' : Nat) (υ : zS), zF v5 d' n 115 m' 67 [(4, .int (zSlot f)), (0, .ref 183), (1, .int c), (2, .int f), (3, .int m)] [] (zH c0 υ) = some r → r = zOut c0 (.inl none) (if ¬ yS υ = 0 then υ else zA υ 31 (upd (υ.2.2.1 31) (zSlot f).toNatClampNeg (υ.1 25 8 + 1 + (if zSlot f = 0 then 4 else if zSlot f = 1 then 8 else 6)))) := by
      intro m' υ hx
      replace hx := zTr (C := nC115) (tb := []) h0 rfl rfl trivial (fun _ => false) 60 hx
      rcases hx with ⟨h1, hx⟩ | ⟨h1, ⟨h2, ⟨h3, _, hx⟩ | ⟨h3, _, hx⟩⟩ | ⟨h2, _, hx⟩⟩
      · rw [if_pos (cNeT h1)]; exact hx
      · rw [if_neg (fun q => q (cNeF h1)), if_neg (cNeT h2), if_neg (show ¬ zSlot f = 1 from cNeT h3)]; exact hx
      · rw [if_neg (fun q => q (cNeF h1)), if_neg (cNeT h2), if_pos (show zSlot f = 1 from cNeF h3)]; exact hx
      · rw [if_neg (fun q => q (cNeF h1)), if_pos (cNeF h2)]; exact hx
    have no : ∀ {a b : Int32}, c = a → mCnd .ne c b = false → a = b := fun e h => e.symm.trans (cNeF h)
    have go : ∀ (b : Int32) (m' : Nat), (b = 1 ∧ ¬ zSlot f < 0 ∨ b = 0 ∧ zSlot f < 0) → zF v5 d' n 115 m' 20 [(4, .int (zSlot f)), (0, .ref 183), (1, .int c), (2, .int f), (3, .int m)] [] (zH c0 (zNd σ (¬ b = 0))) = some r → r = zOut c0 (.inl none) (qUnt σ c f m) := by
      intro b m' hb hx
      unfold qUnt
      by_cases hq : ¬ yS σ = 0 ∨ zSlot f < 0
      · rw [if_pos hq]
        rw [zNd_1 (hq.imp id (fun e w => by
          rcases hb with ⟨_, e2⟩ | ⟨e2, _⟩
          · exact e2 e
          · exact w e2))] at hx
        replace hx := zTr (C := nC115) (tb := []) h0 rfl rfl trivial (fun pc => pc.beq 28) 60 hx
        rcases hx with ⟨h1, m2, hm, hx⟩ | ⟨h1, hx⟩
        · exact absurd (show (1 : Int32) = 0 from cEqT h1) (by decide)
        · exact hx
      · rw [if_neg hq]
        have hb1 : b = 1 := by
          rcases hb with ⟨e, _⟩ | ⟨_, e⟩
          · exact e
          · exact absurd (.inr e) hq
        subst hb1
        rw [zNd_0 (fun w => w.elim (fun e => hq (.inl e)) (fun e => e (by decide)))] at hx
        replace hx := zTr (C := nC115) (tb := [(178, sp178), (179, sp179), (180, sp180)]) h0 rfl rfl ⟨z178 h0, z179 h0, z180 h0, trivial⟩ (fun pc => pc.beq 67) 60 hx
        rcases hx with ⟨h1, hx⟩ | ⟨h1, hx⟩
        · rcases hx with ⟨h2, hx⟩ | ⟨h2, _, _, ⟨rfl, rfl⟩, hx⟩
          · rw [if_neg (show ¬ c = 35 from cNeT h2)]
            rcases hx with ⟨h3, hx⟩ | ⟨h3, _, _, ⟨rfl, rfl⟩, hx⟩
            · rw [if_neg (show ¬ c = 36 from cNeT h3)]
              rcases hx with ⟨h4, m2, hm, hx⟩ | ⟨h4, _, _, ⟨rfl, rfl⟩, m2, hm, hx⟩
              · rw [if_neg (show ¬ c = 37 from cNeT h4)]
                exact fin m2 _ hx
              · rw [if_pos (show c = 37 from cNeF h4)]
                exact fin m2 _ hx
            · rw [if_pos (show c = 36 from cNeF h3)]
              rcases hx with ⟨h4, m2, hm, hx⟩ | ⟨h4, hx⟩
              · exact fin m2 _ hx
              · exact absurd (no (cNeF h3) h4) (by decide)
          · rw [if_pos (show c = 35 from cNeF h2)]
            rcases hx with ⟨h3, ⟨h4, m2, hm, hx⟩ | ⟨h4, hx⟩⟩ | ⟨h3, hx⟩
            · exact fin m2 _ hx
            · exact absurd (no (cNeF h2) h4) (by decide)
            · exact absurd (no (cNeF h2) h3) (by decide)
        · exact absurd rfl (cEqF h1)
    replace hx := zTr (C := nC115) (tb := [(71, sp71), (113, sp113)]) h0 rfl rfl ⟨z71 h0, z113 h0, trivial⟩ (fun pc => pc.beq 20) 60 hx
    obtain ⟨_, _, ⟨rfl, rfl⟩, hx⟩ := hx
    rcases hx with ⟨h1, _, _, ⟨rfl, rfl⟩, m', hm, hx⟩ | ⟨h1, _, _, ⟨rfl, rfl⟩, m', hm, hx⟩
    · exact go 0 m' (.inr ⟨rfl, cLtT h1⟩) hx
    · exact go 1 m' (.inl ⟨rfl, cLtF h1⟩) hx
  · cases hs
end RI
