/-! THE PROCESSOR, the reference's: a step -/
noncomputable def yJb (τ : zS) (c f m : Int32) : zS := if ¬ yS τ = 0 ∨ zSlot f < 0 then zI τ 25 4 1 else @ite _ (yBz (zI τ 25 4 0) (zSlot f) ↔ c = 34) (Classical.propDecidable _) (yJm (zI τ 25 4 0) m 1) (zI τ 25 4 0)
noncomputable def yOpr (τ : zS) (c f m g : Int32) : zS := if (¬ c < 1 ∧ ¬ 4 < c) ∨ (¬ c < 8 ∧ ¬ 33 < c) ∨ 55 < c then yTch τ c f m else if c = 5 then ySpc τ f else if c = 6 then yShi τ f m else if c = 7 then yMov τ f m else if c = 34 ∨ c = 38 then yJb τ c f m else if ¬ c < 35 ∧ ¬ 37 < c then qUnt τ c f m else if c = 39 then yJps τ f m else if 39 < c then yMvs τ c f m g else τ
abbrev sp75 (as : List Value) (σ : zS) : Option zCs := match as with
  | [.ref 183, .int c, .int f, .int m, .int g] => some (zN (yOpr σ c f m g))
  | _ => none
def eM (R : Nat → Int32) (w : Int32) : Int32 := (if w &&& 1 = 1 then -(zMag w >>> (18 &&& 31)) else zMag w >>> (18 &&& 31)) + (if 0 < dI w then zVal (R (dI w).toNatClampNeg) else 0)
abbrev eG (R : Nat → Int32) (w : Int32) : Prop := eM R w < 0 ∨ (eM R w = 0 ∧ dI w = 0 ∧ w &&& 1 = 1)
abbrev eC0 (w : Int32) : Int32 := zMag w &&& 63
abbrev eF0 (w : Int32) : Int32 := (zMag w >>> (6 &&& 31)) &&& 63
abbrev qWtg (τ : zS) (w : Int32) : Prop := (¬ eC0 w < 35 ∧ ¬ 37 < eC0 w) ∧ ¬ zSlot (eF0 w) < 0 ∧ yBz τ (zSlot (eF0 w))
abbrev yW (τ : zS) : Int32 := qM τ (τ.1 25 6).toNatClampNeg
noncomputable def yUp (τ : zS) : zS := yOpr (zI (zI τ 25 4 0) 25 7 (τ.1 25 6 + 1)) (eC0 (yW τ)) (eF0 (yW τ)) (eM (qR τ) (yW τ)) (if eG (qR τ) (yW τ) then 1 else 0)
abbrev sp44 (as : List Value) (σ : zS) : Option zCs := match as with
  | [.ref 183] => some (fun o σ' => (¬ qPlc (σ.1 25 6) ∧ zR (zI σ 25 4 1) 0 o σ') ∨ (qPlc (σ.1 25 6) ∧ qWtg σ (yW σ) ∧ zR (zI (zI (zI σ 25 4 0) 25 8 (σ.1 25 8 + 1)) 25 9 (σ.1 25 9 + 1)) 1 o σ') ∨ (qPlc (σ.1 25 6) ∧ ¬ qWtg σ (yW σ) ∧ 6 < dI (yW σ) ∧ zR (zI σ 25 4 1) 0 o σ') ∨ (qPlc (σ.1 25 6) ∧ ¬ qWtg σ (yW σ) ∧ ¬ 6 < dI (yW σ) ∧ ¬ yS (yUp σ) = 0 ∧ zR (yUp σ) 0 o σ') ∨ (qPlc (σ.1 25 6) ∧ ¬ qWtg σ (yW σ) ∧ ¬ 6 < dI (yW σ) ∧ yS (yUp σ) = 0 ∧ zR (zI (zI (yUp σ) 25 6 ((yUp σ).1 25 7)) 25 8 ((yUp σ).1 25 8 + 1)) 1 o σ'))
  | _ => none
section RJ
variable {c0 : mH} {v5 : Value}
theorem z75 (h0 : zC0 c0) : zSp c0 v5 75 sp75 := by
  intro d n as σ cs r hs hx
  unfold sp75 at hs
  split at hs
  · rename_i c f m g
    cases hs
    obtain ⟨d', hx⟩ := zGo hx
    refine ⟨_, _, ⟨rfl, rfl⟩, ?_⟩
    have tch : ∀ m', zF v5 d' n 75 m' 26 [(0, .ref 183), (1, .int c), (2, .int f), (3, .int m), (4, .int g)] [] (zH c0 σ) = some r → ((¬ c < 1 ∧ ¬ 4 < c) ∨ (¬ c < 8 ∧ ¬ 33 < c) ∨ 55 < c) → r = zOut c0 (.inl none) (yOpr σ c f m g) := by
      intro m' hx hc
      obtain ⟨_, _, ⟨rfl, rfl⟩, hx⟩ := zTr (C := nC75) (tb := [(109, sp109)]) h0 rfl rfl ⟨z109 h0, trivial⟩ (fun _ => false) 60 hx
      unfold yOpr
      rw [if_pos hc]
      exact hx
    have jb : ∀ m', zF v5 d' n 75 m' 91 [(0, .ref 183), (1, .int c), (2, .int f), (3, .int m), (4, .int g)] [] (zH c0 σ) = some r → r = zOut c0 (.inl none) (yJb σ c f m) := by
      intro m' hx
      have go : ∀ (b : Int32) (m' : Nat), (b = 1 ∧ ¬ zSlot f < 0 ∨ b = 0 ∧ zSlot f < 0) → zF v5 d' n 75 m' 107 [(0, .ref 183), (1, .int c), (2, .int f), (3, .int m), (4, .int g)] [] (zH c0 (zNd σ (¬ b = 0))) = some r → r = zOut c0 (.inl none) (yJb σ c f m) := by
        intro b m' hb hx
        unfold yJb
        by_cases hq : ¬ yS σ = 0 ∨ zSlot f < 0
        · rw [if_pos hq]
          rw [zNd_1 (hq.imp id (fun e w => by
            rcases hb with ⟨_, e2⟩ | ⟨e2, _⟩
            · exact e2 e
            · exact w e2))] at hx
          replace hx := zTr (C := nC75) (tb := []) h0 rfl rfl trivial (fun pc => pc.beq 114) 60 hx
          rcases hx with ⟨h1, hx⟩ | ⟨h1, m2, hm, hx⟩
          · exact hx
          · exact absurd (show (1 : Int32) = 0 from cNeF h1) (by decide)
        · rw [if_neg hq]
          have hb1 : b = 1 := by
            rcases hb with ⟨e, _⟩ | ⟨_, e⟩
            · exact e
            · exact absurd (.inr e) hq
          subst hb1
          rw [zNd_0 (fun w => w.elim (fun e => hq (.inl e)) (fun e => e (by decide)))] at hx
          replace hx := zTr (C := nC75) (tb := [(71, sp71), (72, sp72), (114, sp114)]) h0 rfl rfl ⟨z71 h0, z72 h0, z114 h0, trivial⟩ (fun _ => false) 60 hx
          rcases hx with ⟨h1, hx⟩ | ⟨h1, _, _, ⟨rfl, rfl⟩, _, _, (⟨p, rfl, rfl⟩ | ⟨p, rfl, rfl⟩), hx⟩
          · exact absurd rfl (cNeT h1)
          · rcases hx with ⟨h2, ⟨h3, hx⟩ | ⟨h3, hx⟩⟩ | ⟨h2, ⟨h3, hx⟩ | ⟨h3, _, _, ⟨rfl, rfl⟩, hx⟩⟩
            · rw [if_neg (fun q => cNeT h2 (q.mp p))]; exact hx
            · exact absurd (cNeF h3) (by decide)
            · exact absurd rfl (cNeT h3)
            · rw [if_pos ⟨fun _ => cNeF h2, fun _ => p⟩]; exact hx
          · rcases hx with ⟨h2, ⟨h3, hx⟩ | ⟨h3, _, _, ⟨rfl, rfl⟩, hx⟩⟩ | ⟨h2, ⟨h3, hx⟩ | ⟨h3, hx⟩⟩
            · exact absurd rfl (cNeT h3)
            · rw [if_pos ⟨fun q => absurd q p, fun q => absurd q (cNeT h2)⟩]; exact hx
            · rw [if_neg (fun q => p (q.mpr (cNeF h2)))]; exact hx
            · exact absurd (cNeF h3) (by decide)
      replace hx := zTr (C := nC75) (tb := [(71, sp71), (113, sp113)]) h0 rfl rfl ⟨z71 h0, z113 h0, trivial⟩ (fun pc => pc.beq 107) 60 hx
      obtain ⟨_, _, ⟨rfl, rfl⟩, hx⟩ := hx
      rcases hx with ⟨h1, _, _, ⟨rfl, rfl⟩, m2, hm, hx⟩ | ⟨h1, _, _, ⟨rfl, rfl⟩, m2, hm, hx⟩
      · exact go 0 m2 (.inr ⟨rfl, cLtT h1⟩) hx
      · exact go 1 m2 (.inl ⟨rfl, cLtF h1⟩) hx
    have rest : ¬ ((¬ c < 1 ∧ ¬ 4 < c) ∨ (¬ c < 8 ∧ ¬ 33 < c) ∨ 55 < c) → ∀ m', zF v5 d' n 75 m' 36 [(0, .ref 183), (1, .int c), (2, .int f), (3, .int m), (4, .int g)] [] (zH c0 σ) = some r → r = zOut c0 (.inl none) (yOpr σ c f m g) := by
      intro hn m' hx
      unfold yOpr
      rw [if_neg hn]
      replace hx := zTr (C := nC75) (tb := [(110, sp110), (111, sp111), (112, sp112), (36, sp36), (115, sp115), (116, sp116), (117, sp117)]) h0 rfl rfl ⟨z110 h0, z111 h0, z112 h0, z36 h0, z115 h0, z116 h0, z117 h0, trivial⟩ (fun pc => pc.beq 91) 80 hx
      rcases hx with ⟨h1, hx⟩ | ⟨h1, _, _, ⟨rfl, rfl⟩, hx⟩
      · rw [if_neg (show ¬ c = 5 from cNeT h1)]
        rcases hx with ⟨h2, hx⟩ | ⟨h2, _, _, ⟨rfl, rfl⟩, hx⟩
        · rw [if_neg (show ¬ c = 6 from cNeT h2)]
          rcases hx with ⟨h3, hx⟩ | ⟨h3, _, _, ⟨rfl, rfl⟩, hx⟩
          · rw [if_neg (show ¬ c = 7 from cNeT h3)]
            rcases hx with ⟨h4, m2, hm, hx⟩ | ⟨h4, ⟨h5, hx⟩ | ⟨h5, m2, hm, hx⟩⟩
            · rw [if_pos (.inl (cEqT h4))]
              exact jb m2 hx
            · rw [if_neg (fun q => q.elim (cEqF h4) (cNeT h5))]
              obtain ⟨_, _, (⟨p, rfl, rfl⟩ | ⟨p, rfl, rfl⟩), hx⟩ := hx
              · rw [if_pos (show ¬ c < 35 ∧ ¬ 37 < c from p)]
                rcases hx with ⟨h6, hx⟩ | ⟨h6, _, _, ⟨rfl, rfl⟩, hx⟩
                · exact absurd (cEqT h6) (by decide)
                · exact hx
              · rw [if_neg (show ¬ (¬ c < 35 ∧ ¬ 37 < c) from p)]
                rcases hx with ⟨h6, hx⟩ | ⟨h6, hx⟩
                · rcases hx with ⟨h7, ⟨h8, hx⟩ | ⟨h8, _, _, ⟨rfl, rfl⟩, hx⟩⟩ | ⟨h7, _, _, ⟨rfl, rfl⟩, hx⟩
                  · rw [if_neg (show ¬ c = 39 from cNeT h7), if_neg (show ¬ 39 < c from cLeT h8)]; exact hx
                  · rw [if_neg (show ¬ c = 39 from cNeT h7), if_pos (show 39 < c from cLeF h8)]; exact hx
                  · rw [if_pos (show c = 39 from cNeF h7)]; exact hx
                · exact absurd rfl (cEqF h6)
            · rw [if_pos (.inr (cNeF h5))]
              exact jb m2 hx
          · rw [if_pos (show c = 7 from cNeF h3)]; exact hx
        · rw [if_pos (show c = 6 from cNeF h2)]; exact hx
      · rw [if_pos (show c = 5 from cNeF h1)]; exact hx
    replace hx := zTr (C := nC75) (tb := [(36, sp36)]) h0 rfl rfl ⟨z36 h0, trivial⟩ (fun pc => pc.beq 26 || pc.beq 36) 60 hx
    obtain ⟨_, _, (⟨p, rfl, rfl⟩ | ⟨p, rfl, rfl⟩), hx⟩ := hx
    · rcases hx with ⟨h1, m2, hm, hx⟩ | ⟨h1, hx⟩
      · exact tch m2 hx (.inl p)
      · exact absurd (cNeF h1) (by decide)
    · rcases hx with ⟨h1, hx⟩ | ⟨h1, _, _, (⟨q, rfl, rfl⟩ | ⟨q, rfl, rfl⟩), hx⟩
      · exact absurd rfl (cNeT h1)
      · rcases hx with ⟨h2, m2, hm, hx⟩ | ⟨h2, hx⟩
        · exact tch m2 hx (.inr (.inl q))
        · exact absurd (cNeF h2) (by decide)
      · rcases hx with ⟨h2, hx⟩ | ⟨h2, ⟨h3, m2, hm, hx⟩ | ⟨h3, m2, hm, hx⟩⟩
        · exact absurd rfl (cNeT h2)
        · exact rest (fun w => w.elim p (fun w => w.elim q (fun w => cLeT h3 w))) m2 hx
        · exact tch m2 hx (.inr (.inr (cLeF h3)))
  · cases hs
theorem z44 (h0 : zC0 c0) : zSp c0 v5 44 sp44 := by
  intro d n as σ cs r hs hx
  unfold sp44 at hs
  split at hs
  · cases hs
    obtain ⟨d', hx⟩ := zGo hx
    -- behind the operation
    have s5 : qPlc (σ.1 25 6) → ¬ qWtg σ (yW σ) → ¬ 6 < dI (yW σ) → ∀ (m' : Nat) (g m : Int32), m = eM (qR σ) (yW σ) → g = (if eG (qR σ) (yW σ) then 1 else 0) → zF v5 d' n 44 m' 235 [(5, .int m), (4, .int (dI (yW σ))), (3, .int (eF0 (yW σ))), (2, .int (eC0 (yW σ))), (1, .int (yW σ)), (0, .ref 183)] [.int g, .int m, .int (eF0 (yW σ)), .int (eC0 (yW σ)), .ref 183] (zH c0 (zI (zI σ 25 4 0) 25 7 (σ.1 25 6 + 1))) = some r → ∃ o σ', ((¬ qPlc (σ.1 25 6) ∧ zR (zI σ 25 4 1) 0 o σ') ∨ (qPlc (σ.1 25 6) ∧ qWtg σ (yW σ) ∧ zR (zI (zI (zI σ 25 4 0) 25 8 (σ.1 25 8 + 1)) 25 9 (σ.1 25 9 + 1)) 1 o σ') ∨ (qPlc (σ.1 25 6) ∧ ¬ qWtg σ (yW σ) ∧ 6 < dI (yW σ) ∧ zR (zI σ 25 4 1) 0 o σ') ∨ (qPlc (σ.1 25 6) ∧ ¬ qWtg σ (yW σ) ∧ ¬ 6 < dI (yW σ) ∧ ¬ yS (yUp σ) = 0 ∧ zR (yUp σ) 0 o σ') ∨ (qPlc (σ.1 25 6) ∧ ¬ qWtg σ (yW σ) ∧ ¬ 6 < dI (yW σ) ∧ yS (yUp σ) = 0 ∧ zR (zI (zI (yUp σ) 25 6 ((yUp σ).1 25 7)) 25 8 ((yUp σ).1 25 8 + 1)) 1 o σ')) ∧ r = zOut c0 o σ' := by
      intro p1 p2 p3 m' g m hm hg hx
      replace hx := zTr (C := nC44) (tb := [(75, sp75)]) h0 rfl rfl ⟨z75 h0, trivial⟩ (fun _ => false) 60 hx
      obtain ⟨_, _, ⟨rfl, rfl⟩, hx⟩ := hx
      have e : yOpr (zI (zI σ 25 4 0) 25 7 (σ.1 25 6 + 1)) (eC0 (yW σ)) (eF0 (yW σ)) m g = yUp σ := by
        unfold yUp
        rw [hm, hg]
      rw [e] at hx
      rcases hx with ⟨h1, hx⟩ | ⟨h1, hx⟩
      · exact ⟨_, _, .inr (.inr (.inr (.inr ⟨p1, p2, p3, cEqT h1, rfl, rfl⟩))), hx⟩
      · exact ⟨_, _, .inr (.inr (.inr (.inl ⟨p1, p2, p3, cEqF h1, rfl, rfl⟩))), hx⟩
    have s4 : qPlc (σ.1 25 6) → ¬ qWtg σ (yW σ) → ¬ 6 < dI (yW σ) → ∀ (m' : Nat) (a : Int32), a = (if yW σ &&& 1 = 1 then -(zMag (yW σ) >>> (18 &&& 31)) else zMag (yW σ) >>> (18 &&& 31)) → zF v5 d' n 44 m' 171 [(4, .int (dI (yW σ))), (3, .int (eF0 (yW σ))), (2, .int (eC0 (yW σ))), (1, .int (yW σ)), (0, .ref 183)] [.int a] (zH c0 (zI σ 25 4 0)) = some r → ∃ o σ', ((¬ qPlc (σ.1 25 6) ∧ zR (zI σ 25 4 1) 0 o σ') ∨ (qPlc (σ.1 25 6) ∧ qWtg σ (yW σ) ∧ zR (zI (zI (zI σ 25 4 0) 25 8 (σ.1 25 8 + 1)) 25 9 (σ.1 25 9 + 1)) 1 o σ') ∨ (qPlc (σ.1 25 6) ∧ ¬ qWtg σ (yW σ) ∧ 6 < dI (yW σ) ∧ zR (zI σ 25 4 1) 0 o σ') ∨ (qPlc (σ.1 25 6) ∧ ¬ qWtg σ (yW σ) ∧ ¬ 6 < dI (yW σ) ∧ ¬ yS (yUp σ) = 0 ∧ zR (yUp σ) 0 o σ') ∨ (qPlc (σ.1 25 6) ∧ ¬ qWtg σ (yW σ) ∧ ¬ 6 < dI (yW σ) ∧ yS (yUp σ) = 0 ∧ zR (zI (zI (yUp σ) 25 6 ((yUp σ).1 25 7)) 25 8 ((yUp σ).1 25 8 + 1)) 1 o σ')) ∧ r = zOut c0 o σ' := by
      intro p1 p2 p3 m' a ha hx
      have neg : ∀ (m2 : Nat) (m : Int32), m = eM (qR σ) (yW σ) → zF v5 d' n 44 m2 203 [(5, .int m), (4, .int (dI (yW σ))), (3, .int (eF0 (yW σ))), (2, .int (eC0 (yW σ))), (1, .int (yW σ)), (0, .ref 183)] [] (zH c0 (zI (zI σ 25 4 0) 25 7 (σ.1 25 6 + 1))) = some r → ∃ o σ', ((¬ qPlc (σ.1 25 6) ∧ zR (zI σ 25 4 1) 0 o σ') ∨ (qPlc (σ.1 25 6) ∧ qWtg σ (yW σ) ∧ zR (zI (zI (zI σ 25 4 0) 25 8 (σ.1 25 8 + 1)) 25 9 (σ.1 25 9 + 1)) 1 o σ') ∨ (qPlc (σ.1 25 6) ∧ ¬ qWtg σ (yW σ) ∧ 6 < dI (yW σ) ∧ zR (zI σ 25 4 1) 0 o σ') ∨ (qPlc (σ.1 25 6) ∧ ¬ qWtg σ (yW σ) ∧ ¬ 6 < dI (yW σ) ∧ ¬ yS (yUp σ) = 0 ∧ zR (yUp σ) 0 o σ') ∨ (qPlc (σ.1 25 6) ∧ ¬ qWtg σ (yW σ) ∧ ¬ 6 < dI (yW σ) ∧ yS (yUp σ) = 0 ∧ zR (zI (zI (yUp σ) 25 6 ((yUp σ).1 25 7)) 25 8 ((yUp σ).1 25 8 + 1)) 1 o σ')) ∧ r = zOut c0 o σ' := by
        intro m2 m hm hx
        replace hx := zTr (C := nC44) (tb := [(73, sp73)]) h0 rfl rfl ⟨z73 h0, trivial⟩ (fun pc => pc.beq 235) 60 hx
        rcases hx with ⟨h1, m3, hm3, hx⟩ | ⟨h1, ⟨h2, m3, hm3, hx⟩ | ⟨h2, ⟨h3, m3, hm3, hx⟩ | ⟨h3, _, _, (⟨q, rfl, rfl⟩ | ⟨q, rfl, rfl⟩), hx⟩⟩⟩
        · exact s5 p1 p2 p3 m3 1 m hm (by rw [if_pos (.inl (by rw [← hm]; exact cLtT h1))]) hx
        · exact s5 p1 p2 p3 m3 0 m hm (by rw [if_neg (fun w => w.elim (fun w => cLtF h1 (by rw [hm]; exact w)) (fun w => cNeT h2 (by rw [hm]; exact w.1)))]) hx
        · exact s5 p1 p2 p3 m3 0 m hm (by rw [if_neg (fun w => w.elim (fun w => cLtF h1 (by rw [hm]; exact w)) (fun w => cNeT h3 w.2.1))]) hx
        · rcases hx with ⟨h4, hx⟩ | ⟨h4, m3, hm3, hx⟩
          · exact absurd (cEqT h4) (by decide)
          · exact s5 p1 p2 p3 m3 1 m hm (by rw [if_pos (.inr ⟨by rw [← hm]; exact cNeF h2, cNeF h3, q⟩)]) hx
        · rcases hx with ⟨h4, m3, hm3, hx⟩ | ⟨h4, hx⟩
          · exact s5 p1 p2 p3 m3 0 m hm (by rw [if_neg (fun w => w.elim (fun w => cLtF h1 (by rw [hm]; exact w)) (fun w => q w.2.2))]) hx
          · exact absurd rfl (cEqF h4)
      replace hx := zTr (C := nC44) (tb := [(74, sp74)]) h0 rfl rfl ⟨z74 h0, trivial⟩ (fun pc => pc.beq 203) 60 hx
      rcases hx with ⟨h1, m2, hm, hx⟩ | ⟨h1, _, _, _, ⟨rfl, rfl⟩, m2, hm, hx⟩
      · exact neg m2 _ (by unfold eM; rw [← ha, if_neg (cLeT h1)]; rfl) hx
      · exact neg m2 _ (by unfold eM; rw [← ha, if_pos (cLeF h1)]; rfl) hx
    have s3 : qPlc (σ.1 25 6) → ¬ qWtg σ (yW σ) → ∀ (m' : Nat), zF v5 d' n 44 m' 121 [(4, .int (dI (yW σ))), (3, .int (eF0 (yW σ))), (2, .int (eC0 (yW σ))), (1, .int (yW σ)), (0, .ref 183)] [] (zH c0 (zI σ 25 4 0)) = some r → ∃ o σ', ((¬ qPlc (σ.1 25 6) ∧ zR (zI σ 25 4 1) 0 o σ') ∨ (qPlc (σ.1 25 6) ∧ qWtg σ (yW σ) ∧ zR (zI (zI (zI σ 25 4 0) 25 8 (σ.1 25 8 + 1)) 25 9 (σ.1 25 9 + 1)) 1 o σ') ∨ (qPlc (σ.1 25 6) ∧ ¬ qWtg σ (yW σ) ∧ 6 < dI (yW σ) ∧ zR (zI σ 25 4 1) 0 o σ') ∨ (qPlc (σ.1 25 6) ∧ ¬ qWtg σ (yW σ) ∧ ¬ 6 < dI (yW σ) ∧ ¬ yS (yUp σ) = 0 ∧ zR (yUp σ) 0 o σ') ∨ (qPlc (σ.1 25 6) ∧ ¬ qWtg σ (yW σ) ∧ ¬ 6 < dI (yW σ) ∧ yS (yUp σ) = 0 ∧ zR (zI (zI (yUp σ) 25 6 ((yUp σ).1 25 7)) 25 8 ((yUp σ).1 25 8 + 1)) 1 o σ')) ∧ r = zOut c0 o σ' := by
      intro p1 p2 m' hx
      replace hx := zTr (C := nC44) (tb := [(70, sp70), (73, sp73)]) h0 rfl rfl ⟨z70 h0, z73 h0, trivial⟩ (fun pc => pc.beq 171) 60 hx
      rcases hx with ⟨h1, _, ⟨h2, _, _, (⟨q, rfl, rfl⟩ | ⟨q, rfl, rfl⟩), hx⟩ | ⟨h2, hx⟩⟩ | ⟨h1, _, ⟨h2, hx⟩ | ⟨h2, hx⟩⟩
      · rcases hx with ⟨h3, hx⟩ | ⟨h3, _, _, ⟨rfl, rfl⟩, m2, hm, hx⟩
        · exact absurd (cEqT h3) (by decide)
        · rw [zI_zI] at hx
          exact s4 p1 p2 (cLeT h1) m2 _ (by rw [if_pos q]; rfl) hx
      · rcases hx with ⟨h3, _, _, ⟨rfl, rfl⟩, m2, hm, hx⟩ | ⟨h3, hx⟩
        · rw [zI_zI] at hx
          exact s4 p1 p2 (cLeT h1) m2 _ (by rw [if_neg q]; rfl) hx
        · exact absurd rfl (cEqF h3)
      · exact absurd rfl (cEqF h2)
      · exact absurd (show (1 : Int32) = 0 from cEqT h2) (by decide)
      · rw [zI_zI] at hx
        exact ⟨_, _, .inr (.inr (.inl ⟨p1, p2, cLeF h1, rfl, rfl⟩)), hx⟩
    have s2 : qPlc (σ.1 25 6) → ∀ (m' : Nat), zF v5 d' n 44 m' 29 [(0, .ref 183)] [] (zH c0 (zI σ 25 4 0)) = some r → ∃ o σ', ((¬ qPlc (σ.1 25 6) ∧ zR (zI σ 25 4 1) 0 o σ') ∨ (qPlc (σ.1 25 6) ∧ qWtg σ (yW σ) ∧ zR (zI (zI (zI σ 25 4 0) 25 8 (σ.1 25 8 + 1)) 25 9 (σ.1 25 9 + 1)) 1 o σ') ∨ (qPlc (σ.1 25 6) ∧ ¬ qWtg σ (yW σ) ∧ 6 < dI (yW σ) ∧ zR (zI σ 25 4 1) 0 o σ') ∨ (qPlc (σ.1 25 6) ∧ ¬ qWtg σ (yW σ) ∧ ¬ 6 < dI (yW σ) ∧ ¬ yS (yUp σ) = 0 ∧ zR (yUp σ) 0 o σ') ∨ (qPlc (σ.1 25 6) ∧ ¬ qWtg σ (yW σ) ∧ ¬ 6 < dI (yW σ) ∧ yS (yUp σ) = 0 ∧ zR (zI (zI (yUp σ) 25 6 ((yUp σ).1 25 7)) 25 8 ((yUp σ).1 25 8 + 1)) 1 o σ')) ∧ r = zOut c0 o σ' := by
      intro p1 m' hx
      replace hx := zTr (C := nC44) (tb := [(70, sp70), (36, sp36), (71, sp71), (72, sp72)]) h0 rfl rfl ⟨z70 h0, z36 h0, z71 h0, z72 h0, trivial⟩ (fun pc => pc.beq 121) 80 hx
      obtain ⟨_, _, _, ⟨rfl, rfl⟩, _, _, ⟨rfl, rfl⟩, _, _, ⟨rfl, rfl⟩, _, _, (⟨q, rfl, rfl⟩ | ⟨q, rfl, rfl⟩), hx⟩ := hx
      · rcases hx with ⟨h1, hx⟩ | ⟨h1, _, _, ⟨rfl, rfl⟩, ⟨h2, m2, hm, hx⟩ | ⟨h2, _, _, ⟨rfl, rfl⟩, _, _, (⟨b, rfl, rfl⟩ | ⟨b, rfl, rfl⟩), hx⟩⟩
        · exact absurd (cEqT h1) (by decide)
        · exact s3 p1 (fun w => w.2.1 (cLtT h2)) m2 hx
        · rcases hx with ⟨h3, hx⟩ | ⟨h3, hx⟩
          · exact absurd (cEqT h3) (by decide)
          · exact ⟨_, _, .inr (.inl ⟨p1, ⟨q, cLtF h2, b⟩, rfl, rfl⟩), hx⟩
        · rcases hx with ⟨h3, m2, hm, hx⟩ | ⟨h3, hx⟩
          · exact s3 p1 (fun w => b w.2.2) m2 hx
          · exact absurd rfl (cEqF h3)
      · rcases hx with ⟨h1, m2, hm, hx⟩ | ⟨h1, hx⟩
        · exact s3 p1 (fun w => q w.1) m2 hx
        · exact absurd rfl (cEqF h1)
    replace hx := zTr (C := nC44) (tb := [(46, sp46)]) h0 rfl rfl ⟨z46 h0, trivial⟩ (fun pc => pc.beq 29) 60 hx
    obtain ⟨_, _, (⟨p, rfl, rfl⟩ | ⟨p, rfl, rfl⟩), hx⟩ := hx
    · rcases hx with ⟨h1, _, ⟨h2, m2, hm, hx⟩ | ⟨h2, hx⟩⟩ | ⟨h1, hx⟩
      · exact s2 p m2 hx
      · exact absurd rfl (cEqF h2)
      · exact absurd (cNeF h1) (by decide)
    · rcases hx with ⟨h1, hx⟩ | ⟨h1, _, ⟨h2, hx⟩ | ⟨h2, hx⟩⟩
      · exact absurd rfl (cNeT h1)
      · exact absurd (show (1 : Int32) = 0 from cEqT h2) (by decide)
      · exact ⟨_, _, .inl ⟨p, rfl, rfl⟩, hx⟩
  · cases hs
end RJ
