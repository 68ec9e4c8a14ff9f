/-! THE PROCESSOR, the reference's: sums, products, jumps -/
def qMu (R : Nat → Int32) (v : Int32) : Nat → Int32 := upd (upd R 0 (2 * (((zMag (R 0)).toInt64 * (zMag v).toInt64) >>> ((Int8.ofInt 30).toInt32.toInt64 &&& 63)).toInt32 + (if R 0 &&& 1 = 1 ↔ v &&& 1 = 1 then 0 else 1))) 7 (2 * (((zMag (R 0)).toInt64 * (zMag v).toInt64) &&& 1073741823).toInt32 + (if R 0 &&& 1 = 1 ↔ v &&& 1 = 1 then 0 else 1))
abbrev sp215 (as : List Value) (σ : zS) : Option zCs := match as with
  | [.ref 183, .int v] => some (zN (zA σ 27 (qMu (qR σ) v)))
  | _ => none
def qDv (R : Nat → Int32) (v : Int32) : Nat → Int32 := upd (upd R 0 (2 * (zTen R / (zMag v).toInt64).toInt32 + (if R 0 &&& 1 = 1 ↔ v &&& 1 = 1 then 0 else 1))) 7 (2 * (zTen R - zTen R / (zMag v).toInt64 * (zMag v).toInt64).toInt32 + (if R 0 &&& 1 = 1 then 1 else 0))
def yDiv (τ : zS) (v : Int32) : zS := if ¬ zMag (qR τ 0) < zMag v then zI τ 25 3 1 else zA τ 27 (qDv (qR τ) v)
abbrev sp216 (as : List Value) (σ : zS) : Option zCs := match as with
  | [.ref 183, .int v] => some (zN (yDiv σ v))
  | _ => none
def yAri (τ : zS) (c v : Int32) : zS := if c = 1 then qAdd τ 0 (zVal v) else if c = 2 then qAdd τ 0 (-(zVal v)) else if c = 3 then zA τ 27 (qMu (qR τ) v) else if c = 4 then yDiv τ v else τ
abbrev sp170 (as : List Value) (σ : zS) : Option zCs := match as with
  | [.ref 183, .int c, .int v] => some (zN (yAri σ c v))
  | _ => none
section RB
variable {c0 : mH} {v5 : Value}
theorem z181 (h0 : zC0 c0) : zSp c0 v5 181 sp181 := by
  intro d n as σ cs r hs hx
  unfold sp181 at hs
  split at hs
  · rename_i c v
    cases hs
    obtain ⟨d', hx⟩ := zGo hx
    replace hx := zTr (C := nC181) (tb := []) h0 rfl rfl trivial (fun _ => false) 60 hx
    unfold zHo
    rcases hx with ⟨h1, hx⟩ | ⟨h1, hx⟩
    · rw [if_neg (cNeT h1)]
      rcases hx with ⟨h2, hx⟩ | ⟨h2, hx⟩
      · rw [if_neg (show ¬ c = 1 from cNeT h2)]
        rcases hx with ⟨h3, hx⟩ | ⟨h3, hx⟩
        · rw [if_neg (show ¬ c = 2 from cNeT h3)]
          rcases hx with ⟨h4, hx⟩ | ⟨h4, hx⟩
          · rw [if_neg (show ¬ c = 3 from cNeT h4)]
            rcases hx with ⟨h5, hx⟩ | ⟨h5, hx⟩
            · rw [if_neg (show ¬ c = 4 from cNeT h5)]
              rcases hx with ⟨h, hx⟩ | ⟨h, hx⟩
              · exact ⟨_, _, .inr ⟨fun q => q (cGtT h), rfl, rfl⟩, hx⟩
              · exact ⟨_, _, .inl ⟨cGtF h, rfl, rfl⟩, hx⟩
            · rw [if_pos (show c = 4 from cNeF h5)]
              rcases hx with ⟨h, hx⟩ | ⟨h, hx⟩
              · exact ⟨_, _, .inr ⟨fun q => q (cEqT h), rfl, rfl⟩, hx⟩
              · exact ⟨_, _, .inl ⟨cEqF h, rfl, rfl⟩, hx⟩
          · rw [if_pos (show c = 3 from cNeF h4)]
            rcases hx with ⟨h, hx⟩ | ⟨h, hx⟩
            · exact ⟨_, _, .inr ⟨fun q => q (cLtT h), rfl, rfl⟩, hx⟩
            · exact ⟨_, _, .inl ⟨cLtF h, rfl, rfl⟩, hx⟩
        · rw [if_pos (show c = 2 from cNeF h3)]
          rcases hx with ⟨h, hx⟩ | ⟨h, hx⟩
          · exact ⟨_, _, .inr ⟨cLeT h, rfl, rfl⟩, hx⟩
          · exact ⟨_, _, .inl ⟨cLeF h, rfl, rfl⟩, hx⟩
      · rw [if_pos (show c = 1 from cNeF h2)]
        rcases hx with ⟨h, hx⟩ | ⟨h, hx⟩
        · exact ⟨_, _, .inr ⟨cNeT h, rfl, rfl⟩, hx⟩
        · exact ⟨_, _, .inl ⟨cNeF h, rfl, rfl⟩, hx⟩
    · rw [if_pos (cNeF h1)]
      rcases hx with ⟨h, hx⟩ | ⟨h, hx⟩
      · exact ⟨_, _, .inr ⟨cGeT h, rfl, rfl⟩, hx⟩
      · exact ⟨_, _, .inl ⟨cGeF h, rfl, rfl⟩, hx⟩
  · cases hs
theorem z114 (h0 : zC0 c0) : zSp c0 v5 114 sp114 := by
  intro d n as σ cs r hs hx
  unfold sp114 at hs
  split at hs
  · rename_i m s
    cases hs
    obtain ⟨d', hx⟩ := zGo hx
    replace hx := zTr (C := nC114) (tb := [(46, sp46), (113, sp113), (146, sp146)]) h0 rfl rfl ⟨z46 h0, z113 h0, z146 h0, trivial⟩ (fun _ => false) 60 hx
    refine ⟨_, _, ⟨rfl, rfl⟩, ?_⟩
    unfold yJm
    obtain ⟨_, _, (⟨p, rfl, rfl⟩ | ⟨p, rfl, rfl⟩), _, _, ⟨rfl, rfl⟩, hx⟩ := hx
    · unfold zNd at hx
      by_cases hq : ¬ yS σ = 0
      · rw [if_pos (.inl hq)]
        rw [if_pos (.inl hq)] at hx
        rcases hx with ⟨h1, hx⟩ | ⟨h1, hx⟩
        · exact absurd (show (1 : Int32) = 0 from cEqT h1) (by decide)
        · exact hx
      · have hn : ¬ (¬ yS σ = 0 ∨ ¬ ¬ (1 : Int32) = 0) := fun q => q.elim hq (fun q => q (by decide))
        rw [if_neg (fun q => q.elim hq (fun q => q p))]
        rw [if_neg hn] at hx
        rcases hx with ⟨h1, hx⟩ | ⟨h1, hx⟩
        · rcases hx with ⟨h2, hx⟩ | ⟨h2, _, _, ⟨rfl, rfl⟩, _, hx⟩
          · rw [if_pos (cEqT h2)]; exact hx
          · rw [if_neg (cEqF h2)]; exact hx
        · exact absurd rfl (cEqF h1)
    · unfold zNd at hx
      rw [if_pos (.inr (fun q => q rfl))] at hx
      rw [if_pos (.inr p)]
      rcases hx with ⟨h1, hx⟩ | ⟨h1, hx⟩
      · exact absurd (show (1 : Int32) = 0 from cEqT h1) (by decide)
      · exact hx
  · cases hs
theorem z177 (h0 : zC0 c0) : zSp c0 v5 177 sp177 := by
  intro d n as σ cs r hs hx
  unfold sp177 at hs
  split at hs
  · rename_i i a
    cases hs
    obtain ⟨d', hx⟩ := zGo hx
    refine ⟨_, _, ⟨rfl, rfl⟩, ?_⟩
    have three : ∀ (m : Nat) (τ : zS) (x lm : Int32) (mg : Int64), τ.2.2.1 27 = σ.2.2.1 27 → x = xAy i (qR σ i.toNatClampNeg) a → zF v5 d' n 177 m 78 [(8, .int x), (6, .long mg), (4, .long (sAd (qR σ i.toNatClampNeg) a)), (3, .int lm), (0, .ref 183), (1, .int i), (2, .int a)] [] (zH c0 τ) = some r → r = zOut c0 (.inl none) (zA τ 27 (upd (qR σ) i.toNatClampNeg (wAy i (qR σ i.toNatClampNeg) a))) := by
      intro m τ x lm mg hτ hxx hx
      replace hx := zTr (C := nC177) (tb := [(73, sp73), (146, sp146)]) h0 rfl rfl ⟨z73 h0, z146 h0, trivial⟩ (fun _ => false) 60 hx
      unfold wAy
      rw [← hxx]
      rcases hx with ⟨h1, hx⟩ | ⟨h1, _, _, _, (⟨p, rfl, rfl⟩ | ⟨p, rfl, rfl⟩), _, _, ⟨rfl, rfl⟩, _, hx⟩
      · have e1 := cNeT h1
        rcases hx with ⟨h2, _, _, ⟨rfl, rfl⟩, _, hx⟩ | ⟨h2, _, _, ⟨rfl, rfl⟩, _, hx⟩
        · rw [if_neg (show ¬ (if x = 0 then (qR σ i.toNatClampNeg) &&& 1 = 1 else (sAd (qR σ i.toNatClampNeg) a).toInt < 0) by rw [if_neg e1]; exact lGeT h2)]
          rw [hτ] at hx
          exact hx
        · rw [if_pos (show (if x = 0 then (qR σ i.toNatClampNeg) &&& 1 = 1 else (sAd (qR σ i.toNatClampNeg) a).toInt < 0) by rw [if_neg e1]; exact lGeF h2)]
          rw [hτ] at hx
          exact hx
      · rw [hτ] at p hx
        rw [if_pos (show (if x = 0 then (qR σ i.toNatClampNeg) &&& 1 = 1 else (sAd (qR σ i.toNatClampNeg) a).toInt < 0) by rw [if_pos (cNeF h1)]; exact p)]
        exact hx
      · rw [hτ] at p hx
        rw [if_neg (show ¬ (if x = 0 then (qR σ i.toNatClampNeg) &&& 1 = 1 else (sAd (qR σ i.toNatClampNeg) a).toInt < 0) by rw [if_pos (cNeF h1)]; exact p)]
        exact hx
    have two : ∀ (m : Nat) (lm : Int32) (mg : Int64), lm = lAd i → mg = gAd (sAd (qR σ i.toNatClampNeg) a) → zF v5 d' n 177 m 51 [(6, .long mg), (4, .long (sAd (qR σ i.toNatClampNeg) a)), (3, .int lm), (0, .ref 183), (1, .int i), (2, .int a)] [] (zH c0 σ) = some r → r = zOut c0 (.inl none) (qAdd σ i a) := by
      intro m lm mg hlm hmg hx
      replace hx := zTr (C := nC177) (tb := []) h0 rfl rfl trivial (fun pc => pc.beq 78) 60 hx
      unfold qAdd
      have hl : lm = 1073741824 ↔ isAX i := by
        rw [hlm]
        unfold lAd
        by_cases q : isAX i
        · rw [if_pos q]; exact ⟨fun _ => q, fun _ => rfl⟩
        · rw [if_neg q]; exact ⟨fun e => absurd e (by decide), fun e => absurd e q⟩
      rcases hx with ⟨h1, _, m', hm, hx⟩ | ⟨h1, ⟨h2, _, m', hm, hx⟩ | ⟨h2, _, _, m', hm, hx⟩⟩
      · have h1 := lLtT h1
        rw [Int32.toInt_toInt64, hlm, hmg] at h1
        rw [if_neg (fun q => q.2 h1)]
        exact three m' σ _ _ _ rfl (by rw [hlm, hmg]; rfl) hx
      · rw [if_neg (fun q => cNeT h2 (hl.mpr q.1))]
        exact three m' σ _ _ _ rfl (by rw [hlm, hmg]; rfl) hx
      · have h1 := lLtF h1
        rw [Int32.toInt_toInt64, hlm, hmg] at h1
        rw [if_pos ⟨hl.mp (cNeF h2), h1⟩]
        exact three m' (zI σ 25 3 1) _ _ _ rfl (by rw [hlm, hmg]; rfl) hx
    have one : ∀ (m : Nat) (lm : Int32), lm = lAd i → zF v5 d' n 177 m 18 [(0, .ref 183), (1, .int i), (2, .int a)] [.int lm] (zH c0 σ) = some r → r = zOut c0 (.inl none) (qAdd σ i a) := by
      intro m lm hlm hx
      replace hx := zTr (C := nC177) (tb := [(74, sp74)]) h0 rfl rfl ⟨z74 h0, trivial⟩ (fun pc => pc.beq 51) 60 hx
      obtain ⟨_, _, _, ⟨rfl, rfl⟩, hx⟩ := hx
      rcases hx with ⟨h1, m', hm, hx⟩ | ⟨h1, m', hm, hx⟩
      · exact two m' lm _ hlm (by unfold gAd; rw [if_neg (show ¬ (sAd (qR σ i.toNatClampNeg) a).toInt < 0 from lGeT h1)]; rfl) hx
      · exact two m' lm _ hlm (by unfold gAd; rw [if_pos (show (sAd (qR σ i.toNatClampNeg) a).toInt < 0 from lGeF h1)]; rfl) hx
    replace hx := zTr (C := nC177) (tb := []) h0 rfl rfl trivial (fun pc => pc.beq 18) 60 hx
    rcases hx with ⟨h1, m', hm, hx⟩ | ⟨h1, ⟨h2, m', hm, hx⟩ | ⟨h2, m', hm, hx⟩⟩
    · exact one m' _ (by unfold lAd; rw [if_pos (.inl (cEqT h1))]) hx
    · exact one m' _ (by unfold lAd; rw [if_neg (fun q => q.elim (cEqF h1) (cNeT h2))]; rfl) hx
    · exact one m' _ (by unfold lAd; rw [if_pos (.inr (cNeF h2))]) hx
  · cases hs
theorem z215 (h0 : zC0 c0) : zSp c0 v5 215 sp215 := by
  intro d n as σ cs r hs hx
  unfold sp215 at hs
  split at hs
  · rename_i v
    cases hs
    obtain ⟨d', hx⟩ := zGo hx
    refine ⟨_, _, ⟨rfl, rfl⟩, ?_⟩
    have fin : ∀ (m' : Nat) (g : Int32), (g = if qR σ 0 &&& 1 = 1 ↔ v &&& 1 = 1 then 0 else 1) → zF v5 d' n 215 m' 40 [(4, .int g), (2, .long ((zMag (qR σ 0)).toInt64 * (zMag v).toInt64)), (0, .ref 183), (1, .int v)] [] (zH c0 σ) = some r → r = zOut c0 (.inl none) (zA σ 27 (qMu (qR σ) v)) := by
      intro m' g hg hx
      replace hx := zTr (C := nC215) (tb := [(146, sp146)]) h0 rfl rfl ⟨z146 h0, trivial⟩ (fun _ => false) 60 hx
      obtain ⟨_, _, ⟨rfl, rfl⟩, _, _, _, ⟨rfl, rfl⟩, _, hx⟩ := hx
      rw [zA_zA] at hx
      unfold qMu
      rw [← hg]
      have e : (if g = 0 then (0 : Int32) else 1) = g := by
        rw [hg]
        split <;> decide
      rw [e] at hx
      exact hx
    replace hx := zTr (C := nC215) (tb := [(70, sp70), (73, sp73)]) h0 rfl rfl ⟨z70 h0, z73 h0, trivial⟩ (fun pc => pc.beq 40) 60 hx
    obtain ⟨_, _, _, ⟨rfl, rfl⟩, _, _, ⟨rfl, rfl⟩, _, _, _, (⟨p, rfl, rfl⟩ | ⟨p, rfl, rfl⟩), _, _, (⟨q, rfl, rfl⟩ | ⟨q, rfl, rfl⟩), hx⟩ := hx
    · rcases hx with ⟨h1, m', hm, hx⟩ | ⟨h1, m', hm, hx⟩
      · exact fin m' 0 (by rw [if_pos ⟨fun _ => q, fun _ => p⟩]) hx
      · exact absurd rfl (cEqF h1)
    · rcases hx with ⟨h1, m', hm, hx⟩ | ⟨h1, m', hm, hx⟩
      · exact absurd (cEqT h1) (by decide)
      · exact fin m' 1 (by rw [if_neg (fun w => q (w.mp p))]) hx
    · rcases hx with ⟨h1, m', hm, hx⟩ | ⟨h1, m', hm, hx⟩
      · exact absurd (cEqT h1) (by decide)
      · exact fin m' 1 (by rw [if_neg (fun w => p (w.mpr q))]) hx
    · rcases hx with ⟨h1, m', hm, hx⟩ | ⟨h1, m', hm, hx⟩
      · exact fin m' 0 (by rw [if_pos ⟨fun w => absurd w p, fun w => absurd w q⟩]) hx
      · exact absurd rfl (cEqF h1)
  · cases hs
end RB
