/-! THE PROCESSOR, the class's: small methods -/
def zFo (w f : Int32) : Int32 := (((zMag w).toUInt32 >>> ((zSh f).toUInt32 &&& Int32.toUInt32 31)).toInt32 &&& zLb f) * 2 + (if f < 8 then w &&& 1 else 0)
def zSlot (u : Int32) : Int32 := if u = 0 then 0 else if u = 16 then 1 else if u = 18 then 2 else -1
abbrev zBz (U : Nat → Int32) (s t : Int32) : Prop := ¬ s = -1 ∧ ¬ U s.toNatClampNeg < t
abbrev zArp (a n : Int32) : Prop := ¬ a < 0 ∧ ¬ 200 - n < a
def zHo (c v : Int32) : Prop := if c = 0 then v < 0 else if c = 1 then v = 0 else if c = 2 then 0 < v else if c = 3 then ¬ v < 0 else if c = 4 then ¬ v = 0 else ¬ 0 < v
abbrev zBo (σ : zS) (p : Prop) : zCs := fun o σ' => (p ∧ zR σ 1 o σ') ∨ (¬ p ∧ zR σ 0 o σ')
abbrev pR (σ : zS) : Nat → Int32 := σ.2.2.1 8
abbrev pM (σ : zS) : Nat → Int32 := σ.2.2.1 1
abbrev pF (σ : zS) : Int32 := σ.1 7 11
abbrev pA (σ : zS) : Int32 := σ.1 7 13
abbrev pO (σ : zS) : Int32 := σ.1 7 10
abbrev sp154 (as : List Value) (σ : zS) : Option zCs := match as with
  | [.int w, .int f] => some (zR σ (zFo w f))
  | _ => none
abbrev sp155 (as : List Value) (σ : zS) : Option zCs := match as with
  | [.int u] => some (zR σ (zSlot u))
  | _ => none
abbrev sp156 (as : List Value) (σ : zS) : Option zCs := match as with
  | [.ref 160, .int s, .int t] => some (zBo σ (zBz (σ.2.2.1 6) s t))
  | _ => none
abbrev sp206 (as : List Value) (σ : zS) : Option zCs := match as with
  | [.int a, .int n] => some (zBo σ (zArp a n))
  | _ => none
abbrev sp212 (as : List Value) (σ : zS) : Option zCs := match as with
  | [.int c, .int v] => some (zBo σ (zHo c v))
  | _ => none
def zCm (x y : Int32) : Int32 := if x < y then -1 else if x = y then 0 else 1
abbrev sp213 (as : List Value) (σ : zS) : Option zCs := match as with
  | [.int x, .int y] => some (zR σ (zCm x y))
  | _ => none
abbrev zHas (σ : zS) : Prop := zFld (pF σ).toInt64 ∧ zPlc (pA σ)
abbrev sp197 (as : List Value) (σ : zS) : Option zCs := match as with
  | [.ref 165] => some (zBo σ (zHas σ))
  | _ => none
def zTen (R : Nat → Int32) : Int64 := ((zMag (R 0)).toInt64 <<< ((Int8.ofInt 30).toInt32.toInt64 &&& 63)) ||| (zMag (R 7)).toInt64
abbrev sp203 (as : List Value) (σ : zS) : Option zCs := match as with
  | [.ref 165] => some (zRl σ (zTen (pR σ)))
  | _ => none
def rSM (R : Nat → Int32) (r x : Int32) : Nat → Int32 := upd R r.toNatClampNeg (x * 2 + (R r.toNatClampNeg &&& 1))
abbrev sp204 (as : List Value) (σ : zS) : Option zCs := match as with
  | [.ref 165, .int r, .int x] => some (zN (zA σ 8 (rSM (pR σ) r x)))
  | _ => none
def rSB (R : Nat → Int32) (t : Int64) : Nat → Int32 := rSM (rSM R 0 (t >>> ((Int8.ofInt 30).toInt32.toInt64 &&& 63)).toInt32) 7 (t &&& 1073741823).toInt32
abbrev sp205 (as : List Value) (σ : zS) : Option zCs := match as with
  | [.ref 165, .long t] => some (zN (zA σ 8 (rSB (pR σ) t)))
  | _ => none
def zEnW (r w : Int32) : Int32 := if r = 0 ∨ r = 7 then w else (zMag w - zMag w / 4096 * 4096) * 2 + (w &&& 1)
abbrev sp207 (as : List Value) (σ : zS) : Option zCs := match as with
  | [.ref 165, .int r, .int w] => some (zN (zA σ 8 (upd (pR σ) r.toNatClampNeg (zEnW r w))))
  | _ => none
section PA
variable {c0 : mH} {v5 : Value}
theorem z154 (h0 : zC0 c0) : zSp c0 v5 154 sp154 := by
  intro d n as σ cs r hs hx
  unfold sp154 at hs
  split at hs
  · rename_i w f
    cases hs
    obtain ⟨d', hx⟩ := zGo hx
    replace hx := zTr (C := nC154) (tb := [(190, sp190), (138, sp138), (191, sp191), (130, sp130)]) h0 rfl rfl ⟨z190 h0, z138 h0, z191 h0, z130 h0, trivial⟩ (fun _ => false) 60 hx
    refine ⟨_, _, ⟨rfl, rfl⟩, ?_⟩
    obtain ⟨_, _, ⟨rfl, rfl⟩, _, _, ⟨rfl, rfl⟩, hx⟩ := hx
    unfold zFo
    rcases hx with ⟨h1, _, _, ⟨rfl, rfl⟩, hx⟩ | ⟨h1, _, _, ⟨rfl, rfl⟩, _, _, ⟨rfl, rfl⟩, hx⟩
    · rw [if_neg (show ¬ f < 8 from cGeT h1)]; exact hx
    · rw [if_pos (show f < 8 from cGeF h1)]; exact hx
  · cases hs
theorem z155 (h0 : zC0 c0) : zSp c0 v5 155 sp155 := by
  intro d n as σ cs r hs hx
  unfold sp155 at hs
  split at hs
  · rename_i u
    cases hs
    obtain ⟨d', hx⟩ := zGo hx
    replace hx := zTr (C := nC155) (tb := []) h0 rfl rfl trivial (fun _ => false) 60 hx
    refine ⟨_, _, ⟨rfl, rfl⟩, ?_⟩
    have key : ∀ k : Int32, u = k ↔ k.toInt = u.toInt := fun k => ⟨fun h => by rw [h], fun h => (Int32.toInt_inj.mp h).symm⟩
    unfold zSlot
    rcases hx with ⟨h1, hx⟩ | ⟨h1, ⟨h2, hx⟩ | ⟨h2, ⟨h3, hx⟩ | ⟨h3, hx⟩⟩⟩
    · rw [if_pos ((key 0).mpr h1)]; exact hx
    · rw [if_neg (fun h => h1 ((key 0).mp h)), if_pos ((key 16).mpr h2)]; exact hx
    · rw [if_neg (fun h => h1 ((key 0).mp h)), if_neg (fun h => h2 ((key 16).mp h)), if_pos ((key 18).mpr h3)]; exact hx
    · rw [if_neg (fun h => h1 ((key 0).mp h)), if_neg (fun h => h2 ((key 16).mp h)), if_neg (fun h => h3 ((key 18).mp h))]; exact hx
  · cases hs
theorem z156 (h0 : zC0 c0) : zSp c0 v5 156 sp156 := by
  intro d n as σ cs r hs hx
  unfold sp156 at hs
  split at hs
  · rename_i s t
    cases hs
    obtain ⟨d', hx⟩ := zGo hx
    replace hx := zTr (C := nC156) (tb := []) h0 rfl rfl trivial (fun _ => false) 60 hx
    rcases hx with ⟨h1, hx⟩ | ⟨h1, h2, ⟨h3, hx⟩ | ⟨h3, hx⟩⟩
    · exact ⟨_, _, .inr ⟨fun h => h.1 (cEqT h1), rfl, rfl⟩, hx⟩
    · exact ⟨_, _, .inr ⟨fun h => h.2 (cGtT h3), rfl, rfl⟩, hx⟩
    · exact ⟨_, _, .inl ⟨⟨cEqF h1, cGtF h3⟩, rfl, rfl⟩, hx⟩
  · cases hs
theorem z206 (h0 : zC0 c0) : zSp c0 v5 206 sp206 := by
  intro d n as σ cs r hs hx
  unfold sp206 at hs
  split at hs
  · rename_i a k
    cases hs
    obtain ⟨d', hx⟩ := zGo hx
    replace hx := zTr (C := nC206) (tb := []) h0 rfl rfl trivial (fun _ => false) 60 hx
    rcases hx with ⟨h1, hx⟩ | ⟨h1, ⟨h3, hx⟩ | ⟨h3, hx⟩⟩
    · exact ⟨_, _, .inr ⟨fun h => h.1 (cLtT h1), rfl, rfl⟩, hx⟩
    · exact ⟨_, _, .inr ⟨fun h => h.2 (cGtT h3), rfl, rfl⟩, hx⟩
    · exact ⟨_, _, .inl ⟨⟨cLtF h1, cGtF h3⟩, rfl, rfl⟩, hx⟩
  · cases hs
theorem z212 (h0 : zC0 c0) : zSp c0 v5 212 sp212 := by
  intro d n as σ cs r hs hx
  unfold sp212 at hs
  split at hs
  · rename_i c v
    cases hs
    obtain ⟨d', hx⟩ := zGo hx
    replace hx := zTr (C := nC212) (tb := []) h0 rfl rfl trivial (fun _ => false) 60 hx
    have key : ∀ k : Int32, c = k ↔ k.toInt = c.toInt := fun k => ⟨fun h => by rw [h], fun h => (Int32.toInt_inj.mp h).symm⟩
    unfold zHo
    rcases hx with ⟨h1, hx⟩ | ⟨h1, hx⟩
    · rw [if_pos ((key 0).mpr h1)]
      rcases hx with ⟨h, hx⟩ | ⟨h, hx⟩
      · exact ⟨_, _, .inr ⟨cGeT h, rfl, rfl⟩, hx⟩
      · exact ⟨_, _, .inl ⟨cGeF h, rfl, rfl⟩, hx⟩
    · rw [if_neg (fun h => h1 ((key 0).mp h))]
      rcases hx with ⟨h2, hx⟩ | ⟨h2, hx⟩
      · rw [if_pos ((key 1).mpr h2)]
        rcases hx with ⟨h, hx⟩ | ⟨h, hx⟩
        · exact ⟨_, _, .inr ⟨cNeT h, rfl, rfl⟩, hx⟩
        · exact ⟨_, _, .inl ⟨cNeF h, rfl, rfl⟩, hx⟩
      · rw [if_neg (fun h => h2 ((key 1).mp h))]
        rcases hx with ⟨h3, hx⟩ | ⟨h3, hx⟩
        · rw [if_pos ((key 2).mpr h3)]
          rcases hx with ⟨h, hx⟩ | ⟨h, hx⟩
          · exact ⟨_, _, .inr ⟨cLeT h, rfl, rfl⟩, hx⟩
          · exact ⟨_, _, .inl ⟨cLeF h, rfl, rfl⟩, hx⟩
        · rw [if_neg (fun h => h3 ((key 2).mp h))]
          rcases hx with ⟨h4, hx⟩ | ⟨h4, hx⟩
          · rw [if_pos ((key 3).mpr h4)]
            rcases hx with ⟨h, hx⟩ | ⟨h, hx⟩
            · exact ⟨_, _, .inr ⟨fun q => q (cLtT h), rfl, rfl⟩, hx⟩
            · exact ⟨_, _, .inl ⟨cLtF h, rfl, rfl⟩, hx⟩
          · rw [if_neg (fun h => h4 ((key 3).mp h))]
            rcases hx with ⟨h5, hx⟩ | ⟨h5, hx⟩
            · rw [if_pos ((key 4).mpr h5)]
              rcases hx with ⟨h, hx⟩ | ⟨h, hx⟩
              · exact ⟨_, _, .inr ⟨fun q => q (cEqT h), rfl, rfl⟩, hx⟩
              · exact ⟨_, _, .inl ⟨cEqF h, rfl, rfl⟩, hx⟩
            · rw [if_neg (fun h => h5 ((key 4).mp h))]
              rcases hx with ⟨h, hx⟩ | ⟨h, hx⟩
              · exact ⟨_, _, .inr ⟨fun q => q (cGtT h), rfl, rfl⟩, hx⟩
              · exact ⟨_, _, .inl ⟨cGtF h, rfl, rfl⟩, hx⟩
  · cases hs
theorem z213 (h0 : zC0 c0) : zSp c0 v5 213 sp213 := by
  intro d n as σ cs r hs hx
  unfold sp213 at hs
  split at hs
  · rename_i x y
    cases hs
    obtain ⟨d', hx⟩ := zGo hx
    replace hx := zTr (C := nC213) (tb := []) h0 rfl rfl trivial (fun _ => false) 60 hx
    refine ⟨_, _, ⟨rfl, rfl⟩, ?_⟩
    unfold zCm
    rcases hx with ⟨h1, ⟨h2, hx⟩ | ⟨h2, hx⟩⟩ | ⟨h1, hx⟩
    · rw [if_neg (cGeT h1), if_neg (cNeT h2)]; exact hx
    · rw [if_neg (cGeT h1), if_pos (cNeF h2)]; exact hx
    · rw [if_pos (cGeF h1)]; exact hx
  · cases hs
theorem z197 (h0 : zC0 c0) : zSp c0 v5 197 sp197 := by
  intro d n as σ cs r hs hx
  unfold sp197 at hs
  split at hs
  · cases hs
    obtain ⟨d', hx⟩ := zGo hx
    replace hx := zTr (C := nC197) (tb := [(192, sp192), (76, sp76)]) h0 rfl rfl ⟨z192 h0, z76 h0, trivial⟩ (fun _ => false) 60 hx
    obtain ⟨_, _, (⟨p1, rfl, rfl⟩ | ⟨p1, rfl, rfl⟩), hx⟩ := hx
    · rcases hx with ⟨h1, hx⟩ | ⟨h1, hx⟩
      · exact absurd (cEqT h1) (by decide)
      · obtain ⟨_, _, (⟨p2, rfl, rfl⟩ | ⟨p2, rfl, rfl⟩), hx⟩ := hx
        · rcases hx with ⟨h2, hx⟩ | ⟨h2, hx⟩
          · exact absurd (cEqT h2) (by decide)
          · exact ⟨_, _, .inl ⟨⟨p1, p2⟩, rfl, rfl⟩, hx⟩
        · rcases hx with ⟨h2, hx⟩ | ⟨h2, hx⟩
          · exact ⟨_, _, .inr ⟨fun h => p2 h.2, rfl, rfl⟩, hx⟩
          · exact absurd rfl (cEqF h2)
    · rcases hx with ⟨h1, hx⟩ | ⟨h1, hx⟩
      · exact ⟨_, _, .inr ⟨fun h => p1 h.1, rfl, rfl⟩, hx⟩
      · exact absurd rfl (cEqF h1)
  · cases hs
theorem z203 (h0 : zC0 c0) : zSp c0 v5 203 sp203 := by
  intro d n as σ cs r hs hx
  unfold sp203 at hs
  split at hs
  · cases hs
    obtain ⟨d', hx⟩ := zGo hx
    replace hx := zTr (C := nC203) (tb := [(138, sp138)]) h0 rfl rfl ⟨z138 h0, trivial⟩ (fun _ => false) 60 hx
    obtain ⟨_, _, _, ⟨rfl, rfl⟩, _, _, _, ⟨rfl, rfl⟩, hx⟩ := hx
    exact ⟨_, _, ⟨rfl, rfl⟩, hx⟩
  · cases hs
theorem z204 (h0 : zC0 c0) : zSp c0 v5 204 sp204 := by
  intro d n as σ cs r hs hx
  unfold sp204 at hs
  split at hs
  · rename_i i x
    cases hs
    obtain ⟨d', hx⟩ := zGo hx
    replace hx := zTr (C := nC204) (tb := [(191, sp191), (130, sp130)]) h0 rfl rfl ⟨z191 h0, z130 h0, trivial⟩ (fun _ => false) 60 hx
    obtain ⟨_, _, _, ⟨rfl, rfl⟩, _, _, ⟨rfl, rfl⟩, _, hx⟩ := hx
    exact ⟨_, _, ⟨rfl, rfl⟩, hx⟩
  · cases hs
theorem z205 (h0 : zC0 c0) : zSp c0 v5 205 sp205 := by
  intro d n as σ cs r hs hx
  unfold sp205 at hs
  split at hs
  · rename_i t
    cases hs
    obtain ⟨d', hx⟩ := zGo hx
    replace hx := zTr (C := nC205) (tb := [(204, sp204)]) h0 rfl rfl ⟨z204 h0, trivial⟩ (fun _ => false) 60 hx
    obtain ⟨_, _, ⟨rfl, rfl⟩, _, _, ⟨rfl, rfl⟩, hx⟩ := hx
    rw [zA_zA] at hx
    exact ⟨_, _, ⟨rfl, rfl⟩, hx⟩
  · cases hs
theorem z207 (h0 : zC0 c0) : zSp c0 v5 207 sp207 := by
  intro d n as σ cs r hs hx
  unfold sp207 at hs
  split at hs
  · rename_i i w
    cases hs
    obtain ⟨d', hx⟩ := zGo hx
    replace hx := zTr (C := nC207) (tb := [(138, sp138), (191, sp191), (130, sp130)]) h0 rfl rfl ⟨z138 h0, z191 h0, z130 h0, trivial⟩ (fun _ => false) 60 hx
    refine ⟨_, _, ⟨rfl, rfl⟩, ?_⟩
    unfold zEnW
    rcases hx with ⟨h1, ⟨h2, _, hx⟩ | ⟨h2, hx⟩⟩ | ⟨h1, ⟨h2, ⟨h3, _, hx⟩ | ⟨h3, hx⟩⟩ | ⟨h2, ⟨h3, hx⟩ | ⟨h3, _, _, ⟨rfl, rfl⟩, _, _, _, ⟨rfl, rfl⟩, _, _, ⟨rfl, rfl⟩, _, hx⟩⟩⟩
    · rw [if_pos (.inl (cEqT h1))]; exact hx
    · exact absurd rfl (cEqF h2)
    · rw [if_pos (.inr (cEqT h2))]; exact hx
    · exact absurd rfl (cEqF h3)
    · exact absurd (cEqT h3) (by decide)
    · rw [if_neg (fun h => h.elim (cEqF h1) (cEqF h2))]; exact hx
  · cases hs
end PA
