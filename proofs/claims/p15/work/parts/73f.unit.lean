/-! THE UNITS, the class's -/
def cPas (σ : zS) (inn m : Int32) : Option zS := if uB σ < 6 ∧ zArp m 10 then some (zI (if ¬ inn = 0 then zA σ 1 (va_cpy (σ.2.2.1 3) (σ.2.2.1 1) (uB σ * 10).toNatClampNeg m.toNatClampNeg 10) else zA σ 3 (va_cpy (σ.2.2.1 1) (σ.2.2.1 3) m.toNatClampNeg (uB σ * 10).toNatClampNeg 10)) 2 5 (uB σ + 1)) else none
def cRd (σ : zS) (m : Int32) : Option zS := if ¬ σ.1 2 7 = 0 ∧ zArp m 4 then some (zI (zI (zA σ 1 (va_cpy (σ.2.2.1 4) (σ.2.2.1 1) (σ.1 2 6 * 4).toNatClampNeg m.toNatClampNeg 4)) 2 6 (σ.1 2 6 + 1 - (σ.1 2 6 + 1) / 6 * 6)) 2 7 (σ.1 2 7 - 1)) else none
def cPr (σ : zS) (m : Int32) : Option zS := if zArp m 6 then some (zI (zA σ 5 (va_cpy (σ.2.2.1 1) (σ.2.2.1 5) m.toNatClampNeg ((σ.1 2 8 - σ.1 2 8 / 8 * 8) * 6).toNatClampNeg 6)) 2 8 (σ.1 2 8 + 1)) else none
def cTo (b m : Int32) : Int32 := if m = 0 then 0 else if 0 < (if b + m < 6 then b + m else 6) then (if b + m < 6 then b + m else 6) else 0
def cCtl (σ : zS) (s m : Int32) : Option zS := if s = 0 then some (zI σ 2 5 (cTo (uB σ) m)) else if s = 1 then none else some σ
def cAct (σ : zS) (op s m : Int32) : Option zS := if op = 35 then cCtl σ s m else if s = 0 then cPas σ (if op = 36 then 1 else 0) m else if s = 1 then (if op = 36 then cRd σ m else none) else (if op = 36 then none else cPr σ m)
abbrev sp228' (as : List Value) (σ : zS) : Option zCs := match as with
  | [.ref 160, .int s, .int m] => some (zOp σ (cCtl σ s m))
  | _ => none
abbrev sp229 (as : List Value) (σ : zS) : Option zCs := match as with
  | [.ref 160, .int i, .int m] => some (zOp σ (cPas σ i m))
  | _ => none
abbrev sp230 (as : List Value) (σ : zS) : Option zCs := match as with
  | [.ref 160, .int m] => some (zOp σ (cRd σ m))
  | _ => none
abbrev sp231 (as : List Value) (σ : zS) : Option zCs := match as with
  | [.ref 160, .int m] => some (zOp σ (cPr σ m))
  | _ => none
abbrev sp224 (as : List Value) (σ : zS) : Option zCs := match as with
  | [.ref 160, .int op, .int s, .int m] => some (zOp σ (cAct σ op s m))
  | _ => none
section PF
variable {c0 : mH} {v5 : Value}
theorem z228 (h0 : zC0 c0) : zSp c0 v5 228 sp228' := by
  intro d n as σ cs r hs hx
  unfold sp228' at hs
  split at hs
  · rename_i s m
    cases hs
    obtain ⟨d', hx⟩ := zGo hx
    replace hx := zTr (C := nC228) (tb := []) h0 rfl rfl trivial (fun _ => false) 60 hx
    unfold cCtl cTo
    rcases hx with ⟨h1, ⟨h2, hx⟩ | ⟨h2, hx⟩⟩ | ⟨h1, ⟨h2, ⟨h3, hx⟩ | ⟨h3, hx⟩⟩ | ⟨h2, ⟨h3, hx⟩ | ⟨h3, hx⟩⟩⟩
    · rw [if_neg (cNeT h1), if_pos (show s = 1 from cEqT h2)]
      exact ⟨_, _, .inr ⟨rfl, rfl, rfl⟩, hx⟩
    · rw [if_neg (cNeT h1), if_neg (show ¬ s = 1 from cEqF h2)]
      exact ⟨_, _, .inl ⟨_, rfl, rfl, rfl⟩, hx⟩
    · rw [cNeF h1] at h3
      exact absurd (cEqT h3) (by decide)
    · rw [if_pos (cNeF h1), if_neg (cNeT h2)]
      exact ⟨_, _, .inl ⟨_, rfl, rfl, rfl⟩, hx⟩
    · rw [cNeF h1] at h3
      exact absurd (cEqT h3) (by decide)
    · rw [if_pos (cNeF h1), if_pos (cNeF h2)]
      exact ⟨_, _, .inl ⟨_, rfl, rfl, rfl⟩, hx⟩
  · cases hs
theorem z229 (h0 : zC0 c0) : zSp c0 v5 229 sp229 := by
  intro d n as σ cs r hs hx
  unfold sp229 at hs
  split at hs
  · rename_i i m
    cases hs
    obtain ⟨d', hx⟩ := zGo hx
    replace hx := zTr (C := nC229) (tb := [(206, sp206)]) h0 rfl rfl ⟨z206 h0, trivial⟩ (fun _ => false) 60 hx
    unfold cPas
    rcases hx with ⟨h1, hx⟩ | ⟨h1, _, _, (⟨p, rfl, rfl⟩ | ⟨p, rfl, rfl⟩), hx⟩
    · rw [if_neg (fun q => cGeT h1 q.1)]
      exact ⟨_, _, .inr ⟨rfl, rfl, rfl⟩, hx⟩
    · rw [if_pos ⟨cGeF h1, p⟩]
      rcases hx with ⟨h2, hx⟩ | ⟨h2, hx⟩
      · rcases hx with ⟨h3, _, hx⟩ | ⟨h3, _, hx⟩
        · rw [if_neg (show ¬ ¬ i = 0 from fun q => q (cEqT h3))]
          exact ⟨_, _, .inl ⟨_, rfl, rfl, rfl⟩, hx⟩
        · rw [if_pos (show ¬ i = 0 from cEqF h3)]
          exact ⟨_, _, .inl ⟨_, rfl, rfl, rfl⟩, hx⟩
      · exact absurd (cNeF h2) (by decide)
    · rw [if_neg (fun q => p q.2)]
      rcases hx with ⟨h2, hx⟩ | ⟨h2, hx⟩
      · exact absurd rfl (cNeT h2)
      · exact ⟨_, _, .inr ⟨rfl, rfl, rfl⟩, hx⟩
  · cases hs
theorem z230 (h0 : zC0 c0) : zSp c0 v5 230 sp230 := by
  intro d n as σ cs r hs hx
  unfold sp230 at hs
  split at hs
  · rename_i m
    cases hs
    obtain ⟨d', hx⟩ := zGo hx
    replace hx := zTr (C := nC230) (tb := [(206, sp206)]) h0 rfl rfl ⟨z206 h0, trivial⟩ (fun _ => false) 60 hx
    unfold cRd
    rcases hx with ⟨h1, hx⟩ | ⟨h1, _, _, (⟨p, rfl, rfl⟩ | ⟨p, rfl, rfl⟩), hx⟩
    · rw [if_neg (fun q => q.1 (cEqT h1))]
      exact ⟨_, _, .inr ⟨rfl, rfl, rfl⟩, hx⟩
    · rw [if_pos ⟨cEqF h1, p⟩]
      rcases hx with ⟨h2, _, _, hx⟩ | ⟨h2, hx⟩
      · exact ⟨_, _, .inl ⟨_, rfl, rfl, rfl⟩, hx⟩
      · exact absurd (cNeF h2) (by decide)
    · rw [if_neg (fun q => p q.2)]
      rcases hx with ⟨h2, hx⟩ | ⟨h2, hx⟩
      · exact absurd rfl (cNeT h2)
      · exact ⟨_, _, .inr ⟨rfl, rfl, rfl⟩, hx⟩
  · cases hs
theorem z231 (h0 : zC0 c0) : zSp c0 v5 231 sp231 := by
  intro d n as σ cs r hs hx
  unfold sp231 at hs
  split at hs
  · rename_i m
    cases hs
    obtain ⟨d', hx⟩ := zGo hx
    replace hx := zTr (C := nC231) (tb := [(206, sp206)]) h0 rfl rfl ⟨z206 h0, trivial⟩ (fun _ => false) 60 hx
    unfold cPr
    obtain ⟨_, _, (⟨p, rfl, rfl⟩ | ⟨p, rfl, rfl⟩), hx⟩ := hx
    · rw [if_pos (show zArp m 6 from p)]
      rcases hx with ⟨h2, _, _, hx⟩ | ⟨h2, hx⟩
      · exact ⟨_, _, .inl ⟨_, rfl, rfl, rfl⟩, hx⟩
      · exact absurd (cNeF h2) (by decide)
    · rw [if_neg (show ¬ zArp m 6 from p)]
      rcases hx with ⟨h2, hx⟩ | ⟨h2, hx⟩
      · exact absurd rfl (cNeT h2)
      · exact ⟨_, _, .inr ⟨rfl, rfl, rfl⟩, hx⟩
  · cases hs
theorem z224 (h0 : zC0 c0) : zSp c0 v5 224 sp224 := by
  intro d n as σ cs r hs hx
  unfold sp224 at hs
  split at hs
  · rename_i op s m
    cases hs
    obtain ⟨d', hx⟩ := zGo hx
    replace hx := zTr (C := nC224) (tb := [(228, sp228'), (229, sp229), (230, sp230), (231, sp231)]) h0 rfl rfl ⟨z228 h0, z229 h0, z230 h0, z231 h0, trivial⟩ (fun pc => pc.beq 26) 60 hx
    unfold cAct
    have go : ∀ (m' : Nat) (i : Int32), (op = 36 ∧ i = 1 ∨ ¬ op = 36 ∧ i = 0) → ¬ op = 35 → zF v5 d' n 224 m' 26 [(4, .int i), (0, .ref 160), (1, .int op), (2, .int s), (3, .int m)] [] (zH c0 σ) = some r → ∃ o σ', zOp σ (if op = 35 then cCtl σ s m else if s = 0 then cPas σ (if op = 36 then 1 else 0) m else if s = 1 then (if op = 36 then cRd σ m else none) else (if op = 36 then none else cPr σ m)) o σ' ∧ r = zOut c0 o σ' := by
      intro m' i hi h35 hx
      replace hx := zTr (C := nC224) (tb := [(228, sp228'), (229, sp229), (230, sp230), (231, sp231)]) h0 rfl rfl ⟨z228 h0, z229 h0, z230 h0, z231 h0, trivial⟩ (fun _ => false) 60 hx
      rw [if_neg h35]
      rcases hx with ⟨k1, hx⟩ | ⟨k1, ⟨k2, hx⟩ | ⟨k2, hx⟩⟩
      · rw [if_pos ((kEq _ 0).mpr k1)]
        have ei : (if op = 36 then (1 : Int32) else 0) = i := by
          rcases hi with ⟨e1, e2⟩ | ⟨e1, e2⟩
          · rw [if_pos e1, e2]
          · rw [if_neg e1, e2]
        rw [ei]
        obtain ⟨_, _, (⟨τ, q, rfl, rfl⟩ | ⟨q, rfl, rfl⟩), hx⟩ := hx
        · exact ⟨_, _, .inl ⟨_, q, rfl, rfl⟩, hx⟩
        · exact ⟨_, _, .inr ⟨q, rfl, rfl⟩, hx⟩
      · rw [if_neg (fun e => k1 ((kEq _ 0).mp e)), if_pos ((kEq _ 1).mpr k2)]
        rcases hi with ⟨e1, e2⟩ | ⟨e1, e2⟩
        · rw [if_pos e1]
          rcases hx with ⟨h1, hx⟩ | ⟨h1, hx⟩
          · rw [e2] at h1
            exact absurd (cEqT h1) (by decide)
          · obtain ⟨_, _, (⟨τ, q, rfl, rfl⟩ | ⟨q, rfl, rfl⟩), hx⟩ := hx
            · rcases hx with ⟨h2, hx⟩ | ⟨h2, hx⟩
              · exact absurd (cEqT h2) (by decide)
              · exact ⟨_, _, .inl ⟨_, q, rfl, rfl⟩, hx⟩
            · rcases hx with ⟨h2, hx⟩ | ⟨h2, hx⟩
              · exact ⟨_, _, .inr ⟨q, rfl, rfl⟩, hx⟩
              · exact absurd rfl (cEqF h2)
        · rw [if_neg e1]
          rcases hx with ⟨h1, hx⟩ | ⟨h1, hx⟩
          · exact ⟨_, _, .inr ⟨rfl, rfl, rfl⟩, hx⟩
          · exact absurd e2 (cEqF h1)
      · rw [if_neg (fun e => k1 ((kEq _ 0).mp e)), if_neg (fun e => k2 ((kEq _ 1).mp e))]
        rcases hi with ⟨e1, e2⟩ | ⟨e1, e2⟩
        · rw [if_pos e1]
          rcases hx with ⟨h1, hx⟩ | ⟨h1, hx⟩
          · exact ⟨_, _, .inr ⟨rfl, rfl, rfl⟩, hx⟩
          · rw [e2] at h1
            exact absurd (cNeF h1) (by decide)
        · rw [if_neg e1]
          rcases hx with ⟨h1, hx⟩ | ⟨h1, hx⟩
          · exact absurd e2 (cNeT h1)
          · obtain ⟨_, _, (⟨τ, q, rfl, rfl⟩ | ⟨q, rfl, rfl⟩), hx⟩ := hx
            · rcases hx with ⟨h2, hx⟩ | ⟨h2, hx⟩
              · exact absurd (cEqT h2) (by decide)
              · exact ⟨_, _, .inl ⟨_, q, rfl, rfl⟩, hx⟩
            · rcases hx with ⟨h2, hx⟩ | ⟨h2, hx⟩
              · exact ⟨_, _, .inr ⟨q, rfl, rfl⟩, hx⟩
              · exact absurd rfl (cEqF h2)
    rcases hx with ⟨h1, ⟨h2, m', hm, hx⟩ | ⟨h2, m', hm, hx⟩⟩ | ⟨h1, hx⟩
    · exact go m' 0 (.inr ⟨cNeT h2, rfl⟩) (cNeT h1) hx
    · exact go m' 1 (.inl ⟨cNeF h2, rfl⟩) (cNeT h1) hx
    · rw [if_pos (show op = 35 from cNeF h1)]
      obtain ⟨_, _, (⟨τ, q, rfl, rfl⟩ | ⟨q, rfl, rfl⟩), hx⟩ := hx
      · exact ⟨_, _, .inl ⟨_, q, rfl, rfl⟩, hx⟩
      · exact ⟨_, _, .inr ⟨q, rfl, rfl⟩, hx⟩
  · cases hs
end PF
