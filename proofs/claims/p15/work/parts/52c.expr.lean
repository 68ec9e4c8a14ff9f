/-! EXPRESSIONS -/
def sLoopF (A : Int32 → Option (Int32 × Int32)) (T : Nat → Int32) (e : Int32) : Nat → Int64 → Int32 → Option (Int64 × Int32)
  | 0, v, p => some (v, p)
  | f + 1, v, p => if p < e ∧ zOpr (T p.toNatClampNeg) then (match A (p + 1) with
    | none => none
    | some b => match zCmb v (T p.toNatClampNeg) b.1.toInt64 with
      | none => none
      | some x => sLoopF A T e f x b.2) else some (v, p)
def sLoop (A : Int32 → Option (Int32 × Int32)) (T : Nat → Int32) (e : Int32) (v : Int64) (p : Int32) : Option (Int64 × Int32) := sLoopF A T e (e.toInt - p.toInt).toNat v p
section SL
variable {A : Int32 → Option (Int32 × Int32)} {T : Nat → Int32} {e : Int32}
theorem sLoopF_fuel (hA : ∀ p b, A p = some b → p.toInt ≤ b.2.toInt) : ∀ (f f' : Nat) (v : Int64) (p : Int32), (e.toInt - p.toInt).toNat ≤ f → (e.toInt - p.toInt).toNat ≤ f' → sLoopF A T e f v p = sLoopF A T e f' v p
  | 0, 0, v, p, _, _ => rfl
  | 0, f' + 1, v, p, h, _ => by
    have hn : ¬ p < e := fun h' => by have := Int32.lt_iff_toInt_lt.mp h'; omega
    unfold sLoopF
    rw [if_neg (fun h' => hn h'.1)]
  | f + 1, 0, v, p, _, h => by
    have hn : ¬ p < e := fun h' => by have := Int32.lt_iff_toInt_lt.mp h'; omega
    unfold sLoopF
    rw [if_neg (fun h' => hn h'.1)]
  | f + 1, f' + 1, v, p, h, h' => by
    unfold sLoopF
    by_cases hc : p < e ∧ zOpr (T p.toNatClampNeg)
    · rw [if_pos hc, if_pos hc]
      cases hb : A (p + 1) with
      | none => rfl
      | some b =>
        dsimp only
        cases zCmb v (T p.toNatClampNeg) b.1.toInt64 with
        | none => rfl
        | some x =>
          have h1 := hA _ _ hb
          have h2 := zInc hc.1
          have h3 := Int32.lt_iff_toInt_lt.mp hc.1
          exact sLoopF_fuel hA f f' x b.2 (by omega) (by omega)
    · rw [if_neg hc, if_neg hc]
theorem sLoop_stop {v : Int64} {p : Int32} (h : ¬ (p < e ∧ zOpr (T p.toNatClampNeg))) : sLoop A T e v p = some (v, p) := by
  unfold sLoop
  cases (e.toInt - p.toInt).toNat with
  | zero => rfl
  | succ f => unfold sLoopF; rw [if_neg h]
theorem sLoop_go (hA : ∀ p b, A p = some b → p.toInt ≤ b.2.toInt) {v : Int64} {p : Int32} (h : p < e) (ho : zOpr (T p.toNatClampNeg)) : sLoop A T e v p = (match A (p + 1) with
    | none => none
    | some b => match zCmb v (T p.toNatClampNeg) b.1.toInt64 with
      | none => none
      | some x => sLoop A T e x b.2) := by
  have h3 := Int32.lt_iff_toInt_lt.mp h
  unfold sLoop
  obtain ⟨f, hf⟩ : ∃ f, (e.toInt - p.toInt).toNat = f + 1 := ⟨(e.toInt - p.toInt).toNat - 1, by omega⟩
  rw [hf]
  conv => lhs; unfold sLoopF
  rw [if_pos ⟨h, ho⟩]
  cases hb : A (p + 1) with
  | none => rfl
  | some b =>
    dsimp only
    cases zCmb v (T p.toNatClampNeg) b.1.toInt64 with
    | none => rfl
    | some x =>
      have h1 := hA _ _ hb
      have h2 := zInc h
      exact sLoopF_fuel hA f _ x b.2 (by omega) (Nat.le_refl _)
/-- an expression: its value, where it ends -/
def sExpr (A : Int32 → Option (Int32 × Int32)) (K : Int64 → Int32 → Option (Int64 × Int32)) (T : Nat → Int32) (e p : Int32) : Option (Int64 × Int32) := if p < e ∧ T p.toNatClampNeg = 45 then (match A (p + 1) with
  | none => none
  | some b => K (-b.1.toInt64) b.2) else (match A (if p < e ∧ T p.toNatClampNeg = 43 then p + 1 else p) with
  | none => none
  | some b => K b.1.toInt64 b.2)
end SL
theorem sAtom_ge {T : Nat → Int32} {e pl : Int32} {L : Int64 → Int32} {D : Nat → Int32} (p : Int32) (b : Int32 × Int32) (h : sAtom T e pl L D p = some b) : p.toInt ≤ b.2.toInt := by
  unfold sAtom at h
  split at h
  · rename_i hc
    cases h
    have := zInc hc.1
    dsimp only
    omega
  · have hr := (zSc_le (fun k => zPb (T k.toNatClampNeg)) e p).1
    unfold sName at h
    split at h
    · cases h; exact hr
    · split at h
      · split at h
        · cases h
        · cases h; exact hr
      · split at h
        · split at h
          · cases h
          · cases h; exact hr
        · cases h
abbrev xA (σ : zS) : Int32 → Option (Int32 × Int32) := sAtom (xT σ) (xPe σ) (xPl σ) (xL σ) (xD σ)
abbrev xExpr (σ : zS) : Option (Int64 × Int32) := sExpr (xA σ) (sLoopF (xA σ) (xT σ) (xPe σ) 240) (xT σ) (xPe σ) (xAt σ)
/-- what a reading of an expression comes to -/
abbrev zEx (σ : zS) (x : Option (Int64 × Int32)) : zCs := fun o σ' => (x = none ∧ o = .inr 0 ∧ ∃ q nm ln cp nu, zX (zTs σ q nm ln cp nu) 0 = σ') ∨ (∃ v q, x = some (v, q) ∧ o = .inl (some (.long v)) ∧ ∃ nm ln cp nu, zTs σ q nm ln cp nu = σ')
abbrev sp189 (as : List Value) (σ : zS) : Option zCs := match as with
  | [.ref 169] => some (zEx σ (xExpr σ))
  | _ => none
theorem zEx_2 {σ : zS} {q0 : Int32} {nm0 : Int64} {ln0 cp0 nu0 : Int32} {x : Option (Int64 × Int32)} {o : zO} {σ' : zS} (h : zEx (zTs σ q0 nm0 ln0 cp0 nu0) x o σ') : zEx σ x o σ' := by
  rcases h with ⟨h1, h2, q, nm, ln, cp, nu, rfl⟩ | ⟨v, q, h1, h2, nm, ln, cp, nu, rfl⟩
  · exact Or.inl ⟨h1, h2, q, nm, ln, cp, nu, by rw [zTs_zTs]⟩
  · exact Or.inr ⟨v, q, h1, h2, nm, ln, cp, nu, by rw [zTs_zTs]⟩
section AT
variable {c0 : mH} {v5 : Value}
theorem z189_l (h0 : zC0 c0) {d n0 : Nat} {r : mO × mH} {ng : Int32} : ∀ (m f : Nat) (i op : Int32) (v : Int64) (σ : zS), i.toInt + f = 240 → zF v5 d n0 189 m 43 [(4, .int i), (2, .long v), (5, .int op), (1, .int ng), (0, .ref 169)] [] (zH c0 σ) = some r → ∃ o σ', zEx σ (sLoopF (xA σ) (xT σ) (xPe σ) f v (xAt σ)) o σ' ∧ r = zOut c0 o σ' := by
  intro m
  induction m using Nat.strongRecOn with
  | ind m ih =>
    intro f i op v σ hi hx
    replace hx := zTr (C := nC189) (tb := [(222, sp222), (221, sp221), (223, sp223)]) h0 rfl rfl ⟨z222 h0, z221 h0, z223 h0, trivial⟩ (fun pc => pc.beq 43) 80 hx
    have self : zTs σ (xAt σ) (σ.2.1 9 6) (σ.1 9 7) (σ.1 9 8) (σ.1 9 9) = σ := by rw [← zTs_2, zI_self]
    rcases hx with ⟨h1, hx⟩ | ⟨h1, hx⟩
    · have h1 : ¬ i.toInt < 240 := fun h' => cGeT h1 (Int32.lt_iff_toInt_lt.mpr h')
      obtain rfl : f = 0 := by omega
      exact ⟨_, _, Or.inr ⟨_, _, rfl, rfl, _, _, _, _, self⟩, hx⟩
    · have h1' : i.toInt < 240 := Int32.lt_iff_toInt_lt.mp (cGeF h1)
      obtain ⟨f, rfl⟩ : ∃ g, f = g + 1 := ⟨f - 1, by omega⟩
      unfold sLoopF
      obtain ⟨_, _, ⟨h2, rfl, rfl⟩ | ⟨h2, h3, rfl, rfl⟩, hx⟩ := hx
      · rcases hx with ⟨h, -⟩ | ⟨-, hx⟩
        · exact absurd rfl (cNeT h)
        · rw [if_neg (fun h => h2 h.1 h.2)]
          exact ⟨_, _, Or.inr ⟨_, _, rfl, rfl, _, _, _, _, self⟩, hx⟩
      · rw [if_pos ⟨h2, h3⟩]
        rcases hx with ⟨-, hx⟩ | ⟨h, -⟩
        · obtain ⟨_, _, ⟨ha, rfl, q, nm, ln, cp, nu, rfl⟩ | ⟨b, q, ha, rfl, nm, ln, cp, nu, rfl⟩, hx⟩ := hx
          · have ha : xA σ (xAt σ + 1) = none := ha
            rw [ha]
            refine ⟨_, _, Or.inl ⟨rfl, rfl, q, nm, ln, cp, nu, ?_⟩, hx⟩
            rw [zTs_2 σ, zTs_zTs]
          · have ha : xA σ (xAt σ + 1) = some (b, q) := ha
            rw [ha]
            dsimp only
            obtain ⟨_, _, ⟨hc, rfl, rfl⟩ | ⟨x, hc, rfl, rfl⟩, hx⟩ := hx
            · rw [hc]
              refine ⟨_, _, Or.inl ⟨rfl, rfl, q, nm, ln, cp, nu, ?_⟩, hx⟩
              rw [zTs_2 σ, zTs_zTs]
            · rw [hc]
              dsimp only
              obtain ⟨m', hm, hx⟩ := hx
              have hi1 : (i + 1).toInt = i.toInt + 1 := zInc (cGeF h1)
              have hx : zF v5 d n0 189 m' 43 [(4, .int (i + 1)), (2, .long x), (5, .int (xT σ (xAt σ).toNatClampNeg)), (1, .int ng), (0, .ref 169)] [] (zH c0 (zTs (zI σ 9 2 (xAt σ + 1)) q nm ln cp nu)) = some r := hx
              rw [zTs_2 σ, zTs_zTs] at hx
              obtain ⟨o, σ', h5, h6⟩ := ih m' (by omega) f (i + 1) _ x _ (by omega) hx
              exact ⟨o, σ', zEx_2 h5, h6⟩
        · have := cNeF h
          rw [show xT σ (xAt σ).toNatClampNeg = 32 from this] at h3
          exact absurd h3 (by decide)
theorem z189 (h0 : zC0 c0) : zSp c0 v5 189 sp189 := by
  intro d n as σ cs r hs hx
  unfold sp189 at hs
  split at hs
  · cases hs
    obtain ⟨d', hx⟩ := zGo hx
    replace hx := zTr (C := nC189) (tb := [(127, sp127), (221, sp221)]) h0 rfl rfl ⟨z127 h0, z221 h0, trivial⟩ (fun pc => pc.beq 43) 80 hx
    unfold xExpr sExpr
    have fin : ∀ (m' : Nat) (q0 q : Int32) (ng : Int32) (v : Int64) (nm : Int64) (ln cp nu : Int32), zF v5 d' n 189 m' 43 [(4, .int 0), (2, .long v), (1, .int ng), (0, .ref 169)] [] (zH c0 (zTs (zI σ 9 2 q0) q nm ln cp nu)) = some r → ∃ o σ', zEx σ (sLoopF (xA σ) (xT σ) (xPe σ) 240 v q) o σ' ∧ r = zOut c0 o σ' := by
      intro m' q0 q ng v nm ln cp nu hx
      have hx := zF_lv (b := [(4, .int 0), (2, .long v), (5, .int 0), (1, .int ng), (0, .ref 169)]) (fun q hq => by
        simp only [List.mem_cons, List.not_mem_nil, or_false] at hq
        rcases hq with rfl | rfl | rfl | rfl <;> rfl) hx
      rw [zTs_2 σ, zTs_zTs] at hx
      obtain ⟨o, σ', h5, h6⟩ := z189_l h0 m' 240 0 0 v _ (by decide) hx
      exact ⟨o, σ', zEx_2 h5, h6⟩
    obtain ⟨_, _, ⟨h1, rfl, rfl⟩ | ⟨h1, rfl, rfl⟩, hx⟩ := hx
    · rw [if_neg (show ¬ (xAt σ < xPe σ ∧ xT σ (xAt σ).toNatClampNeg = 45) from h1)]
      rcases hx with ⟨h, -⟩ | ⟨-, hx⟩
      · exact absurd rfl (cNeT h)
      · obtain ⟨_, _, ⟨h2, rfl, rfl⟩ | ⟨h2, rfl, rfl⟩, hx⟩ := hx
        · rw [if_neg (show ¬ (xAt σ < xPe σ ∧ xT σ (xAt σ).toNatClampNeg = 43) from h2)]
          obtain ⟨_, _, ⟨ha, rfl, q, nm, ln, cp, nu, rfl⟩ | ⟨b, q, ha, rfl, nm, ln, cp, nu, rfl⟩, hx⟩ := hx
          · rw [show xA σ (xAt σ) = none from ha]
            exact ⟨_, _, Or.inl ⟨rfl, rfl, q, nm, ln, cp, nu, rfl⟩, hx⟩
          · rw [show xA σ (xAt σ) = some (b, q) from ha]
            rcases hx with ⟨-, m', hm, hx⟩ | ⟨h, -⟩
            · refine fin m' (xAt σ) q 0 b.toInt64 nm ln cp nu ?_
              rw [zI_self]
              exact hx
            · exact absurd rfl (cEqF h)
        · rw [if_pos (show xAt σ < xPe σ ∧ xT σ (xAt σ).toNatClampNeg = 43 from h2)]
          obtain ⟨_, _, ⟨ha, rfl, q, nm, ln, cp, nu, rfl⟩ | ⟨b, q, ha, rfl, nm, ln, cp, nu, rfl⟩, hx⟩ := hx
          · rw [show xA σ (xAt σ + 1) = none from ha]
            refine ⟨_, _, Or.inl ⟨rfl, rfl, q, nm, ln, cp, nu, ?_⟩, hx⟩
            rw [zTs_2 σ, zTs_zTs]
          · rw [show xA σ (xAt σ + 1) = some (b, q) from ha]
            rcases hx with ⟨-, m', hm, hx⟩ | ⟨h, -⟩
            · exact fin m' (xAt σ + 1) q 0 b.toInt64 nm ln cp nu hx
            · exact absurd rfl (cEqF h)
    · rw [if_pos (show xAt σ < xPe σ ∧ xT σ (xAt σ).toNatClampNeg = 45 from h1)]
      rcases hx with ⟨-, hx⟩ | ⟨h, -⟩
      · obtain ⟨_, _, ⟨ha, rfl, q, nm, ln, cp, nu, rfl⟩ | ⟨b, q, ha, rfl, nm, ln, cp, nu, rfl⟩, hx⟩ := hx
        · rw [show xA σ (xAt σ + 1) = none from ha]
          refine ⟨_, _, Or.inl ⟨rfl, rfl, q, nm, ln, cp, nu, ?_⟩, hx⟩
          rw [zTs_2 σ, zTs_zTs]
        · rw [show xA σ (xAt σ + 1) = some (b, q) from ha]
          rcases hx with ⟨h, -⟩ | ⟨-, m', hm, hx⟩
          · exact absurd (cEqT h) (by decide)
          · exact fin m' (xAt σ + 1) q 1 (-b.toInt64) nm ln cp nu hx
      · exact absurd (cNeF h) (by decide)
  · cases hs
end AT
