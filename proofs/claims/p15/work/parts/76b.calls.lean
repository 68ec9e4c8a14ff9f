/-! THE OTHER CALLS, the class's -/
abbrev sp45 (as : List Value) (σ : zS) : Option zCs := match as with
  | [.ref 158, .int p] => some (fun o σ' => (¬ zPlc p ∧ o = .inr 0 ∧ zX σ 0 = σ') ∨ (zPlc p ∧ zR (zI (zI σ 7 5 p) 7 6 0) (if σ.1 7 6 = 0 then 0 else 1) o σ'))
  | _ => none
abbrev sp47 (as : List Value) (σ : zS) : Option zCs := match as with
  | [.ref 158, .int p, .int w] => some (fun o σ' => (¬ zPlc p ∧ o = .inr 2 ∧ zX σ 2 = σ') ∨ (zPlc p ∧ w < 0 ∧ o = .inr 0 ∧ zX σ 0 = σ') ∨ (zPlc p ∧ ¬ w < 0 ∧ zR (zA σ 1 (upd (pM σ) p.toNatClampNeg w)) (pM σ p.toNatClampNeg) o σ'))
  | _ => none
abbrev sp48 (as : List Value) (σ : zS) : Option zCs := match as with
  | [.ref 158, .int p] => some (fun o σ' => (¬ zPlc p ∧ o = .inr 2 ∧ zX σ 2 = σ') ∨ (zPlc p ∧ zR σ (pM σ p.toNatClampNeg) o σ'))
  | _ => none
abbrev rg9 (r : Int32) : Prop := ¬ r < 0 ∧ r < 9
abbrev sp49 (as : List Value) (σ : zS) : Option zCs := match as with
  | [.ref 158, .int r] => some (fun o σ' => (¬ rg9 r ∧ o = .inr 2 ∧ zX σ 2 = σ') ∨ (rg9 r ∧ zR σ (pR σ r.toNatClampNeg) o σ'))
  | _ => none
abbrev cdF (σ : zS) : Int32 := (σ.1 2 6 + σ.1 2 7 - (σ.1 2 6 + σ.1 2 7) / 6 * 6) * 4
def cdA (C : Nat → Int32) (p a b c d : Int32) : Nat → Int32 := upd (upd (upd (upd C p.toNatClampNeg a) (p + 1).toNatClampNeg b) (p + 2).toNatClampNeg c) (p + 3).toNatClampNeg d
abbrev sp77 (as : List Value) (σ : zS) : Option zCs := match as with
  | [.ref 160, .int a, .int b, .int c, .int d] => some (zN (zI (zA σ 4 (cdA (σ.2.2.1 4) (cdF σ) a b c d)) 2 7 (σ.1 2 7 + 1)))
  | _ => none
abbrev nn4 (a b c d : Int32) : Prop := ¬ a < 0 ∧ ¬ b < 0 ∧ ¬ c < 0 ∧ ¬ d < 0
abbrev sp50 (as : List Value) (σ : zS) : Option zCs := match as with
  | [.ref 158, .int a, .int b, .int c, .int d] => some (fun o σ' => (¬ nn4 a b c d ∧ o = .inr 0 ∧ zX σ 0 = σ') ∨ (nn4 a b c d ∧ ¬ σ.1 2 7 < 6 ∧ o = .inr 1 ∧ zX σ 1 = σ') ∨ (nn4 a b c d ∧ σ.1 2 7 < 6 ∧ zR (zI (zA σ 4 (cdA (σ.2.2.1 4) (cdF σ) a b c d)) 2 7 (σ.1 2 7 + 1)) (σ.1 2 7 + 1) o σ'))
  | _ => none
abbrev lnK (σ : zS) : Int32 := if 8 < σ.1 2 8 then 8 else σ.1 2 8
abbrev sp78 (as : List Value) (σ : zS) : Option zCs := match as with
  | [.ref 160] => some (zR σ (lnK σ))
  | _ => none
abbrev prW (σ : zS) (k i : Int32) : Int32 := σ.2.2.1 5 ((σ.1 2 8 - 1 - k - (σ.1 2 8 - 1 - k) / 8 * 8) * 6 + i).toNatClampNeg
abbrev sp79 (as : List Value) (σ : zS) : Option zCs := match as with
  | [.ref 160, .int k, .int i] => some (zR σ (prW σ k i))
  | _ => none
abbrev prO (σ : zS) (k i : Int32) : Prop := ¬ k < 0 ∧ k < lnK σ ∧ ¬ i < 0 ∧ i < 6
abbrev sp51 (as : List Value) (σ : zS) : Option zCs := match as with
  | [.ref 158, .int k, .int i] => some (fun o σ' => (¬ prO σ k i ∧ o = .inr 2 ∧ zX σ 2 = σ') ∨ (prO σ k i ∧ zR σ (prW σ k i) o σ'))
  | _ => none
abbrev tpO (b i : Int32) : Prop := ¬ b < 0 ∧ b < 6 ∧ ¬ i < 0 ∧ i < 10
abbrev sp52 (as : List Value) (σ : zS) : Option zCs := match as with
  | [.ref 158, .int b, .int i] => some (fun o σ' => (¬ tpO b i ∧ o = .inr 2 ∧ zX σ 2 = σ') ∨ (tpO b i ∧ zR σ (σ.2.2.1 3 (b * 10 + i).toNatClampNeg) o σ'))
  | _ => none
def cSt (σ : zS) (w : Int32) : Int32 := if w = 0 then σ.1 7 5 else if w = 1 then σ.1 7 7 else if w = 2 then (if σ.1 7 3 = 0 then 0 else 1) else if w = 3 then σ.1 7 4 else if w = 4 then σ.1 7 6 else if w = 5 then σ.1 2 8 else if w = 6 then σ.1 2 5 else σ.1 7 8
abbrev st7 (w : Int32) : Prop := w = 0 ∨ w = 1 ∨ w = 2 ∨ w = 3 ∨ w = 4 ∨ w = 5 ∨ w = 6 ∨ w = 7
abbrev sp53 (as : List Value) (σ : zS) : Option zCs := match as with
  | [.ref 158, .int w] => some (fun o σ' => (¬ st7 w ∧ o = .inr 2 ∧ zX σ 2 = σ') ∨ (st7 w ∧ zR σ (cSt σ w) o σ'))
  | _ => none
section CA
variable {c0 : mH} {v5 : Value}
theorem z9 (h0 : zC0 c0) {d n : Nat} {σ : zS} {r : mO × mH} (hx : zEv v5 d n 9 [.ref 158] (zH c0 σ) = some r) : r = zOut c0 (.inl (some (.int (σ.1 11 11)))) σ := by
  obtain ⟨d', hx⟩ := zGo hx
  exact zTr (C := nC9) (tb := []) h0 rfl rfl trivial (fun _ => false) 60 hx
theorem z45 (h0 : zC0 c0) : zSp c0 v5 45 sp45 := by
  intro d n as σ cs r hs hx
  unfold sp45 at hs
  split at hs
  · rename_i p
    cases hs
    obtain ⟨d', hx⟩ := zGo hx
    replace hx := zTr (C := nC45) (tb := [(76, sp76), (63, sp63)]) h0 rfl rfl ⟨z76 h0, z63 h0, trivial⟩ (fun _ => false) 60 hx
    obtain ⟨_, _, (⟨q, rfl, rfl⟩ | ⟨q, rfl, rfl⟩), hx⟩ := hx
    · rcases hx with ⟨h1, ⟨h2, _, _, ⟨rfl, rfl⟩, hx⟩ | ⟨h2, _, _, ⟨rfl, rfl⟩, hx⟩⟩ | ⟨h1, hx⟩
      · exact ⟨_, _, .inr ⟨q, rfl, rfl⟩, by rw [if_pos (cEqT h2)]; exact hx⟩
      · exact ⟨_, _, .inr ⟨q, rfl, rfl⟩, by rw [if_neg (cEqF h2)]; exact hx⟩
      · exact absurd (cNeF h1) (by decide)
    · rcases hx with ⟨h1, hx⟩ | ⟨h1, hx⟩
      · exact absurd rfl (cNeT h1)
      · exact ⟨_, _, .inl ⟨q, rfl, rfl⟩, hx⟩
  · cases hs
theorem z47 (h0 : zC0 c0) : zSp c0 v5 47 sp47 := by
  intro d n as σ cs r hs hx
  unfold sp47 at hs
  split at hs
  · rename_i p w
    cases hs
    obtain ⟨d', hx⟩ := zGo hx
    replace hx := zTr (C := nC47) (tb := [(76, sp76)]) h0 rfl rfl ⟨z76 h0, trivial⟩ (fun _ => false) 60 hx
    obtain ⟨_, _, (⟨q, rfl, rfl⟩ | ⟨q, rfl, rfl⟩), hx⟩ := hx
    · rcases hx with ⟨h1, ⟨h2, _, _, hx⟩ | ⟨h2, hx⟩⟩ | ⟨h1, hx⟩
      · exact ⟨_, _, .inr (.inr ⟨q, cGeT h2, rfl, rfl⟩), hx⟩
      · exact ⟨_, _, .inr (.inl ⟨q, cGeF h2, rfl, rfl⟩), hx⟩
      · exact absurd (cNeF h1) (by decide)
    · rcases hx with ⟨h1, hx⟩ | ⟨h1, hx⟩
      · exact absurd rfl (cNeT h1)
      · exact ⟨_, _, .inl ⟨q, rfl, rfl⟩, hx⟩
  · cases hs
theorem z48 (h0 : zC0 c0) : zSp c0 v5 48 sp48 := by
  intro d n as σ cs r hs hx
  unfold sp48 at hs
  split at hs
  · rename_i p
    cases hs
    obtain ⟨d', hx⟩ := zGo hx
    replace hx := zTr (C := nC48) (tb := [(76, sp76)]) h0 rfl rfl ⟨z76 h0, trivial⟩ (fun _ => false) 60 hx
    obtain ⟨_, _, (⟨q, rfl, rfl⟩ | ⟨q, rfl, rfl⟩), hx⟩ := hx
    · rcases hx with ⟨h1, _, hx⟩ | ⟨h1, hx⟩
      · exact ⟨_, _, .inr ⟨q, rfl, rfl⟩, hx⟩
      · exact absurd (cNeF h1) (by decide)
    · rcases hx with ⟨h1, hx⟩ | ⟨h1, hx⟩
      · exact absurd rfl (cNeT h1)
      · exact ⟨_, _, .inl ⟨q, rfl, rfl⟩, hx⟩
  · cases hs
theorem z49 (h0 : zC0 c0) : zSp c0 v5 49 sp49 := by
  intro d n as σ cs r hs hx
  unfold sp49 at hs
  split at hs
  · rename_i p
    cases hs
    obtain ⟨d', hx⟩ := zGo hx
    replace hx := zTr (C := nC49) (tb := []) h0 rfl rfl trivial (fun _ => false) 60 hx
    rcases hx with ⟨h1, hx⟩ | ⟨h1, ⟨h2, _, hx⟩ | ⟨h2, hx⟩⟩
    · exact ⟨_, _, .inl ⟨fun q => q.1 (cLtT h1), rfl, rfl⟩, hx⟩
    · exact ⟨_, _, .inr ⟨⟨cLtF h1, cLtT h2⟩, rfl, rfl⟩, hx⟩
    · exact ⟨_, _, .inl ⟨fun q => cLtF h2 q.2, rfl, rfl⟩, hx⟩
  · cases hs
theorem z77 (h0 : zC0 c0) : zSp c0 v5 77 sp77 := by
  intro d n as σ cs r hs hx
  unfold sp77 at hs
  split at hs
  · cases hs
    obtain ⟨d', hx⟩ := zGo hx
    replace hx := zTr (C := nC77) (tb := []) h0 rfl rfl trivial (fun _ => false) 60 hx
    obtain ⟨_, _, _, _, _, hx⟩ := hx
    rw [zA_zA, zA_zA, zA_zA] at hx
    exact ⟨_, _, ⟨rfl, rfl⟩, hx⟩
  · cases hs
theorem z50 (h0 : zC0 c0) : zSp c0 v5 50 sp50 := by
  intro d n as σ cs r hs hx
  unfold sp50 at hs
  split at hs
  · rename_i a b c e
    cases hs
    obtain ⟨d', hx⟩ := zGo hx
    replace hx := zTr (C := nC50) (tb := [(77, sp77)]) h0 rfl rfl ⟨z77 h0, trivial⟩ (fun _ => false) 60 hx
    rcases hx with ⟨h1, hx⟩ | ⟨h1, ⟨h2, hx⟩ | ⟨h2, ⟨h3, hx⟩ | ⟨h3, ⟨h4, ⟨h5, _, _, ⟨rfl, rfl⟩, hx⟩ | ⟨h5, hx⟩⟩ | ⟨h4, hx⟩⟩⟩⟩
    · exact ⟨_, _, .inl ⟨fun q => q.1 (cLtT h1), rfl, rfl⟩, hx⟩
    · exact ⟨_, _, .inl ⟨fun q => q.2.1 (cLtT h2), rfl, rfl⟩, hx⟩
    · exact ⟨_, _, .inl ⟨fun q => q.2.2.1 (cLtT h3), rfl, rfl⟩, hx⟩
    · exact ⟨_, _, .inr (.inr ⟨⟨cLtF h1, cLtF h2, cLtF h3, cGeT h4⟩, cLtT h5, rfl, rfl⟩), hx⟩
    · exact ⟨_, _, .inr (.inl ⟨⟨cLtF h1, cLtF h2, cLtF h3, cGeT h4⟩, cLtF h5, rfl, rfl⟩), hx⟩
    · exact ⟨_, _, .inl ⟨fun q => q.2.2.2 (cGeF h4), rfl, rfl⟩, hx⟩
  · cases hs
theorem z78 (h0 : zC0 c0) : zSp c0 v5 78 sp78 := by
  intro d n as σ cs r hs hx
  unfold sp78 at hs
  split at hs
  · cases hs
    obtain ⟨d', hx⟩ := zGo hx
    exact ⟨_, _, ⟨rfl, rfl⟩, zTr (C := nC78) (tb := []) h0 rfl rfl trivial (fun _ => false) 60 hx⟩
  · cases hs
theorem z79 (h0 : zC0 c0) : zSp c0 v5 79 sp79 := by
  intro d n as σ cs r hs hx
  unfold sp79 at hs
  split at hs
  · cases hs
    obtain ⟨d', hx⟩ := zGo hx
    obtain ⟨_, _, hx⟩ := zTr (C := nC79) (tb := []) h0 rfl rfl trivial (fun _ => false) 60 hx
    exact ⟨_, _, ⟨rfl, rfl⟩, hx⟩
  · cases hs
theorem z51 (h0 : zC0 c0) : zSp c0 v5 51 sp51 := by
  intro d n as σ cs r hs hx
  unfold sp51 at hs
  split at hs
  · rename_i k i
    cases hs
    obtain ⟨d', hx⟩ := zGo hx
    replace hx := zTr (C := nC51) (tb := [(78, sp78), (79, sp79)]) h0 rfl rfl ⟨z78 h0, z79 h0, trivial⟩ (fun _ => false) 60 hx
    rcases hx with ⟨h1, hx⟩ | ⟨h1, _, _, ⟨rfl, rfl⟩, ⟨h2, hx⟩ | ⟨h2, ⟨h3, hx⟩ | ⟨h3, ⟨h4, _, _, ⟨rfl, rfl⟩, hx⟩ | ⟨h4, hx⟩⟩⟩⟩
    · exact ⟨_, _, .inl ⟨fun q => q.1 (cLtT h1), rfl, rfl⟩, hx⟩
    · exact ⟨_, _, .inl ⟨fun q => cGeT h2 q.2.1, rfl, rfl⟩, hx⟩
    · exact ⟨_, _, .inl ⟨fun q => q.2.2.1 (cLtT h3), rfl, rfl⟩, hx⟩
    · exact ⟨_, _, .inr ⟨⟨cLtF h1, cGeF h2, cLtF h3, cLtT h4⟩, rfl, rfl⟩, hx⟩
    · exact ⟨_, _, .inl ⟨fun q => cLtF h4 q.2.2.2, rfl, rfl⟩, hx⟩
  · cases hs
theorem z52 (h0 : zC0 c0) : zSp c0 v5 52 sp52 := by
  intro d n as σ cs r hs hx
  unfold sp52 at hs
  split at hs
  · rename_i b i
    cases hs
    obtain ⟨d', hx⟩ := zGo hx
    replace hx := zTr (C := nC52) (tb := []) h0 rfl rfl trivial (fun _ => false) 60 hx
    rcases hx with ⟨h1, hx⟩ | ⟨h1, ⟨h2, hx⟩ | ⟨h2, ⟨h3, hx⟩ | ⟨h3, ⟨h4, _, hx⟩ | ⟨h4, hx⟩⟩⟩⟩
    · exact ⟨_, _, .inl ⟨fun q => q.1 (cLtT h1), rfl, rfl⟩, hx⟩
    · exact ⟨_, _, .inl ⟨fun q => cGeT h2 q.2.1, rfl, rfl⟩, hx⟩
    · exact ⟨_, _, .inl ⟨fun q => q.2.2.1 (cLtT h3), rfl, rfl⟩, hx⟩
    · exact ⟨_, _, .inr ⟨⟨cLtF h1, cGeF h2, cLtF h3, cLtT h4⟩, rfl, rfl⟩, hx⟩
    · exact ⟨_, _, .inl ⟨fun q => cLtF h4 q.2.2.2, rfl, rfl⟩, hx⟩
  · cases hs
theorem z53 (h0 : zC0 c0) : zSp c0 v5 53 sp53 := by
  intro d n as σ cs r hs hx
  unfold sp53 at hs
  split at hs
  · rename_i w
    cases hs
    obtain ⟨d', hx⟩ := zGo hx
    replace hx := zTr (C := nC53) (tb := []) h0 rfl rfl trivial (fun _ => false) 60 hx
    have fin : ∀ x, st7 w → cSt σ w = x → r = zOut c0 (.inl (some (.int x))) σ → ∃ o σ', ((¬ st7 w ∧ o = .inr 2 ∧ zX σ 2 = σ') ∨ (st7 w ∧ zR σ (cSt σ w) o σ')) ∧ r = zOut c0 o σ' := fun x hw e hr => ⟨_, _, .inr ⟨hw, rfl, rfl⟩, by rw [e]; exact hr⟩
    have ne : ∀ {k : Int32}, ¬ k.toInt = w.toInt → ¬ w = k := fun h e => h ((kEq _ _).mp e)
    rcases hx with ⟨k0, hx⟩ | ⟨k0, ⟨k1, hx⟩ | ⟨k1, ⟨k2, ⟨h, hx⟩ | ⟨h, hx⟩⟩ | ⟨k2, ⟨k3, hx⟩ | ⟨k3, ⟨k4, hx⟩ | ⟨k4, ⟨k5, hx⟩ | ⟨k5, ⟨k6, hx⟩ | ⟨k6, ⟨k7, hx⟩ | ⟨k7, hx⟩⟩⟩⟩⟩⟩⟩⟩
    · have e := (kEq w 0).mpr k0
      exact fin _ (.inl e) (by unfold cSt; rw [if_pos e] <;> rfl) hx
    · have e := (kEq w 1).mpr k1
      exact fin _ (.inr (.inl e)) (by unfold cSt; rw [if_neg (ne (k := 0) k0), if_pos e] <;> rfl) hx
    · have e := (kEq w 2).mpr k2
      exact fin _ (.inr (.inr (.inl e))) (by unfold cSt; rw [if_neg (ne (k := 0) k0), if_neg (ne (k := 1) k1), if_pos e, if_pos (cEqT h)] <;> rfl) hx
    · have e := (kEq w 2).mpr k2
      exact fin _ (.inr (.inr (.inl e))) (by unfold cSt; rw [if_neg (ne (k := 0) k0), if_neg (ne (k := 1) k1), if_pos e, if_neg (cEqF h)] <;> rfl) hx
    · have e := (kEq w 3).mpr k3
      exact fin _ (.inr (.inr (.inr (.inl e)))) (by unfold cSt; rw [if_neg (ne (k := 0) k0), if_neg (ne (k := 1) k1), if_neg (ne (k := 2) k2), if_pos e] <;> rfl) hx
    · have e := (kEq w 4).mpr k4
      exact fin _ (.inr (.inr (.inr (.inr (.inl e))))) (by unfold cSt; rw [if_neg (ne (k := 0) k0), if_neg (ne (k := 1) k1), if_neg (ne (k := 2) k2), if_neg (ne (k := 3) k3), if_pos e] <;> rfl) hx
    · have e := (kEq w 5).mpr k5
      exact fin _ (.inr (.inr (.inr (.inr (.inr (.inl e)))))) (by unfold cSt; rw [if_neg (ne (k := 0) k0), if_neg (ne (k := 1) k1), if_neg (ne (k := 2) k2), if_neg (ne (k := 3) k3), if_neg (ne (k := 4) k4), if_pos e] <;> rfl) hx
    · have e := (kEq w 6).mpr k6
      exact fin _ (.inr (.inr (.inr (.inr (.inr (.inr (.inl e))))))) (by unfold cSt; rw [if_neg (ne (k := 0) k0), if_neg (ne (k := 1) k1), if_neg (ne (k := 2) k2), if_neg (ne (k := 3) k3), if_neg (ne (k := 4) k4), if_neg (ne (k := 5) k5), if_pos e] <;> rfl) hx
    · have e := (kEq w 7).mpr k7
      exact fin _ (.inr (.inr (.inr (.inr (.inr (.inr (.inr e))))))) (by unfold cSt; rw [if_neg (ne (k := 0) k0), if_neg (ne (k := 1) k1), if_neg (ne (k := 2) k2), if_neg (ne (k := 3) k3), if_neg (ne (k := 4) k4), if_neg (ne (k := 5) k5), if_neg (ne (k := 6) k6)] <;> rfl) hx
    · refine ⟨_, _, .inl ⟨fun q => ?_, rfl, rfl⟩, hx⟩
      rcases q with q | q | q | q | q | q | q | q
      · exact ne (k := 0) k0 q
      · exact ne (k := 1) k1 q
      · exact ne (k := 2) k2 q
      · exact ne (k := 3) k3 q
      · exact ne (k := 4) k4 q
      · exact ne (k := 5) k5 q
      · exact ne (k := 6) k6 q
      · exact ne (k := 7) k7 q
  · cases hs
end CA
