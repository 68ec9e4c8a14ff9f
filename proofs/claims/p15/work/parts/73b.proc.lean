/-! THE PROCESSOR, the class's: sums, products, jumps -/
abbrev isAX (r : Int32) : Prop := r = 0 ∨ r = 7
def sAd (w a : Int32) : Int64 := (zVal w).toInt64 + a.toInt64
def gAd (s : Int64) : Int64 := if s.toInt < 0 then -s else s
def lAd (r : Int32) : Int32 := if isAX r then 1073741824 else 4096
def xAd (r w a : Int32) : Int32 := (gAd (sAd w a) &&& (lAd r - 1).toInt64).toInt32
def wAd (r w a : Int32) : Int32 := xAd r w a * 2 + (if xAd r w a = 0 then w &&& 1 else if (sAd w a).toInt < 0 then 1 else 0)
abbrev oAd (r w a : Int32) : Prop := isAX r ∧ ¬ (gAd (sAd w a)).toInt < (lAd r).toInt
abbrev rAd (R : Nat → Int32) (r a : Int32) : Nat → Int32 := upd R r.toNatClampNeg (wAd r (R r.toNatClampNeg) a)
def cAdd (σ : zS) (r a : Int32) : zS := zA (if oAd r (pR σ r.toNatClampNeg) a then zI σ 7 3 1 else σ) 8 (rAd (pR σ) r a)
abbrev sp198 (as : List Value) (σ : zS) : Option zCs := match as with
  | [.ref 165, .int r, .int a] => some (zN (cAdd σ r a))
  | _ => none
def rMu (R : Nat → Int32) (v : Int32) : Nat → Int32 := upd (upd R 0 ((((zMag (R 0)).toInt64 * (zMag v).toInt64) >>> ((Int8.ofInt 30).toInt32.toInt64 &&& 63)).toInt32 * 2 + ((R 0 ^^^ v) &&& 1))) 7 ((((zMag (R 0)).toInt64 * (zMag v).toInt64) &&& 1073741823).toInt32 * 2 + ((R 0 ^^^ v) &&& 1))
abbrev sp199 (as : List Value) (σ : zS) : Option zCs := match as with
  | [.ref 165, .int v] => some (zN (zA σ 8 (rMu (pR σ) v)))
  | _ => none
def rDv (R : Nat → Int32) (v : Int32) : Nat → Int32 := upd (upd R 0 ((zTen R / (zMag v).toInt64).toInt32 * 2 + ((R 0 ^^^ v) &&& 1))) 7 ((zTen R - zTen R / (zMag v).toInt64 * (zMag v).toInt64).toInt32 * 2 + (R 0 &&& 1))
abbrev dvB (R : Nat → Int32) (v : Int32) : Prop := zMag v = 0 ∨ ¬ zMag (R 0) < zMag v
abbrev sp200 (as : List Value) (σ : zS) : Option zCs := match as with
  | [.ref 165, .int v] => some (fun o σ' => (dvB (pR σ) v ∧ zN (zI σ 7 3 1) o σ') ∨ (¬ dvB (pR σ) v ∧ zN (zA σ 8 (rDv (pR σ) v)) o σ'))
  | _ => none
def zJk (σ : zS) : zS := zI σ 7 9 (pA σ)
def zJm (σ : zS) : zS := zA (zI σ 7 9 (pA σ)) 8 (upd (pR σ) 8 (zOfL (σ.1 7 9).toInt64))
abbrev sp210 (as : List Value) (σ : zS) : Option zCs := match as with
  | [.ref 165] => some (fun o σ' => (zPlc (pA σ) ∧ zR (zJk σ) 1 o σ') ∨ (¬ zPlc (pA σ) ∧ zR σ 0 o σ'))
  | _ => none
/-- jump where the question's answer is t -/
abbrev jIf (σ : zS) (t : Prop) : zCs := fun o σ' => (¬ t ∧ zR σ 1 o σ') ∨ (t ∧ zPlc (pA σ) ∧ zR (zJm σ) 1 o σ') ∨ (t ∧ ¬ zPlc (pA σ) ∧ zR σ 0 o σ')
abbrev sp209 (as : List Value) (σ : zS) : Option zCs := match as with
  | [.ref 165, .int t] => some (jIf σ (¬ t = 0))
  | _ => none
abbrev sp211 (as : List Value) (σ : zS) : Option zCs := match as with
  | [.ref 165, .int t] => some (fun o σ' => (¬ σ.1 7 3 = t ∧ zR (zI σ 7 3 0) 1 o σ') ∨ (σ.1 7 3 = t ∧ zPlc (pA σ) ∧ zR (zI (zJm σ) 7 3 0) 1 o σ') ∨ (σ.1 7 3 = t ∧ ¬ zPlc (pA σ) ∧ zR σ 0 o σ'))
  | _ => none
section PB
variable {c0 : mH} {v5 : Value}
theorem z198 (h0 : zC0 c0) : zSp c0 v5 198 sp198 := by
  intro d n as σ cs r hs hx
  unfold sp198 at hs
  split at hs
  · rename_i i a
    cases hs
    obtain ⟨d', hx⟩ := zGo hx
    refine ⟨_, _, ⟨rfl, rfl⟩, ?_⟩
    have three : ∀ (m : Nat) (τ : zS) (x lm ix : Int32) (mg : Int64), τ.2.2.1 8 = σ.2.2.1 8 → x = xAd i (pR σ i.toNatClampNeg) a → zF v5 d' n 198 m 90 [(9, .int x), (8, .int lm), (7, .int ix), (5, .long mg), (3, .long (sAd (pR σ i.toNatClampNeg) a)), (0, .ref 165), (1, .int i), (2, .int a)] [] (zH c0 τ) = some r → r = zOut c0 (.inl none) (zA τ 8 (rAd (pR σ) i a)) := by
      intro m τ x lm ix mg hτ hxx hx
      replace hx := zTr (C := nC198) (tb := [(191, sp191), (130, sp130)]) h0 rfl rfl ⟨z191 h0, z130 h0, trivial⟩ (fun _ => false) 60 hx
      unfold rAd wAd
      rw [← hxx]
      rcases hx with ⟨h1, hx⟩ | ⟨h1, hx⟩
      · rw [if_neg (cNeT h1)]
        rcases hx with ⟨h2, _, _, ⟨rfl, rfl⟩, _, hx⟩ | ⟨h2, _, _, ⟨rfl, rfl⟩, _, hx⟩
        · rw [if_neg (show ¬ (sAd (pR σ i.toNatClampNeg) a).toInt < 0 from lGeT h2)]
          rw [hτ] at hx
          exact hx
        · rw [if_pos (show (sAd (pR σ i.toNatClampNeg) a).toInt < 0 from lGeF h2)]
          rw [hτ] at hx
          exact hx
      · rw [if_pos (cNeF h1)]
        obtain ⟨_, _, _, ⟨rfl, rfl⟩, _, _, ⟨rfl, rfl⟩, _, hx⟩ := hx
        rw [hτ] at hx
        exact hx
    have two : ∀ (m : Nat) (ix lm : Int32) (mg : Int64), (ix = 0 ∧ isAX i ∨ ix = 1 ∧ ¬ isAX i) → lm = lAd i → mg = gAd (sAd (pR σ i.toNatClampNeg) a) → zF v5 d' n 198 m 60 [(8, .int lm), (7, .int ix), (5, .long mg), (3, .long (sAd (pR σ i.toNatClampNeg) a)), (0, .ref 165), (1, .int i), (2, .int a)] [] (zH c0 σ) = some r → r = zOut c0 (.inl none) (cAdd σ i a) := by
      intro m ix lm mg hix hlm hmg hx
      replace hx := zTr (C := nC198) (tb := []) h0 rfl rfl trivial (fun pc => pc.beq 90) 60 hx
      unfold cAdd
      rcases hx with ⟨h1, m', hm, hx⟩ | ⟨h1, ⟨h2, m', hm, hx⟩ | ⟨h2, hf, m', hm, hx⟩⟩
      · have h1 := lLtT h1
        rw [Int32.toInt_toInt64, hlm, hmg] at h1
        rw [if_neg (fun q => q.2 h1)]
        exact three m' σ _ _ _ _ rfl (by rw [hlm, hmg]; rfl) hx
      · rw [if_neg (fun q => by
          rcases hix with ⟨e, _⟩ | ⟨_, e⟩
          · exact cNeT h2 e
          · exact e q.1)]
        exact three m' σ _ _ _ _ rfl (by rw [hlm, hmg]; rfl) hx
      · have h1 := lLtF h1
        rw [Int32.toInt_toInt64, hlm, hmg] at h1
        have hA : isAX i := by
          rcases hix with ⟨_, e⟩ | ⟨e, _⟩
          · exact e
          · rw [e] at h2
            exact absurd (cNeF h2) (by decide)
        rw [if_pos ⟨hA, h1⟩]
        exact three m' (zI σ 7 3 1) _ _ _ _ rfl (by rw [hlm, hmg]; rfl) hx
    have one : ∀ (m : Nat) (mg : Int64), mg = gAd (sAd (pR σ i.toNatClampNeg) a) → zF v5 d' n 198 m 28 [(5, .long mg), (3, .long (sAd (pR σ i.toNatClampNeg) a)), (0, .ref 165), (1, .int i), (2, .int a)] [] (zH c0 σ) = some r → r = zOut c0 (.inl none) (cAdd σ i a) := by
      intro m mg hmg hx
      replace hx := zTr (C := nC198) (tb := []) h0 rfl rfl trivial (fun pc => pc.beq 60) 60 hx
      rcases hx with ⟨h2, ⟨h3, m', hm, hx⟩ | ⟨h3, _⟩⟩ | ⟨h2, ⟨h4, ⟨h3, m', hm, hx⟩ | ⟨h3, _⟩⟩ | ⟨h4, ⟨h3, _⟩ | ⟨h3, m', hm, hx⟩⟩⟩
      · have hA : isAX i := .inl (cEqT h2)
        exact two m' 0 1073741824 mg (.inl ⟨rfl, hA⟩) (by unfold lAd; rw [if_pos hA]) hmg hx
      · exact absurd rfl (cEqF h3)
      · have hA : isAX i := .inr (cEqT h4)
        exact two m' 0 1073741824 mg (.inl ⟨rfl, hA⟩) (by unfold lAd; rw [if_pos hA]) hmg hx
      · exact absurd rfl (cEqF h3)
      · exact absurd (cEqT h3) (by decide)
      · have hA : ¬ isAX i := fun q => q.elim (cEqF h2) (cEqF h4)
        exact two m' 1 4096 mg (.inr ⟨rfl, hA⟩) (by unfold lAd; rw [if_neg hA]) hmg hx
    obtain ⟨p1, _, _, ⟨rfl, rfl⟩, hx⟩ := zTr (C := nC198) (tb := [(136, sp136)]) h0 rfl rfl ⟨z136 h0, trivial⟩ (fun pc => pc.beq 28) 60 hx
    rcases hx with ⟨h1, m', hm, hx⟩ | ⟨h1, m', hm, hx⟩
    · exact one m' _ (by unfold gAd; rw [if_neg (show ¬ (sAd (pR σ i.toNatClampNeg) a).toInt < 0 from lGeT h1)]; rfl) hx
    · exact one m' _ (by unfold gAd; rw [if_pos (show (sAd (pR σ i.toNatClampNeg) a).toInt < 0 from lGeF h1)]; rfl) hx
  · cases hs
theorem z199 (h0 : zC0 c0) : zSp c0 v5 199 sp199 := by
  intro d n as σ cs r hs hx
  unfold sp199 at hs
  split at hs
  · rename_i v
    cases hs
    obtain ⟨d', hx⟩ := zGo hx
    replace hx := zTr (C := nC199) (tb := [(138, sp138), (191, sp191), (130, sp130)]) h0 rfl rfl ⟨z138 h0, z191 h0, z130 h0, trivial⟩ (fun _ => false) 80 hx
    obtain ⟨_, _, _, ⟨rfl, rfl⟩, _, _, _, ⟨rfl, rfl⟩, _, _, ⟨rfl, rfl⟩, _, _, ⟨rfl, rfl⟩, _, _, _, ⟨rfl, rfl⟩, _, hx⟩ := hx
    rw [zA_zA] at hx
    exact ⟨_, _, ⟨rfl, rfl⟩, hx⟩
  · cases hs
theorem z200 (h0 : zC0 c0) : zSp c0 v5 200 sp200 := by
  intro d n as σ cs r hs hx
  unfold sp200 at hs
  split at hs
  · rename_i v
    cases hs
    obtain ⟨d', hx⟩ := zGo hx
    replace hx := zTr (C := nC200) (tb := [(138, sp138)]) h0 rfl rfl ⟨z138 h0, trivial⟩ (fun pc => pc.beq 24 || pc.beq 30) 80 hx
    obtain ⟨_, _, _, ⟨rfl, rfl⟩, hx⟩ := hx
    have bad : dvB (pR σ) v → ∀ m', zF v5 d' n 200 m' 24 [(3, .int (zMag v)), (2, .int (pR σ 0)), (0, .ref 165), (1, .int v)] [] (zH c0 σ) = some r → ∃ o σ', ((dvB (pR σ) v ∧ zN (zI σ 7 3 1) o σ') ∨ (¬ dvB (pR σ) v ∧ zN (zA σ 8 (rDv (pR σ) v)) o σ')) ∧ r = zOut c0 o σ' := by
      intro hb m' hx
      obtain ⟨_, hx⟩ := zTr (C := nC200) (tb := []) h0 rfl rfl trivial (fun _ => false) 60 hx
      exact ⟨_, _, .inl ⟨hb, rfl, rfl⟩, hx⟩
    rcases hx with ⟨h1, m', hm, hx⟩ | ⟨h1, _, _, ⟨rfl, rfl⟩, ⟨h2, m', hm, hx⟩ | ⟨h2, m', hm, hx⟩⟩
    · exact bad (.inl (cEqT h1)) m' hx
    · have hg : ¬ dvB (pR σ) v := fun q => q.elim (cEqF h1) (fun q => q (cGtT h2))
      replace hx := zTr (C := nC200) (tb := [(138, sp138), (191, sp191), (130, sp130), (203, sp203)]) h0 rfl rfl ⟨z138 h0, z191 h0, z130 h0, z203 h0, trivial⟩ (fun _ => false) 80 hx
      obtain ⟨_, _, ⟨rfl, rfl⟩, _, _, _, ⟨rfl, rfl⟩, _, _, ⟨rfl, rfl⟩, _, _, _, _, ⟨rfl, rfl⟩, _, _, ⟨rfl, rfl⟩, _, hx⟩ := hx
      rw [zA_zA] at hx
      exact ⟨_, _, .inr ⟨hg, rfl, rfl⟩, hx⟩
    · exact bad (.inr (cGtF h2)) m' hx
  · cases hs
theorem z210 (h0 : zC0 c0) : zSp c0 v5 210 sp210 := by
  intro d n as σ cs r hs hx
  unfold sp210 at hs
  split at hs
  · cases hs
    obtain ⟨d', hx⟩ := zGo hx
    replace hx := zTr (C := nC210) (tb := [(76, sp76)]) h0 rfl rfl ⟨z76 h0, trivial⟩ (fun _ => false) 60 hx
    obtain ⟨_, _, (⟨p1, rfl, rfl⟩ | ⟨p1, rfl, rfl⟩), hx⟩ := hx
    · rcases hx with ⟨h1, hx⟩ | ⟨h1, hx⟩
      · exact ⟨_, _, .inl ⟨p1, rfl, rfl⟩, hx⟩
      · exact absurd (cNeF h1) (by decide)
    · rcases hx with ⟨h1, hx⟩ | ⟨h1, hx⟩
      · exact absurd rfl (cNeT h1)
      · exact ⟨_, _, .inr ⟨p1, rfl, rfl⟩, hx⟩
  · cases hs
theorem z209 (h0 : zC0 c0) : zSp c0 v5 209 sp209 := by
  intro d n as σ cs r hs hx
  unfold sp209 at hs
  split at hs
  · rename_i t
    cases hs
    obtain ⟨d', hx⟩ := zGo hx
    replace hx := zTr (C := nC209) (tb := [(210, sp210), (86, sp86)]) h0 rfl rfl ⟨z210 h0, z86 h0, trivial⟩ (fun _ => false) 60 hx
    rcases hx with ⟨h1, hx⟩ | ⟨h1, hx⟩
    · obtain ⟨_, _, (⟨p1, rfl, rfl⟩ | ⟨p1, rfl, rfl⟩), hx⟩ := hx
      · rcases hx with ⟨h2, _, _, ⟨rfl, rfl⟩, _, hx⟩ | ⟨h2, hx⟩
        · exact ⟨_, _, .inr (.inl ⟨cNeT h1, p1, rfl, rfl⟩), hx⟩
        · exact absurd (cNeF h2) (by decide)
      · rcases hx with ⟨h2, hx⟩ | ⟨h2, hx⟩
        · exact absurd rfl (cNeT h2)
        · exact ⟨_, _, .inr (.inr ⟨cNeT h1, p1, rfl, rfl⟩), hx⟩
    · exact ⟨_, _, .inl ⟨fun h => h (cNeF h1), rfl, rfl⟩, hx⟩
  · cases hs
theorem z211 (h0 : zC0 c0) : zSp c0 v5 211 sp211 := by
  intro d n as σ cs r hs hx
  unfold sp211 at hs
  split at hs
  · rename_i t
    cases hs
    obtain ⟨d', hx⟩ := zGo hx
    replace hx := zTr (C := nC211) (tb := [(209, sp209)]) h0 rfl rfl ⟨z209 h0, trivial⟩ (fun _ => false) 60 hx
    rcases hx with ⟨h1, hx⟩ | ⟨h1, hx⟩
    · obtain ⟨_, _, (⟨p1, rfl, rfl⟩ | ⟨p1, p2, rfl, rfl⟩ | ⟨p1, p2, rfl, rfl⟩), hx⟩ := hx
      · rcases hx with ⟨h2, _, hx⟩ | ⟨h2, hx⟩
        · exact ⟨_, _, .inl ⟨cNeT h1, rfl, rfl⟩, hx⟩
        · exact absurd (cNeF h2) (by decide)
      · exact absurd rfl p1
      · exact absurd rfl p1
    · obtain ⟨_, _, (⟨p1, rfl, rfl⟩ | ⟨p1, p2, rfl, rfl⟩ | ⟨p1, p2, rfl, rfl⟩), hx⟩ := hx
      · exact absurd (by decide) p1
      · rcases hx with ⟨h2, _, hx⟩ | ⟨h2, hx⟩
        · exact ⟨_, _, .inr (.inl ⟨cNeF h1, p2, rfl, rfl⟩), hx⟩
        · exact absurd (cNeF h2) (by decide)
      · rcases hx with ⟨h2, hx⟩ | ⟨h2, hx⟩
        · exact absurd rfl (cNeT h2)
        · exact ⟨_, _, .inr (.inr ⟨cNeF h1, p2, rfl, rfl⟩), hx⟩
  · cases hs
end PB
