/-! THE PROCESSOR, the reference's: small methods -/
abbrev yS (τ : zS) : Int32 := τ.1 25 4
abbrev qR (τ : zS) : Nat → Int32 := τ.2.2.1 27
abbrev qM (τ : zS) : Nat → Int32 := τ.2.2.1 26
abbrev qPlc (x : Int32) : Prop := ¬ x < 0 ∧ ¬ 199 < x
def yPsh (f : Int32) : Int32 := 6 * (if 4 < 5 - yR8 f then 4 else 5 - yR8 f)
def yPart (w f : Int32) : Int32 := 2 * ((zMag w >>> (yPsh f &&& 31)) &&& yMk f) + (if f < 8 ∧ w &&& 1 = 1 then 1 else 0)
abbrev sp169 (as : List Value) (σ : zS) : Option zCs := match as with
  | [.int w, .int f] => some (zR σ (yPart w f))
  | _ => none
abbrev sp71 (as : List Value) (σ : zS) : Option zCs := match as with
  | [.int u] => some (zR σ (zSlot u))
  | _ => none
abbrev yBz (τ : zS) (u : Int32) : Prop := τ.1 25 8 < τ.2.2.1 31 u.toNatClampNeg
abbrev sp72 (as : List Value) (σ : zS) : Option zCs := match as with
  | [.ref 183, .int u] => some (zBo σ (yBz σ u))
  | _ => none
/-- what is needed -/
def zNd (τ : zS) (p : Prop) [Decidable p] : zS := zI τ 25 4 (if ¬ yS τ = 0 ∨ ¬ p then 1 else 0)
abbrev sp113 (as : List Value) (σ : zS) : Option zCs := match as with
  | [.ref 183, .int b] => some (zN (zNd σ (¬ b = 0)))
  | _ => none
abbrev yRw (m n : Int32) : Prop := qPlc m ∧ qPlc (m + n - 1)
abbrev sp176 (as : List Value) (σ : zS) : Option zCs := match as with
  | [.ref 183, .int m, .int n] => some (fun o σ' => (yRw m n ∧ zR (zNd σ True) 1 o σ') ∨ (¬ yRw m n ∧ zR (zNd σ False) 0 o σ'))
  | _ => none
def yEnW (r w : Int32) : Int32 := if r = 0 ∨ r = 7 then w else 2 * (zMag w - zMag w / 4096 * 4096) + (if w &&& 1 = 1 then 1 else 0)
abbrev sp171 (as : List Value) (σ : zS) : Option zCs := match as with
  | [.ref 183, .int r, .int w] => some (zN (zA σ 27 (upd (qR σ) r.toNatClampNeg (yEnW r w))))
  | _ => none
abbrev sp181 (as : List Value) (σ : zS) : Option zCs := match as with
  | [.ref 183, .int c, .int v] => some (zBo σ (zHo c v))
  | _ => none
def yByt (w k : Int32) : Int32 := (zMag w >>> ((6 * (4 - k)) &&& 31)) &&& 63
abbrev sp174 (as : List Value) (σ : zS) : Option zCs := match as with
  | [.int w, .int k] => some (zR σ (yByt w k))
  | _ => none
def yJm (τ : zS) (m s : Int32) : zS := if ¬ yS τ = 0 ∨ ¬ qPlc m then zI τ 25 4 1 else zI (if s = 0 then zI τ 25 4 0 else zA (zI τ 25 4 0) 27 (upd (qR τ) 8 (2 * (τ.1 25 6 + 1) + 0))) 25 7 m
abbrev sp114 (as : List Value) (σ : zS) : Option zCs := match as with
  | [.ref 183, .int m, .int s] => some (zN (yJm σ m s))
  | _ => none
def xAy (r w a : Int32) : Int32 := (gAd (sAd w a) - gAd (sAd w a) / (lAd r).toInt64 * (lAd r).toInt64).toInt32
def wAy (r w a : Int32) : Int32 := 2 * xAy r w a + (if (if xAy r w a = 0 then w &&& 1 = 1 else (sAd w a).toInt < 0) then 1 else 0)
def qAdd (τ : zS) (r a : Int32) : zS := zA (if oAd r (qR τ r.toNatClampNeg) a then zI τ 25 3 1 else τ) 27 (upd (qR τ) r.toNatClampNeg (wAy r (qR τ r.toNatClampNeg) a))
abbrev sp177 (as : List Value) (σ : zS) : Option zCs := match as with
  | [.ref 183, .int r, .int a] => some (zN (qAdd σ r a))
  | _ => none
section RA
variable {c0 : mH} {v5 : Value}
theorem z169 (h0 : zC0 c0) : zSp c0 v5 169 sp169 := by
  intro d n as σ cs r hs hx
  unfold sp169 at hs
  split at hs
  · rename_i w f
    cases hs
    obtain ⟨d', hx⟩ := zGo hx
    replace hx := zTr (C := nC169) (tb := [(70, sp70), (214, sp214), (73, sp73), (146, sp146)]) h0 rfl rfl ⟨z70 h0, z214 h0, z73 h0, z146 h0, trivial⟩ (fun pc => pc.beq 26) 60 hx
    refine ⟨_, _, ⟨rfl, rfl⟩, ?_⟩
    obtain ⟨_, _, ⟨rfl, rfl⟩, _, hx⟩ := hx
    have go : ∀ (m' : Nat) (s : Int32), s = (if 4 < 5 - yR8 f then 4 else 5 - yR8 f) → zF v5 d' n 169 m' 26 [(0, .int w), (1, .int f)] [.int s, .int 6, .int (zMag w)] (zH c0 σ) = some r → r = zOut c0 (.inl (some (.int (yPart w f)))) σ := by
      intro m' s hs hx
      replace hx := zTr (C := nC169) (tb := [(70, sp70), (214, sp214), (73, sp73), (146, sp146)]) h0 rfl rfl ⟨z70 h0, z214 h0, z73 h0, z146 h0, trivial⟩ (fun _ => false) 60 hx
      obtain ⟨_, _, ⟨rfl, rfl⟩, hx⟩ := hx
      unfold yPart yPsh
      rw [← hs]
      rcases hx with ⟨h1, _, _, ⟨rfl, rfl⟩, hx⟩ | ⟨h1, _, _, (⟨p, rfl, rfl⟩ | ⟨p, rfl, rfl⟩), hx⟩
      · rw [if_neg (fun q => cGeT h1 q.1)]
        exact hx
      · rw [if_pos ⟨cGeF h1, p⟩]
        rcases hx with ⟨h2, hx⟩ | ⟨h2, _, _, ⟨rfl, rfl⟩, hx⟩
        · exact absurd (cEqT h2) (by decide)
        · exact hx
      · rw [if_neg (fun q => p q.2)]
        rcases hx with ⟨h2, _, _, ⟨rfl, rfl⟩, hx⟩ | ⟨h2, hx⟩
        · exact hx
        · exact absurd rfl (cEqF h2)
    rcases hx with ⟨h1, _, m', hm, hx⟩ | ⟨h1, m', hm, hx⟩
    · exact go m' _ (by rw [if_neg (show ¬ 4 < 5 - yR8 f from cLeT h1)]; rfl) hx
    · exact go m' 4 (by rw [if_pos (show 4 < 5 - yR8 f from cLeF h1)]) hx
  · cases hs
theorem z71 (h0 : zC0 c0) : zSp c0 v5 71 sp71 := by
  intro d n as σ cs r hs hx
  unfold sp71 at hs
  split at hs
  · rename_i u
    cases hs
    obtain ⟨d', hx⟩ := zGo hx
    replace hx := zTr (C := nC71) (tb := []) h0 rfl rfl trivial (fun _ => false) 60 hx
    refine ⟨_, _, ⟨rfl, rfl⟩, ?_⟩
    unfold zSlot
    rcases hx with ⟨h1, ⟨h2, ⟨h3, hx⟩ | ⟨h3, hx⟩⟩ | ⟨h2, hx⟩⟩ | ⟨h1, hx⟩
    · rw [if_neg (cNeT h1), if_neg (show ¬ u = 16 from cNeT h2), if_neg (show ¬ u = 18 from cNeT h3)]; exact hx
    · rw [if_neg (cNeT h1), if_neg (show ¬ u = 16 from cNeT h2), if_pos (show u = 18 from cNeF h3)]; exact hx
    · rw [if_neg (cNeT h1), if_pos (show u = 16 from cNeF h2)]; exact hx
    · rw [if_pos (cNeF h1)]; exact hx
  · cases hs
theorem z72 (h0 : zC0 c0) : zSp c0 v5 72 sp72 := by
  intro d n as σ cs r hs hx
  unfold sp72 at hs
  split at hs
  · rename_i u
    cases hs
    obtain ⟨d', hx⟩ := zGo hx
    replace hx := zTr (C := nC72) (tb := []) h0 rfl rfl trivial (fun _ => false) 60 hx
    rcases hx with ⟨_, ⟨h1, hx⟩ | ⟨h1, hx⟩⟩
    · exact ⟨_, _, .inr ⟨cGeT h1, rfl, rfl⟩, hx⟩
    · exact ⟨_, _, .inl ⟨cGeF h1, rfl, rfl⟩, hx⟩
  · cases hs
theorem z113 (h0 : zC0 c0) : zSp c0 v5 113 sp113 := by
  intro d n as σ cs r hs hx
  unfold sp113 at hs
  split at hs
  · rename_i b
    cases hs
    obtain ⟨d', hx⟩ := zGo hx
    replace hx := zTr (C := nC113) (tb := []) h0 rfl rfl trivial (fun _ => false) 60 hx
    refine ⟨_, _, ⟨rfl, rfl⟩, ?_⟩
    unfold zNd
    rcases hx with ⟨h1, _, hx⟩ | ⟨h1, ⟨h2, _, hx⟩ | ⟨h2, _, hx⟩⟩
    · rw [if_pos (.inl (cNeT h1))]; exact hx
    · rw [if_neg (fun q => q.elim (fun q => q (cNeF h1)) (fun q => q (cNeT h2)))]; exact hx
    · rw [if_pos (.inr (fun q => q (cNeF h2)))]; exact hx
  · cases hs
theorem z176 (h0 : zC0 c0) : zSp c0 v5 176 sp176 := by
  intro d n as σ cs r hs hx
  unfold sp176 at hs
  split at hs
  · rename_i m k
    cases hs
    obtain ⟨d', hx⟩ := zGo hx
    have fin : ∀ (m' : Nat) (g : Int32), (yRw m k ∧ g = 1 ∨ ¬ yRw m k ∧ g = 0) → zF v5 d' n 176 m' 26 [(3, .int g), (0, .ref 183), (1, .int m), (2, .int k)] [] (zH c0 σ) = some r → ∃ o σ', ((yRw m k ∧ zR (zNd σ True) 1 o σ') ∨ (¬ yRw m k ∧ zR (zNd σ False) 0 o σ')) ∧ r = zOut c0 o σ' := by
      intro m' g hg hx
      replace hx := zTr (C := nC176) (tb := []) h0 rfl rfl trivial (fun _ => false) 60 hx
      rcases hg with ⟨e, rfl⟩ | ⟨e, rfl⟩
      · refine ⟨_, _, .inl ⟨e, rfl, rfl⟩, ?_⟩
        unfold zNd
        rcases hx with ⟨h1, _, hx⟩ | ⟨h1, ⟨h2, _, hx⟩ | ⟨h2, _, hx⟩⟩
        · rw [if_pos (.inl (cNeT h1))]; exact hx
        · rw [if_neg (fun q => q.elim (fun q => q (cNeF h1)) (fun q => q trivial))]; exact hx
        · exact absurd (cNeF h2) (by decide)
      · refine ⟨_, _, .inr ⟨e, rfl, rfl⟩, ?_⟩
        unfold zNd
        rcases hx with ⟨h1, _, hx⟩ | ⟨h1, ⟨h2, _, hx⟩ | ⟨h2, _, hx⟩⟩
        · rw [if_pos (.inl (cNeT h1))]; exact hx
        · exact absurd rfl (cNeT h2)
        · rw [if_pos (.inr (fun q => q))]; exact hx
    replace hx := zTr (C := nC176) (tb := [(46, sp46)]) h0 rfl rfl ⟨z46 h0, trivial⟩ (fun pc => pc.beq 26) 60 hx
    obtain ⟨_, _, (⟨p, rfl, rfl⟩ | ⟨p, rfl, rfl⟩), hx⟩ := hx
    · rcases hx with ⟨h1, m', hm, hx⟩ | ⟨h1, _, _, (⟨q, rfl, rfl⟩ | ⟨q, rfl, rfl⟩), hx⟩
      · exact absurd (cEqT h1) (by decide)
      · rcases hx with ⟨h2, m', hm, hx⟩ | ⟨h2, m', hm, hx⟩
        · exact absurd (cEqT h2) (by decide)
        · exact fin m' 1 (.inl ⟨⟨p, q⟩, rfl⟩) hx
      · rcases hx with ⟨h2, m', hm, hx⟩ | ⟨h2, m', hm, hx⟩
        · exact fin m' 0 (.inr ⟨fun w => q w.2, rfl⟩) hx
        · exact absurd rfl (cEqF h2)
    · rcases hx with ⟨h1, m', hm, hx⟩ | ⟨h1, _⟩
      · exact fin m' 0 (.inr ⟨fun w => p w.1, rfl⟩) hx
      · exact absurd rfl (cEqF h1)
  · cases hs
theorem z171 (h0 : zC0 c0) : zSp c0 v5 171 sp171 := by
  intro d n as σ cs r hs hx
  unfold sp171 at hs
  split at hs
  · rename_i i w
    cases hs
    obtain ⟨d', hx⟩ := zGo hx
    replace hx := zTr (C := nC171) (tb := [(70, sp70), (73, sp73), (146, sp146)]) h0 rfl rfl ⟨z70 h0, z73 h0, z146 h0, trivial⟩ (fun _ => false) 60 hx
    refine ⟨_, _, ⟨rfl, rfl⟩, ?_⟩
    unfold yEnW
    rcases hx with ⟨h1, _, hx⟩ | ⟨h1, ⟨h2, _, _, ⟨rfl, rfl⟩, _, _, _, (⟨p, rfl, rfl⟩ | ⟨p, rfl, rfl⟩), _, _, ⟨rfl, rfl⟩, _, hx⟩ | ⟨h2, _, hx⟩⟩
    · rw [if_pos (.inl (cEqT h1))]; exact hx
    · rw [if_neg (fun q => q.elim (cEqF h1) (cNeT h2)), if_pos p]; exact hx
    · rw [if_neg (fun q => q.elim (cEqF h1) (cNeT h2)), if_neg p]; exact hx
    · rw [if_pos (.inr (cNeF h2))]; exact hx
  · cases hs
theorem z174 (h0 : zC0 c0) : zSp c0 v5 174 sp174 := by
  intro d n as σ cs r hs hx
  unfold sp174 at hs
  split at hs
  · cases hs
    obtain ⟨d', hx⟩ := zGo hx
    obtain ⟨_, _, ⟨rfl, rfl⟩, hx⟩ := zTr (C := nC174) (tb := [(70, sp70)]) h0 rfl rfl ⟨z70 h0, trivial⟩ (fun _ => false) 60 hx
    exact ⟨_, _, ⟨rfl, rfl⟩, hx⟩
  · cases hs
end RA
