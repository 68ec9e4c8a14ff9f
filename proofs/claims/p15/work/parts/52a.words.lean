/-! WORDS -/
def zMag (w : Int32) : Int32 := (w.toUInt32 >>> ((Int32.ofInt 1).toUInt32 &&& Int32.toUInt32 31)).toInt32
def zVal (w : Int32) : Int32 := if w &&& 1 = 1 then -(zMag w) else zMag w
def zLb (f : Int32) : Int32 := ((1 : Int32) <<< (((6 : Int32) * ((f &&& (7 : Int32)) - (if f < 8 then (1 : Int32) else f >>> ((3 : Int32) &&& 31)) + 1)) &&& (31 : Int32))) - 1
def zSh (f : Int32) : Int32 := 6 * (5 - (f &&& 7))
def zSto (w f fr : Int32) : Int32 := ((zMag w &&& ((zLb f <<< (zSh f &&& 31)) ^^^ (-1))) ||| ((zMag fr &&& zLb f) <<< (zSh f &&& 31))) * 2 + ((if f < 8 then fr else w) &&& 1)
def zOfL (v : Int64) : Int32 := if v.toInt < 0 then (-v).toInt32 * 2 + 1 else v.toInt32 * 2
abbrev zFld (f : Int64) : Prop := 0 ≤ f.toInt ∧ (f >>> (((3 : Int32).toInt64) &&& 63)).toInt ≤ (f &&& 7).toInt ∧ (f &&& 7).toInt ≤ 5
abbrev zPlc (x : Int32) : Prop := ¬ x < 0 ∧ x < 200
/-- what is told by an operator -/
def zCmv (a : Int64) (c : Int32) (b : Int64) : Int64 := if c = 43 then a + b else if c = 45 then a - b else if c = 42 then a * b else if c = 47 then a / b else 8 * a + b
def zCmb (a : Int64) (c : Int32) (b : Int64) : Option Int64 := if c = 47 ∧ b = 0 then none else if -1073741824 < (zCmv a c b).toInt ∧ (zCmv a c b).toInt < 1073741824 then some (zCmv a c b) else none
abbrev sp138 (as : List Value) (σ : zS) : Option zCs := match as with
  | [.int w] => some (zR σ (zMag w))
  | _ => none
abbrev sp136 (as : List Value) (σ : zS) : Option zCs := match as with
  | [.int w] => some (zR σ (zVal w))
  | _ => none
abbrev sp130 (as : List Value) (σ : zS) : Option zCs := match as with
  | [.int w, .int s] => some (zR σ (w * 2 + s))
  | _ => none
abbrev sp191 (as : List Value) (σ : zS) : Option zCs := match as with
  | [.int w] => some (zR σ (w &&& 1))
  | _ => none
abbrev sp190 (as : List Value) (σ : zS) : Option zCs := match as with
  | [.int f] => some (zR σ (zLb f))
  | _ => none
abbrev sp131 (as : List Value) (σ : zS) : Option zCs := match as with
  | [.int w, .int f, .int fr] => some (zR σ (zSto w f fr))
  | _ => none
abbrev sp86 (as : List Value) (σ : zS) : Option zCs := match as with
  | [.long v] => some (zR σ (zOfL v))
  | _ => none
abbrev sp192 (as : List Value) (σ : zS) : Option zCs := match as with
  | [.long f] => some (fun o σ' => (zFld f ∧ zR σ 1 o σ') ∨ (¬ zFld f ∧ zR σ 0 o σ'))
  | _ => none
abbrev sp76 (as : List Value) (σ : zS) : Option zCs := match as with
  | [.int x] => some (fun o σ' => (zPlc x ∧ zR σ 1 o σ') ∨ (¬ zPlc x ∧ zR σ 0 o σ'))
  | _ => none
abbrev zW (σ : zS) : zCs := fun o σ' => o = .inr 0 ∧ zX σ 0 = σ'
abbrev zRl (σ : zS) (x : Int64) : zCs := fun o σ' => o = .inl (some (.long x)) ∧ σ = σ'
abbrev sp223 (as : List Value) (σ : zS) : Option zCs := match as with
  | [.long a, .int c, .long b] => some (fun o σ' => (zCmb a c b = none ∧ zW σ o σ') ∨ (∃ v, zCmb a c b = some v ∧ zRl σ v o σ'))
  | _ => none
section WD
variable {c0 : mH} {v5 : Value}
theorem z138 (h0 : zC0 c0) : zSp c0 v5 138 sp138 := by
  intro d n as σ cs r hs hx
  unfold sp138 at hs
  split at hs
  · cases hs
    obtain ⟨d', hx⟩ := zGo hx
    exact ⟨_, _, ⟨rfl, rfl⟩, zTr (C := nC138) (tb := []) h0 rfl rfl trivial (fun _ => false) 40 hx⟩
  · cases hs
theorem z130 (h0 : zC0 c0) : zSp c0 v5 130 sp130 := by
  intro d n as σ cs r hs hx
  unfold sp130 at hs
  split at hs
  · cases hs
    obtain ⟨d', hx⟩ := zGo hx
    exact ⟨_, _, ⟨rfl, rfl⟩, zTr (C := nC130) (tb := []) h0 rfl rfl trivial (fun _ => false) 40 hx⟩
  · cases hs
theorem z191 (h0 : zC0 c0) : zSp c0 v5 191 sp191 := by
  intro d n as σ cs r hs hx
  unfold sp191 at hs
  split at hs
  · cases hs
    obtain ⟨d', hx⟩ := zGo hx
    exact ⟨_, _, ⟨rfl, rfl⟩, zTr (C := nC191) (tb := []) h0 rfl rfl trivial (fun _ => false) 40 hx⟩
  · cases hs
theorem z136 (h0 : zC0 c0) : zSp c0 v5 136 sp136 := by
  intro d n as σ cs r hs hx
  unfold sp136 at hs
  split at hs
  · rename_i w
    cases hs
    obtain ⟨d', hx⟩ := zGo hx
    have hx := zTr (C := nC136) (tb := []) h0 rfl rfl trivial (fun _ => false) 40 hx
    refine ⟨_, _, ⟨rfl, rfl⟩, ?_⟩
    unfold zVal
    rcases hx with ⟨h1, hx⟩ | ⟨h1, hx⟩
    · rw [if_neg (show ¬ w &&& 1 = 1 from cNeT h1)]; exact hx
    · rw [if_pos (show w &&& 1 = 1 from cNeF h1)]; exact hx
  · cases hs
theorem z190 (h0 : zC0 c0) : zSp c0 v5 190 sp190 := by
  intro d n as σ cs r hs hx
  unfold sp190 at hs
  split at hs
  · rename_i f
    cases hs
    obtain ⟨d', hx⟩ := zGo hx
    have hx := zTr (C := nC190) (tb := []) h0 rfl rfl trivial (fun _ => false) 40 hx
    refine ⟨_, _, ⟨rfl, rfl⟩, ?_⟩
    unfold zLb
    rcases hx with ⟨h1, hx⟩ | ⟨h1, hx⟩
    · rw [if_neg (show ¬ f < 8 from cGeT h1)]; exact hx
    · rw [if_pos (show f < 8 from cGeF h1)]; exact hx
  · cases hs
theorem z131 (h0 : zC0 c0) : zSp c0 v5 131 sp131 := by
  intro d n as σ cs r hs hx
  unfold sp131 at hs
  split at hs
  · rename_i w f fr
    cases hs
    obtain ⟨d', hx⟩ := zGo hx
    have hx := zTr (C := nC131) (tb := [(190, sp190), (138, sp138), (191, sp191), (130, sp130)]) h0 rfl rfl ⟨z190 h0, z138 h0, z191 h0, z130 h0, trivial⟩ (fun _ => false) 60 hx
    refine ⟨_, _, ⟨rfl, rfl⟩, ?_⟩
    obtain ⟨_, _, ⟨rfl, rfl⟩, _, _, ⟨rfl, rfl⟩, _, _, ⟨rfl, rfl⟩, hx⟩ := hx
    unfold zSto
    rcases hx with ⟨h1, _, _, ⟨rfl, rfl⟩, _, _, ⟨rfl, rfl⟩, hx⟩ | ⟨h1, _, _, ⟨rfl, rfl⟩, _, _, ⟨rfl, rfl⟩, hx⟩
    · rw [if_neg (show ¬ f < 8 from cGeT h1)]; exact hx
    · rw [if_pos (show f < 8 from cGeF h1)]; exact hx
  · cases hs
theorem z86 (h0 : zC0 c0) : zSp c0 v5 86 sp86 := by
  intro d n as σ cs r hs hx
  unfold sp86 at hs
  split at hs
  · rename_i v
    cases hs
    obtain ⟨d', hx⟩ := zGo hx
    have hx := zTr (C := nC86) (tb := []) h0 rfl rfl trivial (fun _ => false) 40 hx
    refine ⟨_, _, ⟨rfl, rfl⟩, ?_⟩
    unfold zOfL
    rcases hx with ⟨h1, hx⟩ | ⟨h1, hx⟩
    · rw [if_neg (show ¬ v.toInt < 0 from lGeT h1)]; exact hx
    · rw [if_pos (show v.toInt < 0 from lGeF h1)]; exact hx
  · cases hs
theorem z192 (h0 : zC0 c0) : zSp c0 v5 192 sp192 := by
  intro d n as σ cs r hs hx
  unfold sp192 at hs
  split at hs
  · rename_i f
    cases hs
    obtain ⟨d', hx⟩ := zGo hx
    have hx := zTr (C := nC192) (tb := []) h0 rfl rfl trivial (fun _ => false) 40 hx
    rcases hx with ⟨h1, hx⟩ | ⟨h1, ⟨h2, hx⟩ | ⟨h2, ⟨h3, hx⟩ | ⟨h3, hx⟩⟩⟩
    · exact ⟨_, _, Or.inr ⟨fun h => absurd (lLtT h1) (Int.not_lt.mpr h.1), rfl, rfl⟩, hx⟩
    · exact ⟨_, _, Or.inr ⟨fun h => lGtT h2 h.2.1, rfl, rfl⟩, hx⟩
    · exact ⟨_, _, Or.inr ⟨fun h => lGtT h3 h.2.2, rfl, rfl⟩, hx⟩
    · exact ⟨_, _, Or.inl ⟨⟨Int.not_lt.mp (lLtF h1), lGtF h2, lGtF h3⟩, rfl, rfl⟩, hx⟩
  · cases hs
theorem z76 (h0 : zC0 c0) : zSp c0 v5 76 sp76 := by
  intro d n as σ cs r hs hx
  unfold sp76 at hs
  split at hs
  · rename_i f
    cases hs
    obtain ⟨d', hx⟩ := zGo hx
    have hx := zTr (C := nC76) (tb := []) h0 rfl rfl trivial (fun _ => false) 40 hx
    rcases hx with ⟨h1, hx⟩ | ⟨h1, ⟨h2, hx⟩ | ⟨h2, hx⟩⟩
    · exact ⟨_, _, Or.inr ⟨fun h => h.1 (cLtT h1), rfl, rfl⟩, hx⟩
    · exact ⟨_, _, Or.inr ⟨fun h => cGeT h2 h.2, rfl, rfl⟩, hx⟩
    · exact ⟨_, _, Or.inl ⟨⟨cLtF h1, cGeF h2⟩, rfl, rfl⟩, hx⟩
  · cases hs
theorem z223 (h0 : zC0 c0) : zSp c0 v5 223 sp223 := by
  intro d n as σ cs r hs hx
  unfold sp223 at hs
  split at hs
  · rename_i a c b
    cases hs
    obtain ⟨d', hx⟩ := zGo hx
    have hx := zTr (C := nC223) (tb := []) h0 rfl rfl trivial (fun pc => pc.beq 23 || pc.beq 105) 40 hx
    have fin : ∀ (m' : Nat) (v : Int64), ¬ (c = 47 ∧ b = 0) → v = zCmv a c b → zF v5 d' n 223 m' 105 [(5, .long v), (0, .long a), (2, .int c), (3, .long b)] [] (zH c0 σ) = some r → ∃ o σ', ((zCmb a c b = none ∧ zW σ o σ') ∨ (∃ v, zCmb a c b = some v ∧ zRl σ v o σ')) ∧ r = zOut c0 o σ' := by
      intro m' v h1 hv hx
      have hx := zTr (C := nC223) (tb := []) h0 rfl rfl trivial (fun _ => false) 40 hx
      subst hv
      unfold zCmb
      rw [if_neg h1]
      rcases hx with ⟨h2, hx⟩ | ⟨h2, ⟨h3, hx⟩ | ⟨h3, hx⟩⟩
      · exact ⟨_, _, Or.inl ⟨if_neg (fun h => absurd (lLeT h2) (Int.not_le.mpr h.1)), rfl, rfl⟩, hx⟩
      · exact ⟨_, _, Or.inr ⟨_, if_pos ⟨Int.not_le.mp (lLeF h2), lLtT h3⟩, rfl, rfl⟩, hx⟩
      · exact ⟨_, _, Or.inl ⟨if_neg (fun h => lLtF h3 h.2), rfl, rfl⟩, hx⟩
    have mid : ∀ (m' : Nat), ¬ (c = 47 ∧ b = 0) → zF v5 d' n 223 m' 23 [(0, .long a), (2, .int c), (3, .long b)] [] (zH c0 σ) = some r → ∃ o σ', ((zCmb a c b = none ∧ zW σ o σ') ∨ (∃ v, zCmb a c b = some v ∧ zRl σ v o σ')) ∧ r = zOut c0 o σ' := by
      intro m' h1 hx
      have hx := zTr (C := nC223) (tb := []) h0 rfl rfl trivial (fun pc => pc.beq 105) 40 hx
      have key : ∀ (k : Int32), c = k ↔ k.toInt = c.toInt := fun k => ⟨fun h => by rw [h], fun h => (Int32.toInt_inj.mp h).symm⟩
      rcases hx with ⟨h2, m', hm, hx⟩ | ⟨h2, ⟨h3, m', hm, hx⟩ | ⟨h3, ⟨h4, m', hm, hx⟩ | ⟨h4, ⟨h5, m', hm, hx⟩ | ⟨h5, ⟨h6, m', hm, hx⟩ | ⟨h6, ⟨h7, h8, m', hm, hx⟩ | ⟨h7, m', hm, hx⟩⟩⟩⟩⟩⟩
      · have e := (key 42).mpr h2
        exact fin m' _ h1 (by subst e; rfl) hx
      · have e := (key 43).mpr h3
        exact fin m' _ h1 (by subst e; rfl) hx
      · have e := (key 44).mpr h4
        exact fin m' _ h1 (by subst e; rfl) hx
      · have e := (key 45).mpr h5
        exact fin m' _ h1 (by subst e; rfl) hx
      · have e := (key 46).mpr h6
        exact fin m' _ h1 (by subst e; rfl) hx
      · have e := (key 47).mpr h7
        exact fin m' _ h1 (by subst e; rfl) hx
      · refine fin m' _ h1 ?_ hx
        unfold zCmv
        rw [if_neg (fun h => h3 ((key 43).mp h)), if_neg (fun h => h5 ((key 45).mp h)), if_neg (fun h => h2 ((key 42).mp h)), if_neg (fun h => h7 ((key 47).mp h))]
    rcases hx with ⟨h1, m', hm, hx⟩ | ⟨h1, ⟨h2, m', hm, hx⟩ | ⟨h2, hx⟩⟩
    · exact mid m' (fun h => cNeT h1 h.1) hx
    · exact mid m' (fun h => lNeT h2 h.2) hx
    · exact ⟨_, _, Or.inl ⟨if_pos ⟨cNeF h1, lNeF h2⟩, rfl, rfl⟩, hx⟩
  · cases hs
end WD
