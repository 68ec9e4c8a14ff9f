/-! THE REFERENCE: words -/
def yR8 (f : Int32) : Int32 := f - f / 8 * 8
def yBy (f : Int32) : Int32 := yR8 f - (if 1 < f / 8 then f / 8 else 1) + 1
def yMk (f : Int32) : Int32 := ((1 : Int32) <<< (((6 : Int32) * yBy f) &&& (31 : Int32))) - 1
def yMade (m : Int32) (neg : Prop) [Decidable neg] : Int32 := 2 * m + (if neg then 1 else 0)
def yShf (f : Int32) : Int32 := 6 * (if 0 < yR8 f then 5 - yR8 f else 0)
def yPut (w f fr : Int32) : Int32 := yMade ((zMag w &&& ((yMk f <<< (yShf f &&& 31)) ^^^ (-1))) ||| ((zMag fr &&& yMk f) <<< (yShf f &&& 31))) ((if f < 8 then fr else w) &&& 1 = 1)
def yOf (v : Int32) : Int32 := yMade (if v < 0 then -v else v) (v < 0)
abbrev yFd5 (f : Int32) : Prop := ¬ yR8 f < f / 8 ∧ ¬ 5 < yR8 f
abbrev sp146 (as : List Value) (σ : zS) : Option zCs := match as with
  | [.int m, .int b] => some (zR σ (2 * m + (if b = 0 then 0 else 1)))
  | _ => none
abbrev sp101 (as : List Value) (σ : zS) : Option zCs := match as with
  | [.int v] => some (zR σ (yOf v))
  | _ => none
abbrev sp168 (as : List Value) (σ : zS) : Option zCs := match as with
  | [.int f] => some (fun o σ' => (yFd5 f ∧ zR σ 1 o σ') ∨ (¬ yFd5 f ∧ zR σ 0 o σ'))
  | _ => none
abbrev sp225 (as : List Value) (σ : zS) : Option zCs := match as with
  | [.int f] => some (zR σ (yBy f))
  | _ => none
abbrev sp214 (as : List Value) (σ : zS) : Option zCs := match as with
  | [.int f] => some (zR σ (yMk f))
  | _ => none
abbrev sp172 (as : List Value) (σ : zS) : Option zCs := match as with
  | [.int w, .int f, .int fr] => some (zR σ (yPut w f fr))
  | _ => none
section RF
variable {c0 : mH} {v5 : Value}
theorem z146 (h0 : zC0 c0) : zSp c0 v5 146 sp146 := by
  intro d n as σ cs r hs hx
  unfold sp146 at hs
  split at hs
  · rename_i m b
    cases hs
    obtain ⟨d', hx⟩ := zGo hx
    refine ⟨_, _, ⟨rfl, rfl⟩, ?_⟩
    rcases zTr (C := nC146) (tb := []) h0 rfl rfl trivial (fun _ => false) 40 hx with ⟨h1, hx⟩ | ⟨h1, hx⟩
    · rw [if_pos (show b = 0 from cEqT h1)]; exact hx
    · rw [if_neg (show ¬ b = 0 from cEqF h1)]; exact hx
  · cases hs
theorem z101 (h0 : zC0 c0) : zSp c0 v5 101 sp101 := by
  intro d n as σ cs r hs hx
  unfold sp101 at hs
  split at hs
  · rename_i v
    cases hs
    obtain ⟨d', hx⟩ := zGo hx
    refine ⟨_, _, ⟨rfl, rfl⟩, ?_⟩
    unfold yOf yMade
    rcases zTr (C := nC101) (tb := [(146, sp146)]) h0 rfl rfl ⟨z146 h0, trivial⟩ (fun _ => false) 40 hx with ⟨h1, hx⟩ | ⟨h1, hx⟩
    · have h1 : ¬ v < 0 := cGeT h1
      rw [if_neg h1, if_neg h1]
      rcases hx with ⟨-, _, _, ⟨rfl, rfl⟩, hx⟩ | ⟨h, -⟩
      · exact hx
      · exact absurd (cGeF h) h1
    · have h1 : v < 0 := cGeF h1
      rw [if_pos h1, if_pos h1]
      rcases hx with ⟨h, -⟩ | ⟨-, _, _, ⟨rfl, rfl⟩, hx⟩
      · exact absurd h1 (cGeT h)
      · exact hx
  · cases hs
theorem z168 (h0 : zC0 c0) : zSp c0 v5 168 sp168 := by
  intro d n as σ cs r hs hx
  unfold sp168 at hs
  split at hs
  · cases hs
    obtain ⟨d', hx⟩ := zGo hx
    rcases zTr (C := nC168) (tb := []) h0 rfl rfl trivial (fun _ => false) 40 hx with ⟨-, -, ⟨h1, hx⟩ | ⟨h1, -, ⟨h2, hx⟩ | ⟨h2, hx⟩⟩⟩
    · exact ⟨_, _, Or.inr ⟨fun h => h.1 (cGtT h1), rfl, rfl⟩, hx⟩
    · exact ⟨_, _, Or.inr ⟨fun h => h.2 (cGtT h2), rfl, rfl⟩, hx⟩
    · exact ⟨_, _, Or.inl ⟨⟨cGtF h1, cGtF h2⟩, rfl, rfl⟩, hx⟩
  · cases hs
theorem z225 (h0 : zC0 c0) : zSp c0 v5 225 sp225 := by
  intro d n as σ cs r hs hx
  unfold sp225 at hs
  split at hs
  · rename_i f
    cases hs
    obtain ⟨d', hx⟩ := zGo hx
    refine ⟨_, _, ⟨rfl, rfl⟩, ?_⟩
    unfold yBy
    rcases zTr (C := nC225) (tb := []) h0 rfl rfl trivial (fun _ => false) 40 hx with ⟨-, -, ⟨h1, hx⟩ | ⟨h1, -, hx⟩⟩
    · rw [if_neg (show ¬ 1 < f / 8 from cLeT h1)]; exact hx
    · rw [if_pos (show 1 < f / 8 from cLeF h1)]; exact hx
  · cases hs
theorem z214 (h0 : zC0 c0) : zSp c0 v5 214 sp214 := by
  intro d n as σ cs r hs hx
  unfold sp214 at hs
  split at hs
  · cases hs
    obtain ⟨d', hx⟩ := zGo hx
    obtain ⟨_, _, ⟨rfl, rfl⟩, hx⟩ := zTr (C := nC214) (tb := [(225, sp225)]) h0 rfl rfl ⟨z225 h0, trivial⟩ (fun _ => false) 40 hx
    exact ⟨_, _, ⟨rfl, rfl⟩, hx⟩
  · cases hs
theorem z172_t (h0 : zC0 c0) {d n m : Nat} {r : mO × mH} {σ : zS} {w f fr sh : Int32} (hx : zF v5 d n 172 m 21 [(3, .int sh), (0, .int w), (1, .int f), (2, .int fr)] [] (zH c0 σ) = some r) : r = zOut c0 (.inl (some (.int (yMade ((zMag w &&& ((yMk f <<< (sh &&& 31)) ^^^ (-1))) ||| ((zMag fr &&& yMk f) <<< (sh &&& 31))) ((if f < 8 then fr else w) &&& 1 = 1))))) σ := by
  replace hx := zTr (C := nC172) (tb := [(70, sp70), (214, sp214), (73, sp73), (146, sp146)]) h0 rfl rfl ⟨z70 h0, z214 h0, z73 h0, z146 h0, trivial⟩ (fun _ => false) 60 hx
  obtain ⟨_, _, ⟨rfl, rfl⟩, _, _, ⟨rfl, rfl⟩, _, _, ⟨rfl, rfl⟩, _, _, ⟨rfl, rfl⟩, hx⟩ := hx
  unfold yMade
  rcases hx with ⟨h1, _, _, ⟨h2, rfl, rfl⟩ | ⟨h2, rfl, rfl⟩, _, _, ⟨rfl, rfl⟩, hx⟩ | ⟨h1, _, _, ⟨h2, rfl, rfl⟩ | ⟨h2, rfl, rfl⟩, _, _, ⟨rfl, rfl⟩, hx⟩
  · rw [if_neg (show ¬ f < 8 from cGeT h1), if_pos h2]; exact hx
  · rw [if_neg (show ¬ f < 8 from cGeT h1), if_neg h2]; exact hx
  · rw [if_pos (show f < 8 from cGeF h1), if_pos h2]; exact hx
  · rw [if_pos (show f < 8 from cGeF h1), if_neg h2]; exact hx
theorem z172 (h0 : zC0 c0) : zSp c0 v5 172 sp172 := by
  intro d n as σ cs r hs hx
  unfold sp172 at hs
  split at hs
  · rename_i w f fr
    cases hs
    obtain ⟨d', hx⟩ := zGo hx
    refine ⟨_, _, ⟨rfl, rfl⟩, ?_⟩
    rcases zTr (C := nC172) (tb := []) h0 rfl rfl trivial (fun pc => pc.beq 21) 60 hx with ⟨-, ⟨h1, m', hm, hx⟩ | ⟨h1, -, m', hm, hx⟩⟩
    · have h1 : ¬ 0 < yR8 f := cLeT h1
      have e : yShf f = 6 * 0 := by unfold yShf; rw [if_neg h1]
      unfold yPut
      rw [e]
      exact z172_t h0 hx
    · have h1 : 0 < yR8 f := cLeF h1
      have e : yShf f = 6 * (5 - yR8 f) := by unfold yShf; rw [if_pos h1]
      unfold yPut
      rw [e]
      exact z172_t h0 hx
  · cases hs
end RF
