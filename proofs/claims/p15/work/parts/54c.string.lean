/-! STRINGS: charAt, indexOf -/
abbrev sp219 (as : List Value) (σ : zS) : Option zCs := match as with
  | [.ref b, .int i] => (match nCell 0 (fun _ => 0) b with
    | some (.inl (7, n, .inl f)) => some (fun o σ' => mIn i n = true ∧ zR σ (((f i.toNatClampNeg &&& 255).toUInt32 % 65536).toInt32) o σ')
    | _ => none)
  | _ => none
abbrev sp184 (as : List Value) (σ : zS) : Option zCs := match as with
  | [.ref s, .int i] => some (fun o σ' => zIsS s ∧ mIn i (zSb s).length = true ∧ zR σ (zCh s i) o σ')
  | _ => none
abbrev sp233 (as : List Value) (σ : zS) : Option zCs := match as with
  | [.int c] => some (fun o σ' => ((¬ c < 0 ∧ ¬ 255 < c) ∧ zR σ 1 o σ') ∨ (¬ (¬ c < 0 ∧ ¬ 255 < c) ∧ zR σ 0 o σ'))
  | _ => none
/-- a register's number, of its byte -/
def zRg (b : Int32) : Int32 := if b = 65 then 0 else if b = 49 then 1 else if b = 50 then 2 else if b = 51 then 3 else if b = 52 then 4 else if b = 53 then 5 else if b = 54 then 6 else if b = 88 then 7 else -1
def zRx (c : Int32) : Int32 := if ¬ c < 0 ∧ ¬ 255 < c then zRg c.toInt8.toInt32 else -1
abbrev sp234 (as : List Value) (σ : zS) : Option zCs := match as with
  | [.ref 54, .int c, .int 0, .int 8] => some (zR σ (zRg c.toInt8.toInt32))
  | _ => none
abbrev sp185 (as : List Value) (σ : zS) : Option zCs := match as with
  | [.ref 53, .int c] => some (zR σ (zRx c))
  | _ => none
theorem zB_cases {b n : Nat} {f : Nat → Int32} (h : nCell 0 (fun _ => 0) b = some (.inl (7, n, .inl f))) : b = 54 ∨ ∃ k, (k = 0 ∨ k = 1 ∨ k = 2 ∨ k = 3 ∨ k = 4 ∨ k = 5 ∨ k = 6 ∨ k = 7 ∨ k = 8 ∨ k = 9 ∨ k = 10 ∨ k = 11 ∨ k = 12 ∨ k = 13 ∨ k = 14 ∨ k = 15 ∨ k = 16 ∨ k = 17 ∨ k = 18 ∨ k = 19 ∨ k = 20 ∨ k = 21 ∨ k = 22 ∨ k = 23 ∨ k = 24 ∨ k = 25 ∨ k = 26 ∨ k = 27 ∨ k = 28 ∨ k = 29 ∨ k = 30 ∨ k = 31 ∨ k = 32 ∨ k = 33 ∨ k = 34 ∨ k = 35 ∨ k = 36 ∨ k = 37 ∨ k = 38 ∨ k = 39 ∨ k = 40 ∨ k = 41 ∨ k = 42 ∨ k = 43 ∨ k = 44 ∨ k = 45 ∨ k = 46 ∨ k = 47 ∨ k = 48 ∨ k = 49) ∧ b = 56 + 2 * k := by
  unfold nCell at h
  split at h
  · cases h
  · split at h
    · cases h
    · split at h
      · cases h
      · split at h
        · cases h
        · split at h
          · cases h
          · split at h
            · exact Or.inl (by assumption)
            · split at h
              · split at h
                · cases h
                · exact Or.inr ⟨(b - 56) / 2, by omega, by omega⟩
              · cases h
section SG
variable {c0 : mH} {v5 : Value}
theorem z219 (h0 : zC0 c0) : zSp c0 v5 219 sp219 := by
  intro d n as σ cs r hs hx
  unfold sp219 at hs
  split at hs
  · rename_i b i
    split at hs
    · rename_i k f hc
      cases hs
      obtain ⟨d', hx⟩ := zGo hx
      rcases zB_cases hc with rfl | ⟨k, hk, rfl⟩
      · cases hc
        obtain ⟨_, _, ⟨h1, rfl, rfl⟩, h2, hx⟩ := zTr (C := nC219) (tb := [(226, sp226)]) h0 rfl rfl ⟨z226 h0, trivial⟩ (fun _ => false) 40 hx
        exact ⟨_, _, ⟨h2, rfl, rfl⟩, hx⟩
      · rcases hk with rfl | rfl | rfl | rfl | rfl | rfl | rfl | rfl | rfl | rfl | rfl | rfl | rfl | rfl | rfl | rfl | rfl | rfl | rfl | rfl | rfl | rfl | rfl | rfl | rfl | rfl | rfl | rfl | rfl | rfl | rfl | rfl | rfl | rfl | rfl | rfl | rfl | rfl | rfl | rfl | rfl | rfl | rfl | rfl | rfl | rfl | rfl | rfl | rfl | rfl
        all_goals
          cases hc
          obtain ⟨_, _, ⟨h1, rfl, rfl⟩, h2, hx⟩ := zTr (C := nC219) (tb := [(226, sp226)]) h0 rfl rfl ⟨z226 h0, trivial⟩ (fun _ => false) 40 hx
          exact ⟨_, _, ⟨h2, rfl, rfl⟩, hx⟩
    · cases hs
  · cases hs
theorem z184 (h0 : zC0 c0) : zSp c0 v5 184 sp184 := by
  intro d n as σ cs r hs hx
  unfold sp184 at hs
  split at hs
  · rename_i s i
    cases hs
    obtain ⟨d', hx⟩ := zGo hx
    have hS : zIsS s := by
      obtain ⟨_, _, ⟨h1, _⟩, _⟩ := zTr (C := nC184) (tb := [(218, sp218)]) h0 rfl rfl ⟨z218 h0, trivial⟩ (fun _ => false) 2 hx
      exact h1
    rcases zS_cases hS with rfl | ⟨k, hk, rfl⟩
    · obtain ⟨_, _, ⟨-, rfl, rfl⟩, ⟨h, -⟩ | ⟨-, -, _, _, ⟨h2, rfl, rfl⟩, hx⟩⟩ := zTr (C := nC184) (tb := [(218, sp218), (219, sp219)]) h0 rfl rfl ⟨z218 h0, z219 h0, trivial⟩ (fun _ => false) 40 hx
      · exact absurd (cEqT h) (by decide)
      · exact ⟨_, _, ⟨hS, h2, rfl, rfl⟩, hx⟩
    · rcases hk with rfl | rfl | rfl | rfl | rfl | rfl | rfl | rfl | rfl | rfl | rfl | rfl | rfl | rfl | rfl | rfl | rfl | rfl | rfl | rfl | rfl | rfl | rfl | rfl | rfl | rfl | rfl | rfl | rfl | rfl | rfl | rfl | rfl | rfl | rfl | rfl | rfl | rfl | rfl | rfl | rfl | rfl | rfl | rfl | rfl | rfl | rfl | rfl | rfl | rfl
      all_goals
        obtain ⟨_, _, ⟨-, rfl, rfl⟩, ⟨h, -⟩ | ⟨-, -, _, _, ⟨h2, rfl, rfl⟩, hx⟩⟩ := zTr (C := nC184) (tb := [(218, sp218), (219, sp219)]) h0 rfl rfl ⟨z218 h0, z219 h0, trivial⟩ (fun _ => false) 40 hx
        · exact absurd (cEqT h) (by decide)
        · exact ⟨_, _, ⟨hS, h2, rfl, rfl⟩, hx⟩
  · cases hs
theorem z233 (h0 : zC0 c0) : zSp c0 v5 233 sp233 := by
  intro d n as σ cs r hs hx
  unfold sp233 at hs
  split at hs
  · cases hs
    obtain ⟨d', hx⟩ := zGo hx
    replace hx := zTr (C := nC233) (tb := []) h0 rfl rfl trivial (fun _ => false) 40 hx
    rcases hx with ⟨h1, hx⟩ | ⟨h1, ⟨h2, hx⟩ | ⟨h2, hx⟩⟩
    · exact ⟨_, _, Or.inr ⟨fun h => h.1 (cLtT h1), rfl, rfl⟩, hx⟩
    · exact ⟨_, _, Or.inr ⟨fun h => h.2 (cGtT h2), rfl, rfl⟩, hx⟩
    · exact ⟨_, _, Or.inl ⟨⟨cLtF h1, cGtF h2⟩, rfl, rfl⟩, hx⟩
  · cases hs
/-- one turn of the search -/
theorem z234_t (h0 : zC0 c0) {d n m : Nat} {r : mO × mH} {σ : zS} {c b : Int32} {i : Int32} (hx : zF v5 d n 234 m 7 [(5, .int i), (4, .int b), (0, .ref 54), (1, .int c), (2, .int 0), (3, .int 8)] [] (zH c0 σ) = some r) : (¬ i < 8 ∧ r = zOut c0 (.inl (some (.int (-1)))) σ) ∨ (i < 8 ∧ (nBy 50).getD i.toNatClampNeg 0 = b ∧ r = zOut c0 (.inl (some (.int i))) σ) ∨ (i < 8 ∧ ¬ (nBy 50).getD i.toNatClampNeg 0 = b ∧ ∃ m', zF v5 d n 234 m' 7 [(5, .int (i + 1)), (4, .int b), (0, .ref 54), (1, .int c), (2, .int 0), (3, .int 8)] [] (zH c0 σ) = some r) := by
  replace hx := zTr (C := nC234) (tb := []) h0 rfl rfl trivial (fun pc => pc.beq 7) 40 hx
  rcases hx with ⟨h1, hx⟩ | ⟨h1, h2, ⟨h3, m', hm, hx⟩ | ⟨h3, hx⟩⟩
  · exact Or.inl ⟨cGeT h1, hx⟩
  · exact Or.inr (Or.inr ⟨cGeF h1, cNeT h3, m', hx⟩)
  · exact Or.inr (Or.inl ⟨cGeF h1, cNeF h3, hx⟩)
theorem z234 (h0 : zC0 c0) : zSp c0 v5 234 sp234 := by
  intro d n as σ cs r hs hx
  unfold sp234 at hs
  split at hs
  · rename_i c
    cases hs
    obtain ⟨d', hx⟩ := zGo hx
    obtain ⟨m', hm, hx⟩ := zTr (C := nC234) (tb := []) h0 rfl rfl trivial (fun pc => pc.beq 7) 40 hx
    refine ⟨_, _, ⟨rfl, rfl⟩, ?_⟩
    have hx : zF v5 d' n 234 m' 7 [(5, .int 0), (4, .int c.toInt8.toInt32), (0, .ref 54), (1, .int c), (2, .int 0), (3, .int 8)] [] (zH c0 σ) = some r := hx
    generalize c.toInt8.toInt32 = b at hx ⊢
    unfold zRg
    rcases z234_t h0 hx with ⟨h, -⟩ | ⟨-, g0, hx⟩ | ⟨-, g0, _, hx⟩
    · exact absurd (show (0 : Int32) < 8 by decide) h
    · have g0 : (65 : Int32) = b := g0
      rw [if_pos g0.symm]
      exact hx
    have g0 : ¬ (65 : Int32) = b := g0
    have hx : zF v5 d' n 234 _ 7 [(5, .int 1), (4, .int b), (0, .ref 54), (1, .int c), (2, .int 0), (3, .int 8)] [] (zH c0 σ) = some r := hx
    rcases z234_t h0 hx with ⟨h, -⟩ | ⟨-, g1, hx⟩ | ⟨-, g1, _, hx⟩
    · exact absurd (show (1 : Int32) < 8 by decide) h
    · have g1 : (49 : Int32) = b := g1
      rw [if_neg (fun h => g0 h.symm), if_pos g1.symm]
      exact hx
    have g1 : ¬ (49 : Int32) = b := g1
    have hx : zF v5 d' n 234 _ 7 [(5, .int 2), (4, .int b), (0, .ref 54), (1, .int c), (2, .int 0), (3, .int 8)] [] (zH c0 σ) = some r := hx
    rcases z234_t h0 hx with ⟨h, -⟩ | ⟨-, g2, hx⟩ | ⟨-, g2, _, hx⟩
    · exact absurd (show (2 : Int32) < 8 by decide) h
    · have g2 : (50 : Int32) = b := g2
      rw [if_neg (fun h => g0 h.symm), if_neg (fun h => g1 h.symm), if_pos g2.symm]
      exact hx
    have g2 : ¬ (50 : Int32) = b := g2
    have hx : zF v5 d' n 234 _ 7 [(5, .int 3), (4, .int b), (0, .ref 54), (1, .int c), (2, .int 0), (3, .int 8)] [] (zH c0 σ) = some r := hx
    rcases z234_t h0 hx with ⟨h, -⟩ | ⟨-, g3, hx⟩ | ⟨-, g3, _, hx⟩
    · exact absurd (show (3 : Int32) < 8 by decide) h
    · have g3 : (51 : Int32) = b := g3
      rw [if_neg (fun h => g0 h.symm), if_neg (fun h => g1 h.symm), if_neg (fun h => g2 h.symm), if_pos g3.symm]
      exact hx
    have g3 : ¬ (51 : Int32) = b := g3
    have hx : zF v5 d' n 234 _ 7 [(5, .int 4), (4, .int b), (0, .ref 54), (1, .int c), (2, .int 0), (3, .int 8)] [] (zH c0 σ) = some r := hx
    rcases z234_t h0 hx with ⟨h, -⟩ | ⟨-, g4, hx⟩ | ⟨-, g4, _, hx⟩
    · exact absurd (show (4 : Int32) < 8 by decide) h
    · have g4 : (52 : Int32) = b := g4
      rw [if_neg (fun h => g0 h.symm), if_neg (fun h => g1 h.symm), if_neg (fun h => g2 h.symm), if_neg (fun h => g3 h.symm), if_pos g4.symm]
      exact hx
    have g4 : ¬ (52 : Int32) = b := g4
    have hx : zF v5 d' n 234 _ 7 [(5, .int 5), (4, .int b), (0, .ref 54), (1, .int c), (2, .int 0), (3, .int 8)] [] (zH c0 σ) = some r := hx
    rcases z234_t h0 hx with ⟨h, -⟩ | ⟨-, g5, hx⟩ | ⟨-, g5, _, hx⟩
    · exact absurd (show (5 : Int32) < 8 by decide) h
    · have g5 : (53 : Int32) = b := g5
      rw [if_neg (fun h => g0 h.symm), if_neg (fun h => g1 h.symm), if_neg (fun h => g2 h.symm), if_neg (fun h => g3 h.symm), if_neg (fun h => g4 h.symm), if_pos g5.symm]
      exact hx
    have g5 : ¬ (53 : Int32) = b := g5
    have hx : zF v5 d' n 234 _ 7 [(5, .int 6), (4, .int b), (0, .ref 54), (1, .int c), (2, .int 0), (3, .int 8)] [] (zH c0 σ) = some r := hx
    rcases z234_t h0 hx with ⟨h, -⟩ | ⟨-, g6, hx⟩ | ⟨-, g6, _, hx⟩
    · exact absurd (show (6 : Int32) < 8 by decide) h
    · have g6 : (54 : Int32) = b := g6
      rw [if_neg (fun h => g0 h.symm), if_neg (fun h => g1 h.symm), if_neg (fun h => g2 h.symm), if_neg (fun h => g3 h.symm), if_neg (fun h => g4 h.symm), if_neg (fun h => g5 h.symm), if_pos g6.symm]
      exact hx
    have g6 : ¬ (54 : Int32) = b := g6
    have hx : zF v5 d' n 234 _ 7 [(5, .int 7), (4, .int b), (0, .ref 54), (1, .int c), (2, .int 0), (3, .int 8)] [] (zH c0 σ) = some r := hx
    rcases z234_t h0 hx with ⟨h, -⟩ | ⟨-, g7, hx⟩ | ⟨-, g7, _, hx⟩
    · exact absurd (show (7 : Int32) < 8 by decide) h
    · have g7 : (88 : Int32) = b := g7
      rw [if_neg (fun h => g0 h.symm), if_neg (fun h => g1 h.symm), if_neg (fun h => g2 h.symm), if_neg (fun h => g3 h.symm), if_neg (fun h => g4 h.symm), if_neg (fun h => g5 h.symm), if_neg (fun h => g6 h.symm), if_pos g7.symm]
      exact hx
    have g7 : ¬ (88 : Int32) = b := g7
    have hx : zF v5 d' n 234 _ 7 [(5, .int 8), (4, .int b), (0, .ref 54), (1, .int c), (2, .int 0), (3, .int 8)] [] (zH c0 σ) = some r := hx
    rcases z234_t h0 hx with ⟨-, hx⟩ | ⟨h, -⟩ | ⟨h, -⟩
    · rw [if_neg (fun h => g0 h.symm), if_neg (fun h => g1 h.symm), if_neg (fun h => g2 h.symm), if_neg (fun h => g3 h.symm), if_neg (fun h => g4 h.symm), if_neg (fun h => g5 h.symm), if_neg (fun h => g6 h.symm), if_neg (fun h => g7 h.symm)]
      exact hx
    · exact absurd h (by decide)
    · exact absurd h (by decide)
  · cases hs
theorem z227 (h0 : zC0 c0) {d n : Nat} {r : mO × mH} {σ : zS} {c : Int32} (hx : evM 158 nDflt (mP' (nCodw v5)) nHn nMxx' d n 227 [.ref 54, .int c, .int 0, .int 8] (zH c0 σ) = some r) : r = zOut c0 (.inl (some (.int (zRx c)))) σ := by
  obtain ⟨d', hx⟩ := zGo hx
  replace hx := zTr (C := nC227) (tb := [(233, sp233), (234, sp234)]) h0 rfl rfl ⟨z233 h0, z234 h0, trivial⟩ (fun _ => false) 40 hx
  unfold zRx
  obtain ⟨_, _, ⟨h1, rfl, rfl⟩ | ⟨h1, rfl, rfl⟩, hx⟩ := hx
  · rw [if_pos h1]
    rcases hx with ⟨-, hx⟩ | ⟨h, -⟩
    · rcases hx with ⟨-, hx⟩ | ⟨h, -⟩
      · obtain ⟨_, _, ⟨rfl, rfl⟩, hx⟩ := hx
        exact hx
      · exact absurd (show (0 : Int32) < 8 by decide) (cLtF h)
    · exact absurd (cNeF h) (by decide)
  · rw [if_neg h1]
    rcases hx with ⟨h, -⟩ | ⟨-, hx⟩
    · exact absurd rfl (cNeT h)
    · exact hx
abbrev sp227 (as : List Value) (σ : zS) : Option zCs := match as with
  | [.ref 54, .int c, .int 0, .int 8] => some (zR σ (zRx c))
  | _ => none
theorem z227' (h0 : zC0 c0) : zSp c0 v5 227 sp227 := by
  intro d n as σ cs r hs hx
  unfold sp227 at hs
  split at hs
  · cases hs
    exact ⟨_, _, ⟨rfl, rfl⟩, z227 h0 hx⟩
  · cases hs
abbrev sp220 (as : List Value) (σ : zS) : Option zCs := match as with
  | [.ref 53, .int c, .int 0] => some (zR σ (zRx c))
  | _ => none
theorem z220 (h0 : zC0 c0) : zSp c0 v5 220 sp220 := by
  intro d n as σ cs r hs hx
  unfold sp220 at hs
  split at hs
  · cases hs
    obtain ⟨d', hx⟩ := zGo hx
    replace hx := zTr (C := nC220) (tb := [(218, sp218), (183, sp183), (227, sp227)]) h0 rfl rfl ⟨z218 h0, z183 h0, z227' h0, trivial⟩ (fun _ => false) 40 hx
    obtain ⟨_, _, ⟨-, rfl, rfl⟩, ⟨h, -⟩ | ⟨-, -, _, _, ⟨-, rfl, rfl⟩, hx⟩⟩ := hx
    · exact absurd (cEqT h) (by decide)
    · obtain ⟨_, _, ⟨rfl, rfl⟩, hx⟩ := hx
      exact ⟨_, _, ⟨rfl, rfl⟩, hx⟩
  · cases hs
theorem z185 (h0 : zC0 c0) : zSp c0 v5 185 sp185 := by
  intro d n as σ cs r hs hx
  unfold sp185 at hs
  split at hs
  · cases hs
    obtain ⟨d', hx⟩ := zGo hx
    replace hx := zTr (C := nC185) (tb := [(220, sp220)]) h0 rfl rfl ⟨z220 h0, trivial⟩ (fun _ => false) 40 hx
    obtain ⟨_, _, ⟨rfl, rfl⟩, hx⟩ := hx
    exact ⟨_, _, ⟨rfl, rfl⟩, hx⟩
  · cases hs
end SG
