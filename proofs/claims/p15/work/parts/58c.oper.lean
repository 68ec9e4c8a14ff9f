/-! THE REFERENCE: an operation by its name -/
abbrev yB2 (w : Int64) : Int32 := yLt ((w >>> (((Int8.ofInt 16).toInt32).toInt64 &&& 63)) &&& 255).toInt32
abbrev yB1 (w : Int64) : Int32 := yLt ((w >>> (((Int8.ofInt 8).toInt32).toInt64 &&& 63)) &&& 255).toInt32
abbrev yB3 (w : Int64) : Int32 := yLt ((w >>> (((Int8.ofInt 24).toInt32).toInt64 &&& 63)) &&& 255).toInt32
abbrev y16 (w : Int64) : Int64 := w >>> (((Int8.ofInt 16).toInt32).toInt64 &&& 63)
abbrev yW2 (w : Int64) : Int32 := (w &&& 65535).toInt32
abbrev yW3 (w : Int64) : Int32 := (w &&& 16777215).toInt32
def yO5 (t : Int32) : Int32 := if t = 4410953 then 0 else if t = 4408644 then 1 else if t = 5525061 then 2 else if t = 5131845 then 3 else -1
def yO4 (w : Int64) (ln : Int32) : Int32 := if ¬ ln = 4 ∨ yB3 w < 0 then -1 else if ¬ yO5 (yW3 w) < 0 then 48 + yB3 w + 128 * yO5 (yW3 w) + 8192 else if yW3 w = 5262659 then 56 + yB3 w + 640 else -1
def yO3 (w : Int64) (ln : Int32) : Int32 := if w &&& 255 = 74 ∧ ¬ yB1 w < 0 ∧ ¬ y4 (y16 w) < 0 then 40 + yB1 w + 128 * y4 (y16 w) + 8192 else yO4 w ln
def yO2 (w : Int64) (ln : Int32) : Int32 := if yW2 w = 21587 ∧ ¬ yB2 w < 0 ∧ ln = 3 then 24 + yB2 w + 640 else yO3 w ln
def yO1 (w : Int64) (ln last : Int32) : Int32 := if yW2 w = 17484 ∧ ¬ yB2 w < 0 ∧ (ln = 3 ∨ (ln = 4 ∧ last = 78)) then (if ln = 3 then 8 else 16) + yB2 w + 640 else yO2 w ln
def yN (w : Int64) : Int32 := if y1 w < 0 then y2 w else y1 w
def yOp (w : Int64) (ln last : Int32) : Int32 := if ¬ yN w < 0 then yN w else yO1 w ln last
abbrev sp98 (as : List Value) (σ : zS) : Option zCs := match as with
  | [.ref 183, .int p, .int q] => some (fun o σ' => ∃ w, (p.toInt ≤ 1000 → w = (if q - p < 6 then yNm σ p q else 0)) ∧ zR σ (yOp w (q - p) (yT σ (q - 1).toNatClampNeg)) o σ')
  | _ => none
section RF
variable {c0 : mH} {v5 : Value}
theorem z98_4 (h0 : zC0 c0) {d n m : Nat} {r : mO × mH} {σ : zS} {p q : Int32} {w : Int64} {a5 a6 a7 a8 : Int32} (hx : zF v5 d n 98 m 226 [(8, .int a8), (7, .int a7), (6, .int a6), (5, .int a5), (3, .long w), (0, .ref 183), (1, .int p), (2, .int q)] [] (zH c0 σ) = some r) : r = zOut c0 (.inl (some (.int (yO4 w (q - p))))) σ := by
  replace hx := zTr (C := nC98) (tb := [(143, sp143)]) h0 rfl rfl ⟨z143 h0, trivial⟩ (fun pc => pc.beq 262) 80 hx
  unfold yO4
  obtain ⟨_, _, ⟨rfl, rfl⟩, hx⟩ := hx
  rcases hx with ⟨h1, hx⟩ | ⟨h1, ⟨h2, m', hm, hx⟩ | ⟨h2, hx⟩⟩
  · rw [if_pos (Or.inl (show ¬ q - p = 4 from cNeT h1))]
    exact hx
  · have e1 : ¬ (¬ q - p = 4 ∨ yB3 w < 0) := fun h => h.elim (fun h => h (cNeF h1)) (fun h => cGeT h2 h)
    rw [if_neg e1]
    have hx : zF v5 d n 98 m' 262 [(10, .int (yB3 w)), (9, .int (yW3 w)), (8, .int a8), (7, .int a7), (6, .int a6), (5, .int a5), (3, .long w), (0, .ref 183), (1, .int p), (2, .int q)] [] (zH c0 σ) = some r := hx
    generalize yB3 w = b at hx ⊢
    generalize yW3 w = t at hx ⊢
    replace hx := zTr (C := nC98) (tb := []) h0 rfl rfl trivial (fun pc => pc.beq 313) 80 hx
    have fin : ∀ (m2 : Nat) (f : Int32), yO5 t = f → zF v5 d n 98 m2 313 [(11, .int f), (10, .int b), (9, .int t), (8, .int a8), (7, .int a7), (6, .int a6), (5, .int a5), (3, .long w), (0, .ref 183), (1, .int p), (2, .int q)] [] (zH c0 σ) = some r → r = zOut c0 (.inl (some (.int (if ¬ yO5 t < 0 then 48 + b + 128 * yO5 t + 8192 else if t = 5262659 then 56 + b + 640 else -1)))) σ := by
      intro m2 f hf hx
      rw [hf]
      rcases zTr (C := nC98) (tb := []) h0 rfl rfl trivial (fun _ => false) 80 hx with ⟨h3, ⟨h4, hx⟩ | ⟨h4, hx⟩⟩ | ⟨h3, hx⟩
      · rw [if_neg (show ¬ ¬ f < 0 from fun h => h (cLtT h3)), if_neg (show ¬ t = 5262659 from cNeT h4)]
        exact hx
      · rw [if_neg (show ¬ ¬ f < 0 from fun h => h (cLtT h3)), if_pos (show t = 5262659 from cNeF h4)]
        exact hx
      · rw [if_pos (show ¬ f < 0 from cLtF h3)]
        exact hx
    rcases hx with ⟨g1, ⟨g2, ⟨g3, ⟨g4, m2, hm2, hx⟩ | ⟨g4, m2, hm2, hx⟩⟩ | ⟨g3, m2, hm2, hx⟩⟩ | ⟨g2, m2, hm2, hx⟩⟩ | ⟨g1, m2, hm2, hx⟩
    · refine fin m2 (-1) ?_ hx
      unfold yO5
      rw [if_neg (show ¬ t = 4410953 from cNeT g1), if_neg (show ¬ t = 4408644 from cNeT g2), if_neg (show ¬ t = 5525061 from cNeT g3), if_neg (show ¬ t = 5131845 from cNeT g4)]
    · refine fin m2 3 ?_ hx
      unfold yO5
      rw [if_neg (show ¬ t = 4410953 from cNeT g1), if_neg (show ¬ t = 4408644 from cNeT g2), if_neg (show ¬ t = 5525061 from cNeT g3), if_pos (show t = 5131845 from cNeF g4)]
    · refine fin m2 2 ?_ hx
      unfold yO5
      rw [if_neg (show ¬ t = 4410953 from cNeT g1), if_neg (show ¬ t = 4408644 from cNeT g2), if_pos (show t = 5525061 from cNeF g3)]
    · refine fin m2 1 ?_ hx
      unfold yO5
      rw [if_neg (show ¬ t = 4410953 from cNeT g1), if_pos (show t = 4408644 from cNeF g2)]
    · refine fin m2 0 ?_ hx
      unfold yO5
      rw [if_pos (show t = 4410953 from cNeF g1)]
  · rw [if_pos (Or.inr (show yB3 w < 0 from cGeF h2))]
    exact hx
theorem z98_3 (h0 : zC0 c0) {d n m : Nat} {r : mO × mH} {σ : zS} {p q : Int32} {w : Int64} {a5 a6 a7 : Int32} (hx : zF v5 d n 98 m 163 [(7, .int a7), (6, .int a6), (5, .int a5), (3, .long w), (0, .ref 183), (1, .int p), (2, .int q)] [] (zH c0 σ) = some r) : r = zOut c0 (.inl (some (.int (yO3 w (q - p))))) σ := by
  replace hx := zTr (C := nC98) (tb := [(143, sp143), (144, sp144)]) h0 rfl rfl ⟨z143 h0, z144 h0, trivial⟩ (fun pc => pc.beq 226) 80 hx
  unfold yO3
  obtain ⟨_, _, ⟨rfl, rfl⟩, hx⟩ := hx
  rcases hx with ⟨h1, m', hm, hx⟩ | ⟨h1, ⟨h2, m', hm, hx⟩ | ⟨h2, _, _, ⟨rfl, rfl⟩, ⟨h3, m', hm, hx⟩ | ⟨h3, _, _, ⟨rfl, rfl⟩, hx⟩⟩⟩
  · rw [if_neg (show ¬ (w &&& 255 = 74 ∧ ¬ yB1 w < 0 ∧ ¬ y4 (y16 w) < 0) from fun h => lNeT h1 h.1)]
    exact z98_4 h0 hx
  · rw [if_neg (show ¬ (w &&& 255 = 74 ∧ ¬ yB1 w < 0 ∧ ¬ y4 (y16 w) < 0) from fun h => h.2.1 (cLtT h2))]
    exact z98_4 h0 hx
  · rw [if_neg (show ¬ (w &&& 255 = 74 ∧ ¬ yB1 w < 0 ∧ ¬ y4 (y16 w) < 0) from fun h => h.2.2 (cLtT h3))]
    exact z98_4 h0 hx
  · rw [if_pos (show w &&& 255 = 74 ∧ ¬ yB1 w < 0 ∧ ¬ y4 (y16 w) < 0 from ⟨lNeF h1, cLtF h2, cLtF h3⟩)]
    exact hx
theorem z98_2 (h0 : zC0 c0) {d n m : Nat} {r : mO × mH} {σ : zS} {p q : Int32} {w : Int64} {a5 : Int32} (hx : zF v5 d n 98 m 133 [(7, .int (yB2 w)), (6, .int (yW2 w)), (5, .int a5), (3, .long w), (0, .ref 183), (1, .int p), (2, .int q)] [] (zH c0 σ) = some r) : r = zOut c0 (.inl (some (.int (yO2 w (q - p))))) σ := by
  replace hx := zTr (C := nC98) (tb := []) h0 rfl rfl trivial (fun pc => pc.beq 163) 80 hx
  unfold yO2
  rcases hx with ⟨h1, m', hm, hx⟩ | ⟨h1, ⟨h2, m', hm, hx⟩ | ⟨h2, ⟨h3, m', hm, hx⟩ | ⟨h3, hx⟩⟩⟩
  · rw [if_neg (show ¬ (yW2 w = 21587 ∧ ¬ yB2 w < 0 ∧ q - p = 3) from fun h => cNeT h1 h.1)]
    exact z98_3 h0 hx
  · rw [if_neg (show ¬ (yW2 w = 21587 ∧ ¬ yB2 w < 0 ∧ q - p = 3) from fun h => h.2.1 (cLtT h2))]
    exact z98_3 h0 hx
  · rw [if_neg (show ¬ (yW2 w = 21587 ∧ ¬ yB2 w < 0 ∧ q - p = 3) from fun h => cNeT h3 h.2.2)]
    exact z98_3 h0 hx
  · rw [if_pos (show yW2 w = 21587 ∧ ¬ yB2 w < 0 ∧ q - p = 3 from ⟨cNeF h1, cLtF h2, cNeF h3⟩)]
    exact hx
theorem z98_1 (h0 : zC0 c0) {d n m : Nat} {r : mO × mH} {σ : zS} {p q : Int32} {w : Int64} {a5 : Int32} (hx : zF v5 d n 98 m 49 [(5, .int a5), (3, .long w), (0, .ref 183), (1, .int p), (2, .int q)] [] (zH c0 σ) = some r) : r = zOut c0 (.inl (some (.int (yO1 w (q - p) (yT σ (q - 1).toNatClampNeg))))) σ := by
  replace hx := zTr (C := nC98) (tb := [(143, sp143)]) h0 rfl rfl ⟨z143 h0, trivial⟩ (fun pc => pc.beq 133 || pc.beq 111) 80 hx
  unfold yO1
  obtain ⟨_, _, ⟨rfl, rfl⟩, hx⟩ := hx
  have hit : ∀ (m' : Nat), (yW2 w = 17484 ∧ ¬ yB2 w < 0 ∧ (q - p = 3 ∨ (q - p = 4 ∧ yT σ (q - 1).toNatClampNeg = 78))) → zF v5 d n 98 m' 111 [(7, .int (yB2 w)), (6, .int (yW2 w)), (5, .int a5), (3, .long w), (0, .ref 183), (1, .int p), (2, .int q)] [] (zH c0 σ) = some r → r = zOut c0 (.inl (some (.int (if yW2 w = 17484 ∧ ¬ yB2 w < 0 ∧ (q - p = 3 ∨ (q - p = 4 ∧ yT σ (q - 1).toNatClampNeg = 78)) then (if q - p = 3 then 8 else 16) + yB2 w + 640 else yO2 w (q - p))))) σ := by
    intro m' hc hx
    rw [if_pos hc]
    rcases zTr (C := nC98) (tb := []) h0 rfl rfl trivial (fun _ => false) 80 hx with ⟨h3, hx⟩ | ⟨h3, hx⟩
    · rw [if_neg (show ¬ q - p = 3 from cNeT h3)]
      exact hx
    · rw [if_pos (show q - p = 3 from cNeF h3)]
      exact hx
  have miss : ∀ (m' : Nat), ¬ (yW2 w = 17484 ∧ ¬ yB2 w < 0 ∧ (q - p = 3 ∨ (q - p = 4 ∧ yT σ (q - 1).toNatClampNeg = 78))) → zF v5 d n 98 m' 133 [(7, .int (yB2 w)), (6, .int (yW2 w)), (5, .int a5), (3, .long w), (0, .ref 183), (1, .int p), (2, .int q)] [] (zH c0 σ) = some r → r = zOut c0 (.inl (some (.int (if yW2 w = 17484 ∧ ¬ yB2 w < 0 ∧ (q - p = 3 ∨ (q - p = 4 ∧ yT σ (q - 1).toNatClampNeg = 78)) then (if q - p = 3 then 8 else 16) + yB2 w + 640 else yO2 w (q - p))))) σ := by
    intro m' hc hx
    rw [if_neg hc]
    exact z98_2 h0 hx
  rcases hx with ⟨h1, m', hm, hx⟩ | ⟨h1, ⟨h2, m', hm, hx⟩ | ⟨h2, ⟨h3, m', hm, hx⟩ | ⟨h3, ⟨h4, m', hm, hx⟩ | ⟨h4, -, ⟨h5, m', hm, hx⟩ | ⟨h5, m', hm, hx⟩⟩⟩⟩⟩
  · exact miss m' (fun h => cNeT h1 h.1) hx
  · exact miss m' (fun h => h.2.1 (cLtT h2)) hx
  · exact hit m' ⟨cNeF h1, cLtF h2, Or.inl (cEqT h3)⟩ hx
  · exact miss m' (fun h => h.2.2.elim (cEqF h3) (fun h => cNeT h4 h.1)) hx
  · exact miss m' (fun h => h.2.2.elim (cEqF h3) (fun h => cNeT h5 h.2)) hx
  · exact hit m' ⟨cNeF h1, cLtF h2, Or.inr ⟨cNeF h4, cNeF h5⟩⟩ hx
theorem z98_0 (h0 : zC0 c0) {d n m : Nat} {r : mO × mH} {σ : zS} {p q : Int32} {w : Int64} (hx : zF v5 d n 98 m 19 [(3, .long w), (0, .ref 183), (1, .int p), (2, .int q)] [] (zH c0 σ) = some r) : r = zOut c0 (.inl (some (.int (yOp w (q - p) (yT σ (q - 1).toNatClampNeg))))) σ := by
  replace hx := zTr (C := nC98) (tb := [(141, sp141), (142, sp142)]) h0 rfl rfl ⟨z141 h0, z142 h0, trivial⟩ (fun pc => pc.beq 41) 80 hx
  obtain ⟨_, _, ⟨rfl, rfl⟩, hx⟩ := hx
  have fin : ∀ (m' : Nat) (k : Int32), yN w = k → zF v5 d n 98 m' 41 [(5, .int k), (3, .long w), (0, .ref 183), (1, .int p), (2, .int q)] [] (zH c0 σ) = some r → r = zOut c0 (.inl (some (.int (yOp w (q - p) (yT σ (q - 1).toNatClampNeg))))) σ := by
    intro m' k hk hx
    unfold yOp
    rw [hk]
    rcases zTr (C := nC98) (tb := []) h0 rfl rfl trivial (fun pc => pc.beq 49) 80 hx with ⟨h3, m2, hm2, hx⟩ | ⟨h3, hx⟩
    · rw [if_neg (show ¬ ¬ k < 0 from fun h => h (cLtT h3))]
      exact z98_1 h0 hx
    · rw [if_pos (show ¬ k < 0 from cLtF h3)]
      exact hx
  rcases hx with ⟨h1, m', hm, hx⟩ | ⟨h1, _, _, ⟨rfl, rfl⟩, m', hm, hx⟩
  · refine fin m' (y1 w) ?_ hx
    unfold yN
    rw [if_neg (show ¬ y1 w < 0 from cGeT h1)]
  · refine fin m' (y2 w) ?_ hx
    unfold yN
    rw [if_pos (show y1 w < 0 from cGeF h1)]
theorem z98 (h0 : zC0 c0) : zSp c0 v5 98 sp98 := by
  intro d n as σ cs r hs hx
  unfold sp98 at hs
  split at hs
  · rename_i p q
    cases hs
    obtain ⟨d', hx⟩ := zGo hx
    rcases zTr (C := nC98) (tb := [(140, sp140)]) h0 rfl rfl ⟨z140 h0, trivial⟩ (fun pc => pc.beq 19) 80 hx with ⟨h1, m', hm, hx⟩ | ⟨h1, _, _, ⟨x, h2, rfl, rfl⟩, m', hm, hx⟩
    · refine ⟨_, _, ⟨0, fun _ => ?_, rfl, rfl⟩, z98_0 h0 hx⟩
      rw [if_neg (show ¬ q - p < 6 from cGeT h1)]
    · refine ⟨_, _, ⟨x, fun hp => ?_, rfl, rfl⟩, z98_0 h0 hx⟩
      rw [if_pos (show q - p < 6 from cGeF h1)]
      exact h2 hp
  · cases hs
end RF
