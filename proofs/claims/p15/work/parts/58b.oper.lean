/-! THE REFERENCE: its names of operations -/
def y1 (w : Int64) : Int32 := if w = 5263182 then 0 else if w = 4473921 then 641 else if w = 4347219 then 642 else if w = 5002573 then 643 else if w = 5654852 then 644 else if w = 5068110 then 8197 else if w = 1380010051 then 8325 else if w = 5524552 then 8453 else if w = 4279379 then 8198 else if w = 4280915 then 8326 else if w = 1480674387 then 8454 else if w = 1480675923 then 8582 else if w = 4410451 then 8710 else if w = 4411987 then 8838 else if w = 1163284301 then 135 else if w = 4871251 then 288 else -1
abbrev sp141 (as : List Value) (σ : zS) : Option zCs := match as with
  | [.long w] => some (zR σ (y1 w))
  | _ => none
def y2 (w : Int64) : Int32 := if w = 5919827 then 673 else if w = 1398096458 then 34 else if w = 4411209 then 35 else if w = 20041 then 36 else if w = 5526863 then 37 else if w = 1145393738 then 38 else if w = 5262666 then 8231 else if w = 4870986 then 8359 else if w = 5656394 then 8487 else if w = 1448037962 then 8615 else if w = 19530 then 8743 else if w = 17738 then 8871 else if w = 18250 then 8999 else if w = 4540234 then 9127 else if w = 4542026 then 9255 else if w = 4541514 then 9383 else if w = 5591365 then 100 else if w = 1195987535 then 101 else if w = 5132099 then 102 else if w = 4476485 then 103 else -1
abbrev sp142 (as : List Value) (σ : zS) : Option zCs := match as with
  | [.long w] => some (zR σ (y2 w))
  | _ => none
def y4 (w : Int64) : Int32 := if w = 78 then 0 else if w = 90 then 1 else if w = 80 then 2 else if w = 20046 then 3 else if w = 23118 then 4 else if w = 20558 then 5 else -1
abbrev sp144 (as : List Value) (σ : zS) : Option zCs := match as with
  | [.long w] => some (zR σ (y4 w))
  | _ => none
def yLt (c : Int32) : Int32 := if c = 65 then 0 else if c = 88 then 7 else if ¬ c < 49 ∧ ¬ 54 < c then c - 48 else -1
abbrev sp143 (as : List Value) (σ : zS) : Option zCs := match as with
  | [.int c] => some (zR σ (yLt c))
  | _ => none
section RF
variable {c0 : mH} {v5 : Value}
theorem z141 (h0 : zC0 c0) : zSp c0 v5 141 sp141 := by
  intro d n as σ cs r hs hx
  unfold sp141 at hs
  split at hs
  · rename_i w
    cases hs
    obtain ⟨d', hx⟩ := zGo hx
    refine ⟨_, _, ⟨rfl, rfl⟩, ?_⟩
    unfold y1
    replace hx := zTr (C := nC141) (tb := []) h0 rfl rfl trivial (fun _ => false) 200 hx
    rcases hx with ⟨g, hx⟩ | ⟨g, hx⟩
    · rw [if_neg (show ¬ w = 5263182 from lNeT g)]
      rcases hx with ⟨g, hx⟩ | ⟨g, hx⟩
      · rw [if_neg (show ¬ w = 4473921 from lNeT g)]
        rcases hx with ⟨g, hx⟩ | ⟨g, hx⟩
        · rw [if_neg (show ¬ w = 4347219 from lNeT g)]
          rcases hx with ⟨g, hx⟩ | ⟨g, hx⟩
          · rw [if_neg (show ¬ w = 5002573 from lNeT g)]
            rcases hx with ⟨g, hx⟩ | ⟨g, hx⟩
            · rw [if_neg (show ¬ w = 5654852 from lNeT g)]
              rcases hx with ⟨g, hx⟩ | ⟨g, hx⟩
              · rw [if_neg (show ¬ w = 5068110 from lNeT g)]
                rcases hx with ⟨g, hx⟩ | ⟨g, hx⟩
                · rw [if_neg (show ¬ w = 1380010051 from lNeT g)]
                  rcases hx with ⟨g, hx⟩ | ⟨g, hx⟩
                  · rw [if_neg (show ¬ w = 5524552 from lNeT g)]
                    rcases hx with ⟨g, hx⟩ | ⟨g, hx⟩
                    · rw [if_neg (show ¬ w = 4279379 from lNeT g)]
                      rcases hx with ⟨g, hx⟩ | ⟨g, hx⟩
                      · rw [if_neg (show ¬ w = 4280915 from lNeT g)]
                        rcases hx with ⟨g, hx⟩ | ⟨g, hx⟩
                        · rw [if_neg (show ¬ w = 1480674387 from lNeT g)]
                          rcases hx with ⟨g, hx⟩ | ⟨g, hx⟩
                          · rw [if_neg (show ¬ w = 1480675923 from lNeT g)]
                            rcases hx with ⟨g, hx⟩ | ⟨g, hx⟩
                            · rw [if_neg (show ¬ w = 4410451 from lNeT g)]
                              rcases hx with ⟨g, hx⟩ | ⟨g, hx⟩
                              · rw [if_neg (show ¬ w = 4411987 from lNeT g)]
                                rcases hx with ⟨g, hx⟩ | ⟨g, hx⟩
                                · rw [if_neg (show ¬ w = 1163284301 from lNeT g)]
                                  rcases hx with ⟨g, hx⟩ | ⟨g, hx⟩
                                  · rw [if_neg (show ¬ w = 4871251 from lNeT g)]
                                    exact hx
                                  · rw [if_pos (show w = 4871251 from lNeF g)]
                                    exact hx
                                · rw [if_pos (show w = 1163284301 from lNeF g)]
                                  exact hx
                              · rw [if_pos (show w = 4411987 from lNeF g)]
                                exact hx
                            · rw [if_pos (show w = 4410451 from lNeF g)]
                              exact hx
                          · rw [if_pos (show w = 1480675923 from lNeF g)]
                            exact hx
                        · rw [if_pos (show w = 1480674387 from lNeF g)]
                          exact hx
                      · rw [if_pos (show w = 4280915 from lNeF g)]
                        exact hx
                    · rw [if_pos (show w = 4279379 from lNeF g)]
                      exact hx
                  · rw [if_pos (show w = 5524552 from lNeF g)]
                    exact hx
                · rw [if_pos (show w = 1380010051 from lNeF g)]
                  exact hx
              · rw [if_pos (show w = 5068110 from lNeF g)]
                exact hx
            · rw [if_pos (show w = 5654852 from lNeF g)]
              exact hx
          · rw [if_pos (show w = 5002573 from lNeF g)]
            exact hx
        · rw [if_pos (show w = 4347219 from lNeF g)]
          exact hx
      · rw [if_pos (show w = 4473921 from lNeF g)]
        exact hx
    · rw [if_pos (show w = 5263182 from lNeF g)]
      exact hx
  · cases hs
theorem z142 (h0 : zC0 c0) : zSp c0 v5 142 sp142 := by
  intro d n as σ cs r hs hx
  unfold sp142 at hs
  split at hs
  · rename_i w
    cases hs
    obtain ⟨d', hx⟩ := zGo hx
    refine ⟨_, _, ⟨rfl, rfl⟩, ?_⟩
    unfold y2
    replace hx := zTr (C := nC142) (tb := []) h0 rfl rfl trivial (fun _ => false) 200 hx
    rcases hx with ⟨g, hx⟩ | ⟨g, hx⟩
    · rw [if_neg (show ¬ w = 5919827 from lNeT g)]
      rcases hx with ⟨g, hx⟩ | ⟨g, hx⟩
      · rw [if_neg (show ¬ w = 1398096458 from lNeT g)]
        rcases hx with ⟨g, hx⟩ | ⟨g, hx⟩
        · rw [if_neg (show ¬ w = 4411209 from lNeT g)]
          rcases hx with ⟨g, hx⟩ | ⟨g, hx⟩
          · rw [if_neg (show ¬ w = 20041 from lNeT g)]
            rcases hx with ⟨g, hx⟩ | ⟨g, hx⟩
            · rw [if_neg (show ¬ w = 5526863 from lNeT g)]
              rcases hx with ⟨g, hx⟩ | ⟨g, hx⟩
              · rw [if_neg (show ¬ w = 1145393738 from lNeT g)]
                rcases hx with ⟨g, hx⟩ | ⟨g, hx⟩
                · rw [if_neg (show ¬ w = 5262666 from lNeT g)]
                  rcases hx with ⟨g, hx⟩ | ⟨g, hx⟩
                  · rw [if_neg (show ¬ w = 4870986 from lNeT g)]
                    rcases hx with ⟨g, hx⟩ | ⟨g, hx⟩
                    · rw [if_neg (show ¬ w = 5656394 from lNeT g)]
                      rcases hx with ⟨g, hx⟩ | ⟨g, hx⟩
                      · rw [if_neg (show ¬ w = 1448037962 from lNeT g)]
                        rcases hx with ⟨g, hx⟩ | ⟨g, hx⟩
                        · rw [if_neg (show ¬ w = 19530 from lNeT g)]
                          rcases hx with ⟨g, hx⟩ | ⟨g, hx⟩
                          · rw [if_neg (show ¬ w = 17738 from lNeT g)]
                            rcases hx with ⟨g, hx⟩ | ⟨g, hx⟩
                            · rw [if_neg (show ¬ w = 18250 from lNeT g)]
                              rcases hx with ⟨g, hx⟩ | ⟨g, hx⟩
                              · rw [if_neg (show ¬ w = 4540234 from lNeT g)]
                                rcases hx with ⟨g, hx⟩ | ⟨g, hx⟩
                                · rw [if_neg (show ¬ w = 4542026 from lNeT g)]
                                  rcases hx with ⟨g, hx⟩ | ⟨g, hx⟩
                                  · rw [if_neg (show ¬ w = 4541514 from lNeT g)]
                                    rcases hx with ⟨g, hx⟩ | ⟨g, hx⟩
                                    · rw [if_neg (show ¬ w = 5591365 from lNeT g)]
                                      rcases hx with ⟨g, hx⟩ | ⟨g, hx⟩
                                      · rw [if_neg (show ¬ w = 1195987535 from lNeT g)]
                                        rcases hx with ⟨g, hx⟩ | ⟨g, hx⟩
                                        · rw [if_neg (show ¬ w = 5132099 from lNeT g)]
                                          rcases hx with ⟨g, hx⟩ | ⟨g, hx⟩
                                          · rw [if_neg (show ¬ w = 4476485 from lNeT g)]
                                            exact hx
                                          · rw [if_pos (show w = 4476485 from lNeF g)]
                                            exact hx
                                        · rw [if_pos (show w = 5132099 from lNeF g)]
                                          exact hx
                                      · rw [if_pos (show w = 1195987535 from lNeF g)]
                                        exact hx
                                    · rw [if_pos (show w = 5591365 from lNeF g)]
                                      exact hx
                                  · rw [if_pos (show w = 4541514 from lNeF g)]
                                    exact hx
                                · rw [if_pos (show w = 4542026 from lNeF g)]
                                  exact hx
                              · rw [if_pos (show w = 4540234 from lNeF g)]
                                exact hx
                            · rw [if_pos (show w = 18250 from lNeF g)]
                              exact hx
                          · rw [if_pos (show w = 17738 from lNeF g)]
                            exact hx
                        · rw [if_pos (show w = 19530 from lNeF g)]
                          exact hx
                      · rw [if_pos (show w = 1448037962 from lNeF g)]
                        exact hx
                    · rw [if_pos (show w = 5656394 from lNeF g)]
                      exact hx
                  · rw [if_pos (show w = 4870986 from lNeF g)]
                    exact hx
                · rw [if_pos (show w = 5262666 from lNeF g)]
                  exact hx
              · rw [if_pos (show w = 1145393738 from lNeF g)]
                exact hx
            · rw [if_pos (show w = 5526863 from lNeF g)]
              exact hx
          · rw [if_pos (show w = 20041 from lNeF g)]
            exact hx
        · rw [if_pos (show w = 4411209 from lNeF g)]
          exact hx
      · rw [if_pos (show w = 1398096458 from lNeF g)]
        exact hx
    · rw [if_pos (show w = 5919827 from lNeF g)]
      exact hx
  · cases hs
theorem z144 (h0 : zC0 c0) : zSp c0 v5 144 sp144 := by
  intro d n as σ cs r hs hx
  unfold sp144 at hs
  split at hs
  · rename_i w
    cases hs
    obtain ⟨d', hx⟩ := zGo hx
    refine ⟨_, _, ⟨rfl, rfl⟩, ?_⟩
    unfold y4
    replace hx := zTr (C := nC144) (tb := []) h0 rfl rfl trivial (fun _ => false) 200 hx
    rcases hx with ⟨g, hx⟩ | ⟨g, hx⟩
    · rw [if_neg (show ¬ w = 78 from lNeT g)]
      rcases hx with ⟨g, hx⟩ | ⟨g, hx⟩
      · rw [if_neg (show ¬ w = 90 from lNeT g)]
        rcases hx with ⟨g, hx⟩ | ⟨g, hx⟩
        · rw [if_neg (show ¬ w = 80 from lNeT g)]
          rcases hx with ⟨g, hx⟩ | ⟨g, hx⟩
          · rw [if_neg (show ¬ w = 20046 from lNeT g)]
            rcases hx with ⟨g, hx⟩ | ⟨g, hx⟩
            · rw [if_neg (show ¬ w = 23118 from lNeT g)]
              rcases hx with ⟨g, hx⟩ | ⟨g, hx⟩
              · rw [if_neg (show ¬ w = 20558 from lNeT g)]
                exact hx
              · rw [if_pos (show w = 20558 from lNeF g)]
                exact hx
            · rw [if_pos (show w = 23118 from lNeF g)]
              exact hx
          · rw [if_pos (show w = 20046 from lNeF g)]
            exact hx
        · rw [if_pos (show w = 80 from lNeF g)]
          exact hx
      · rw [if_pos (show w = 90 from lNeF g)]
        exact hx
    · rw [if_pos (show w = 78 from lNeF g)]
      exact hx
  · cases hs
theorem z143 (h0 : zC0 c0) : zSp c0 v5 143 sp143 := by
  intro d n as σ cs r hs hx
  unfold sp143 at hs
  split at hs
  · rename_i c
    cases hs
    obtain ⟨d', hx⟩ := zGo hx
    refine ⟨_, _, ⟨rfl, rfl⟩, ?_⟩
    unfold yLt
    rcases zTr (C := nC143) (tb := [(36, sp36)]) h0 rfl rfl ⟨z36 h0, trivial⟩ (fun _ => false) 60 hx with ⟨h1, ⟨h2, _, _, ⟨h3, rfl, rfl⟩ | ⟨h3, rfl, rfl⟩, hx⟩ | ⟨h2, hx⟩⟩ | ⟨h1, hx⟩
    · rw [if_neg (show ¬ c = 65 from cNeT h1), if_neg (show ¬ c = 88 from cNeT h2), if_pos (show ¬ c < 49 ∧ ¬ 54 < c from h3)]
      rcases hx with ⟨h, -⟩ | ⟨-, hx⟩
      · exact absurd (cEqT h) (by decide)
      · exact hx
    · rw [if_neg (show ¬ c = 65 from cNeT h1), if_neg (show ¬ c = 88 from cNeT h2), if_neg (show ¬ (¬ c < 49 ∧ ¬ 54 < c) from h3)]
      rcases hx with ⟨-, hx⟩ | ⟨h, -⟩
      · exact hx
      · exact absurd rfl (cEqF h)
    · rw [if_neg (show ¬ c = 65 from cNeT h1), if_pos (show c = 88 from cNeF h2)]
      exact hx
    · rw [if_pos (show c = 65 from cNeF h1)]
      exact hx
  · cases hs
end RF
