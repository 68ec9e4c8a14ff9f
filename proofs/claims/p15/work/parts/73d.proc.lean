/-! THE PROCESSOR, the class's: instructions of memory and jumps -/
section PD
variable {c0 : mH} {v5 : Value}
theorem z161 (h0 : zC0 c0) : zSp c0 v5 161 sp161 := by
  intro d n as σ cs r hs hx
  unfold sp161 at hs
  split at hs
  · cases hs
    obtain ⟨d', hx⟩ := zGo hx
    replace hx := zTr (C := nC161) (tb := [(197, sp197), (154, sp154), (207, sp207)]) h0 rfl rfl ⟨z197 h0, z154 h0, z207 h0, trivial⟩ (fun _ => false) 80 hx
    unfold cLoad
    obtain ⟨_, _, (⟨p1, rfl, rfl⟩ | ⟨p1, rfl, rfl⟩), hx⟩ := hx
    · rw [if_pos p1]
      rcases hx with ⟨h1, hx⟩ | ⟨h1, hx⟩
      · obtain ⟨_, _, _, ⟨rfl, rfl⟩, hx⟩ := hx
        rcases hx with ⟨h2, _, _, ⟨rfl, rfl⟩, hx⟩ | ⟨h2, _, _, ⟨rfl, rfl⟩, hx⟩
        · rw [if_neg (show ¬ pO σ < 16 from cGeT h2)]
          exact ⟨_, _, .inl ⟨_, rfl, rfl, rfl⟩, hx⟩
        · rw [if_pos (show pO σ < 16 from cGeF h2)]
          exact ⟨_, _, .inl ⟨_, rfl, rfl, rfl⟩, hx⟩
      · exact absurd (cNeF h1) (by decide)
    · rw [if_neg p1]
      rcases hx with ⟨h1, hx⟩ | ⟨h1, hx⟩
      · exact absurd rfl (cNeT h1)
      · exact ⟨_, _, .inr ⟨rfl, rfl, rfl⟩, hx⟩
  · cases hs
theorem z162 (h0 : zC0 c0) : zSp c0 v5 162 sp162 := by
  intro d n as σ cs r hs hx
  unfold sp162 at hs
  split at hs
  · cases hs
    obtain ⟨d', hx⟩ := zGo hx
    replace hx := zTr (C := nC162) (tb := [(197, sp197), (131, sp131)]) h0 rfl rfl ⟨z197 h0, z131 h0, trivial⟩ (fun _ => false) 80 hx
    unfold cStor
    obtain ⟨_, _, (⟨p1, rfl, rfl⟩ | ⟨p1, rfl, rfl⟩), hx⟩ := hx
    · rw [if_pos p1]
      rcases hx with ⟨h1, hx⟩ | ⟨h1, hx⟩
      · obtain ⟨_, hx⟩ := hx
        rcases hx with ⟨h2, _, _, ⟨rfl, rfl⟩, _, hx⟩ | ⟨h2, _, _, _, ⟨rfl, rfl⟩, _, hx⟩
        · rw [if_neg (show ¬ ¬ 8 < pO σ - 24 from fun q => q (cGtT h2))]
          exact ⟨_, _, .inl ⟨_, rfl, rfl, rfl⟩, hx⟩
        · rw [if_pos (show ¬ 8 < pO σ - 24 from cGtF h2)]
          exact ⟨_, _, .inl ⟨_, rfl, rfl, rfl⟩, hx⟩
      · exact absurd (cNeF h1) (by decide)
    · rw [if_neg p1]
      rcases hx with ⟨h1, hx⟩ | ⟨h1, hx⟩
      · exact absurd rfl (cNeT h1)
      · exact ⟨_, _, .inr ⟨rfl, rfl, rfl⟩, hx⟩
  · cases hs
/-- a jump with a question, as an outcome -/
theorem jIf_op {σ : zS} {t : Prop} [Decidable t] {o : zO} {σ' : zS} (h : jIf σ t o σ') : zOp σ (cJif σ t) o σ' := by
  unfold cJif
  rcases h with ⟨a, b⟩ | ⟨a, b, c⟩ | ⟨a, b, c⟩
  · rw [if_neg a]
    exact .inl ⟨_, rfl, b⟩
  · rw [if_pos a, if_pos b]
    exact .inl ⟨_, rfl, c⟩
  · rw [if_pos a, if_neg b]
    exact .inr ⟨rfl, c⟩
theorem jIf_iff {σ : zS} {t u : Prop} (e : t ↔ u) {o : zO} {σ' : zS} (h : jIf σ t o σ') : jIf σ u o σ' := by
  rcases h with ⟨a, b⟩ | ⟨a, b, c⟩ | ⟨a, b, c⟩
  · exact .inl ⟨fun q => a (e.mpr q), b⟩
  · exact .inr (.inl ⟨e.mp a, b, c⟩)
  · exact .inr (.inr ⟨e.mp a, b, c⟩)
theorem z164 (h0 : zC0 c0) : zSp c0 v5 164 sp164 := by
  intro d n as σ cs r hs hx
  unfold sp164 at hs
  split at hs
  · cases hs
    obtain ⟨d', hx⟩ := zGo hx
    replace hx := zTr (C := nC164) (tb := [(209, sp209), (210, sp210), (211, sp211), (212, sp212)]) h0 rfl rfl ⟨z209 h0, z210 h0, z211 h0, z212 h0, trivial⟩ (fun _ => false) 80 hx
    unfold cJump
    rcases hx with ⟨k1, hx⟩ | ⟨k1, ⟨k2, hx⟩ | ⟨k2, ⟨k3, hx⟩ | ⟨k3, ⟨k4, hx⟩ | ⟨k4, hx⟩⟩⟩⟩
    · rw [if_pos ((kEq _ 0).mpr k1)]
      obtain ⟨o, σ', q, hx⟩ := hx
      have q' := jIf_op (jIf_iff (u := True) ⟨fun _ => trivial, fun _ => by decide⟩ q)
      rcases q with ⟨a, rfl, rfl⟩ | ⟨a, b, rfl, rfl⟩ | ⟨a, b, rfl, rfl⟩
      · exact ⟨_, _, q', hx⟩
      · exact ⟨_, _, q', hx⟩
      · exact ⟨_, _, q', hx⟩
    · rw [if_neg (fun e => k1 ((kEq _ 0).mp e)), if_pos ((kEq _ 1).mpr k2)]
      obtain ⟨_, _, (⟨p, rfl, rfl⟩ | ⟨p, rfl, rfl⟩), hx⟩ := hx
      · rw [if_pos p]
        exact ⟨_, _, .inl ⟨_, rfl, rfl, rfl⟩, hx⟩
      · rw [if_neg p]
        exact ⟨_, _, .inr ⟨rfl, rfl, rfl⟩, hx⟩
    · rw [if_neg (fun e => k1 ((kEq _ 0).mp e)), if_neg (fun e => k2 ((kEq _ 1).mp e)), if_pos ((kEq _ 2).mpr k3)]
      unfold cJif
      obtain ⟨_, _, (⟨p, rfl, rfl⟩ | ⟨p, q, rfl, rfl⟩ | ⟨p, q, rfl, rfl⟩), hx⟩ := hx
      · rw [if_neg (show ¬ σ.1 7 3 = 1 from p)]
        exact ⟨_, _, .inl ⟨_, rfl, rfl, rfl⟩, hx⟩
      · rw [if_pos (show σ.1 7 3 = 1 from p), if_pos (show zPlc (pA σ) from q)]
        exact ⟨_, _, .inl ⟨_, rfl, rfl, rfl⟩, hx⟩
      · rw [if_pos (show σ.1 7 3 = 1 from p), if_neg (show ¬ zPlc (pA σ) from q)]
        exact ⟨_, _, .inr ⟨rfl, rfl, rfl⟩, hx⟩
    · rw [if_neg (fun e => k1 ((kEq _ 0).mp e)), if_neg (fun e => k2 ((kEq _ 1).mp e)), if_neg (fun e => k3 ((kEq _ 2).mp e)), if_pos ((kEq _ 3).mpr k4)]
      unfold cJif
      obtain ⟨_, _, (⟨p, rfl, rfl⟩ | ⟨p, q, rfl, rfl⟩ | ⟨p, q, rfl, rfl⟩), hx⟩ := hx
      · rw [if_neg (show ¬ σ.1 7 3 = 0 from p)]
        exact ⟨_, _, .inl ⟨_, rfl, rfl, rfl⟩, hx⟩
      · rw [if_pos (show σ.1 7 3 = 0 from p), if_pos (show zPlc (pA σ) from q)]
        exact ⟨_, _, .inl ⟨_, rfl, rfl, rfl⟩, hx⟩
      · rw [if_pos (show σ.1 7 3 = 0 from p), if_neg (show ¬ zPlc (pA σ) from q)]
        exact ⟨_, _, .inr ⟨rfl, rfl, rfl⟩, hx⟩
    · rw [if_neg (fun e => k1 ((kEq _ 0).mp e)), if_neg (fun e => k2 ((kEq _ 1).mp e)), if_neg (fun e => k3 ((kEq _ 2).mp e)), if_neg (fun e => k4 ((kEq _ 3).mp e))]
      rcases hx with ⟨h1, hx⟩ | ⟨h1, hx⟩
      · rw [if_neg (show ¬ ¬ 9 < pF σ from fun q => q (cGtT h1))]
        exact ⟨_, _, .inr ⟨rfl, rfl, rfl⟩, hx⟩
      · rw [if_pos (show ¬ 9 < pF σ from cGtF h1)]
        unfold cJif
        obtain ⟨_, _, (⟨p, rfl, rfl⟩ | ⟨p, rfl, rfl⟩), hx⟩ := hx
        · rw [if_pos (show zHo (pF σ - 4) (σ.1 7 4) from p)]
          obtain ⟨_, _, (⟨a, rfl, rfl⟩ | ⟨a, b, rfl, rfl⟩ | ⟨a, b, rfl, rfl⟩), hx⟩ := hx
          · exact absurd (by decide) a
          · rw [if_pos (show zPlc (pA σ) from b)]
            rcases hx with ⟨h2, hx⟩ | ⟨h2, hx⟩
            · exact absurd (cEqT h2) (by decide)
            · exact ⟨_, _, .inl ⟨_, rfl, rfl, rfl⟩, hx⟩
          · rw [if_neg (show ¬ zPlc (pA σ) from b)]
            rcases hx with ⟨h2, hx⟩ | ⟨h2, hx⟩
            · exact ⟨_, _, .inr ⟨rfl, rfl, rfl⟩, hx⟩
            · exact absurd rfl (cEqF h2)
        · rw [if_neg (show ¬ zHo (pF σ - 4) (σ.1 7 4) from p)]
          obtain ⟨_, _, (⟨a, rfl, rfl⟩ | ⟨a, b, rfl, rfl⟩ | ⟨a, b, rfl, rfl⟩), hx⟩ := hx
          · rcases hx with ⟨h2, hx⟩ | ⟨h2, hx⟩
            · exact absurd (cEqT h2) (by decide)
            · exact ⟨_, _, .inl ⟨_, rfl, rfl, rfl⟩, hx⟩
          · exact absurd rfl a
          · exact absurd rfl a
  · cases hs
theorem z165 (h0 : zC0 c0) : zSp c0 v5 165 sp165 := by
  intro d n as σ cs r hs hx
  unfold sp165 at hs
  split at hs
  · cases hs
    obtain ⟨d', hx⟩ := zGo hx
    replace hx := zTr (C := nC165) (tb := [(136, sp136), (209, sp209), (212, sp212)]) h0 rfl rfl ⟨z136 h0, z209 h0, z212 h0, trivial⟩ (fun _ => false) 80 hx
    unfold cJreg
    rcases hx with ⟨h1, hx⟩ | ⟨h1, hx⟩
    · rw [if_neg (show ¬ ¬ 5 < pF σ from fun q => q (cGtT h1))]
      exact ⟨_, _, .inr ⟨rfl, rfl, rfl⟩, hx⟩
    · rw [if_pos (show ¬ 5 < pF σ from cGtF h1)]
      obtain ⟨_, _, _, ⟨rfl, rfl⟩, hx⟩ := hx
      unfold cJif
      obtain ⟨_, _, (⟨p, rfl, rfl⟩ | ⟨p, rfl, rfl⟩), hx⟩ := hx
      · rw [if_pos (show zHo (pF σ) (zVal (pR σ (pO σ - 40).toNatClampNeg)) from p)]
        obtain ⟨_, _, (⟨a, rfl, rfl⟩ | ⟨a, b, rfl, rfl⟩ | ⟨a, b, rfl, rfl⟩), hx⟩ := hx
        · exact absurd (by decide) a
        · rw [if_pos (show zPlc (pA σ) from b)]
          rcases hx with ⟨h2, hx⟩ | ⟨h2, hx⟩
          · exact absurd (cEqT h2) (by decide)
          · exact ⟨_, _, .inl ⟨_, rfl, rfl, rfl⟩, hx⟩
        · rw [if_neg (show ¬ zPlc (pA σ) from b)]
          rcases hx with ⟨h2, hx⟩ | ⟨h2, hx⟩
          · exact ⟨_, _, .inr ⟨rfl, rfl, rfl⟩, hx⟩
          · exact absurd rfl (cEqF h2)
      · rw [if_neg (show ¬ zHo (pF σ) (zVal (pR σ (pO σ - 40).toNatClampNeg)) from p)]
        obtain ⟨_, _, (⟨a, rfl, rfl⟩ | ⟨a, b, rfl, rfl⟩ | ⟨a, b, rfl, rfl⟩), hx⟩ := hx
        · rcases hx with ⟨h2, hx⟩ | ⟨h2, hx⟩
          · exact absurd (cEqT h2) (by decide)
          · exact ⟨_, _, .inl ⟨_, rfl, rfl, rfl⟩, hx⟩
        · exact absurd rfl a
        · exact absurd rfl a
  · cases hs
theorem z166 (h0 : zC0 c0) : zSp c0 v5 166 sp166 := by
  intro d n as σ cs r hs hx
  unfold sp166 at hs
  split at hs
  · cases hs
    obtain ⟨d', hx⟩ := zGo hx
    replace hx := zTr (C := nC166) (tb := [(198, sp198), (207, sp207)]) h0 rfl rfl ⟨z198 h0, z207 h0, trivial⟩ (fun _ => false) 80 hx
    unfold cChg
    rcases hx with ⟨k1, _, _, ⟨rfl, rfl⟩, hx⟩ | ⟨k1, ⟨k2, _, _, ⟨rfl, rfl⟩, hx⟩ | ⟨k2, ⟨k3, _, _, ⟨rfl, rfl⟩, hx⟩ | ⟨k3, ⟨k4, _, _, ⟨rfl, rfl⟩, hx⟩ | ⟨k4, hx⟩⟩⟩⟩
    · rw [if_pos ((kEq _ 0).mpr k1)]
      exact ⟨_, _, .inl ⟨_, rfl, rfl, rfl⟩, hx⟩
    · rw [if_neg (fun e => k1 ((kEq _ 0).mp e)), if_pos ((kEq _ 1).mpr k2)]
      exact ⟨_, _, .inl ⟨_, rfl, rfl, rfl⟩, hx⟩
    · rw [if_neg (fun e => k1 ((kEq _ 0).mp e)), if_neg (fun e => k2 ((kEq _ 1).mp e)), if_pos ((kEq _ 2).mpr k3)]
      exact ⟨_, _, .inl ⟨_, rfl, rfl, rfl⟩, hx⟩
    · rw [if_neg (fun e => k1 ((kEq _ 0).mp e)), if_neg (fun e => k2 ((kEq _ 1).mp e)), if_neg (fun e => k3 ((kEq _ 2).mp e)), if_pos ((kEq _ 3).mpr k4)]
      exact ⟨_, _, .inl ⟨_, rfl, rfl, rfl⟩, hx⟩
    · rw [if_neg (fun e => k1 ((kEq _ 0).mp e)), if_neg (fun e => k2 ((kEq _ 1).mp e)), if_neg (fun e => k3 ((kEq _ 2).mp e)), if_neg (fun e => k4 ((kEq _ 3).mp e))]
      exact ⟨_, _, .inr ⟨rfl, rfl, rfl⟩, hx⟩
  · cases hs
theorem z167 (h0 : zC0 c0) : zSp c0 v5 167 sp167 := by
  intro d n as σ cs r hs hx
  unfold sp167 at hs
  split at hs
  · cases hs
    obtain ⟨d', hx⟩ := zGo hx
    replace hx := zTr (C := nC167) (tb := [(197, sp197), (154, sp154), (136, sp136), (213, sp213)]) h0 rfl rfl ⟨z197 h0, z154 h0, z136 h0, z213 h0, trivial⟩ (fun _ => false) 80 hx
    unfold cCmp
    obtain ⟨_, _, (⟨p1, rfl, rfl⟩ | ⟨p1, rfl, rfl⟩), hx⟩ := hx
    · rw [if_pos p1]
      rcases hx with ⟨h1, hx⟩ | ⟨h1, hx⟩
      · obtain ⟨_, _, _, ⟨rfl, rfl⟩, _, _, ⟨rfl, rfl⟩, _, _, _, ⟨rfl, rfl⟩, _, _, ⟨rfl, rfl⟩, _, _, ⟨rfl, rfl⟩, hx⟩ := hx
        exact ⟨_, _, .inl ⟨_, rfl, rfl, rfl⟩, hx⟩
      · exact absurd (cNeF h1) (by decide)
    · rw [if_neg p1]
      rcases hx with ⟨h1, hx⟩ | ⟨h1, hx⟩
      · exact absurd rfl (cNeT h1)
      · exact ⟨_, _, .inr ⟨rfl, rfl, rfl⟩, hx⟩
  · cases hs
end PD
