/-! KINDS OF NAMES, SYMBOLS -/
section LC
variable {x y : Int64}
theorem lc_eq (x y : Int64) : mCnd .eq (lg_cmp x y) 0 = decide (x = y) := by
  rw [cEq]
  exact decide_eq_decide.mpr Int64.toInt_inj
theorem lc_ne (x y : Int64) : mCnd .ne (lg_cmp x y) 0 = decide (¬ x = y) := by
  have h := lc_eq x y
  have h : decide (lg_cmp x y = 0) = decide (x = y) := h
  show decide (¬ lg_cmp x y = 0) = _
  rw [decide_not, h, decide_not]
theorem lNeT (h : mCnd .ne (lg_cmp x y) 0 = true) : ¬ x = y := of_decide_eq_true ((lc_ne x y).symm.trans h)
theorem lNeF (h : mCnd .ne (lg_cmp x y) 0 = false) : x = y := Decidable.not_not.mp (of_decide_eq_false ((lc_ne x y).symm.trans h))
theorem lLtT (h : mCnd .lt (lg_cmp x y) 0 = true) : x.toInt < y.toInt := of_decide_eq_true ((cLt x y).symm.trans h)
theorem lLtF (h : mCnd .lt (lg_cmp x y) 0 = false) : ¬ x.toInt < y.toInt := of_decide_eq_false ((cLt x y).symm.trans h)
theorem lLeT (h : mCnd .le (lg_cmp x y) 0 = true) : x.toInt ≤ y.toInt := of_decide_eq_true ((cLe x y).symm.trans h)
theorem lLeF (h : mCnd .le (lg_cmp x y) 0 = false) : ¬ x.toInt ≤ y.toInt := of_decide_eq_false ((cLe x y).symm.trans h)
theorem lGeT (h : mCnd .ge (lg_cmp x y) 0 = true) : ¬ x.toInt < y.toInt := fun h' => cGeT h (by
  have := (cLt x y).trans (decide_eq_true h')
  exact cLtT this)
theorem lGeF (h : mCnd .ge (lg_cmp x y) 0 = false) : x.toInt < y.toInt := Decidable.byContradiction fun h' => by
  have := (cLt x y).trans (decide_eq_false h')
  exact cLtF this (cGeF h)
theorem lGtT (h : mCnd .gt (lg_cmp x y) 0 = true) : ¬ x.toInt ≤ y.toInt := fun h' => by
  have := (cLe x y).trans (decide_eq_true h')
  exact cLeT this (cGtT h)
theorem lGtF (h : mCnd .gt (lg_cmp x y) 0 = false) : x.toInt ≤ y.toInt := Decidable.byContradiction fun h' => by
  have := (cLe x y).trans (decide_eq_false h')
  exact cGtF h (cLeF this)
end LC
/-- the second character -/
def zN1 (nm : Int64) : Int32 := (nm >>> ((Int8.ofInt 8).toInt32.toInt64 &&& 63)).toInt32
/-- the kind of a name, of its packed characters, their number, the capitals -/
def zKf (nm : Int64) (ln cp : Int32) : Int32 := if cp = 0 then (if ¬ ln < 1 ∧ ¬ 9 < ln then 1 else 0) else if ln = 2 ∧ cp = 1 then (if zN1 nm = 66 then 4 else if zN1 nm = 70 then 5 else if zN1 nm = 72 then 3 else 2) else if ¬ 6 < ln then 2 else 0
abbrev sp121 (as : List Value) (σ : zS) : Option zCs := match as with
  | [.ref 167] => some (zR σ (zKf (σ.2.1 9 6) (σ.1 9 7) (σ.1 9 8)))
  | _ => none
/-- where a name is among the first e, or e -/
abbrev zFi (N : Nat → Int64) (nm : Int64) (e : Int32) (i : Int32) : Int32 := zSc (fun k => !decide (N k.toNatClampNeg = nm)) e i
def zLk (N : Nat → Int64) (V : Nat → Int32) (e : Int32) (nm : Int64) : Int32 := if zFi N nm e 0 < e then V (zFi N nm e 0).toNatClampNeg else -1
abbrev sp68 (as : List Value) (σ : zS) : Option zCs := match as with
  | [.ref 170, .long nm] => some (zR σ (zLk (σ.2.2.2.1 13) (σ.2.2.1 14) (σ.1 12 2) nm))
  | [.ref 173, .long nm] => some (zR σ (zLk (σ.2.2.2.1 16) (σ.2.2.1 17) (σ.1 15 2) nm))
  | _ => none
/-- one more symbol -/
def zNew (σ : zS) (nm : Int64) : zS := zI (zA (zB σ 13 (vp_updL (σ.2.2.2.1 13) (σ.1 12 2).toNatClampNeg nm)) 14 (upd (σ.2.2.1 14) (σ.1 12 2).toNatClampNeg (-1))) 12 2 (σ.1 12 2 + 1)
abbrev sp182 (as : List Value) (σ : zS) : Option zCs := match as with
  | [.ref 170, .long nm] => some (fun o σ' => (zFi (σ.2.2.2.1 13) nm (σ.1 12 2) 0 < σ.1 12 2 ∧ zR σ (zFi (σ.2.2.2.1 13) nm (σ.1 12 2) 0) o σ') ∨ (¬ zFi (σ.2.2.2.1 13) nm (σ.1 12 2) 0 < σ.1 12 2 ∧ ¬ σ.1 12 2 < 30 ∧ zR σ (-1) o σ') ∨ (¬ zFi (σ.2.2.2.1 13) nm (σ.1 12 2) 0 < σ.1 12 2 ∧ σ.1 12 2 < 30 ∧ 0 ≤ (σ.1 12 2).toInt ∧ zR (zNew σ nm) (σ.1 12 2) o σ'))
  | _ => none
theorem zIn' {i : Int32} {n : Nat} (h : mIn i n = true) : 0 ≤ i.toInt ∧ i.toInt < n := ⟨(zIn h).1, (zIn h).2.1⟩
section TX
variable {c0 : mH} {v5 : Value}
theorem z121 (h0 : zC0 c0) : zSp c0 v5 121 sp121 := by
  intro d n as σ cs r hs hx
  unfold sp121 at hs
  split at hs
  · cases hs
    obtain ⟨d', hx⟩ := zGo hx
    have hx := zTr (C := nC121) (tb := []) h0 rfl rfl trivial (fun pc => pc.beq 96) 60 hx
    refine ⟨_, _, ⟨rfl, rfl⟩, ?_⟩
    unfold zKf
    have wh : ∀ (m' : Nat) (h1 : ¬ σ.1 9 8 = 0) (h2 : ¬ (σ.1 9 7 = 2 ∧ σ.1 9 8 = 1)), zF v5 d' n 121 m' 96 [(0, .ref 167)] [] (zH c0 σ) = some r → r = zOut c0 (.inl (some (.int (if σ.1 9 8 = 0 then (if ¬ σ.1 9 7 < 1 ∧ ¬ 9 < σ.1 9 7 then 1 else 0) else if σ.1 9 7 = 2 ∧ σ.1 9 8 = 1 then (if zN1 (σ.2.1 9 6) = 66 then 4 else if zN1 (σ.2.1 9 6) = 70 then 5 else if zN1 (σ.2.1 9 6) = 72 then 3 else 2) else if ¬ 6 < σ.1 9 7 then 2 else 0)))) σ := by
      intro m' h1 h2 hx
      have hx := zTr (C := nC121) (tb := []) h0 rfl rfl trivial (fun _ => false) 60 hx
      rw [if_neg h1, if_neg h2]
      rcases hx with ⟨h, hx⟩ | ⟨h, hx⟩
      · rw [if_neg (show ¬ ¬ 6 < σ.1 9 7 from fun hh => hh (cGtT h))]; exact hx
      · rw [if_pos (show ¬ 6 < σ.1 9 7 from cGtF h)]; exact hx
    rcases hx with ⟨h1, hx⟩ | ⟨h1, hx⟩
    · have h1 : ¬ σ.1 9 8 = 0 := cNeT h1
      rcases hx with ⟨h2, m', hm, hx⟩ | ⟨h2, ⟨h3, m', hm, hx⟩ | ⟨h3, hx⟩⟩
      · exact wh m' h1 (fun h => cNeT h2 h.1) hx
      · exact wh m' h1 (fun h => cNeT h3 h.2) hx
      · rw [if_neg h1, if_pos (show σ.1 9 7 = 2 ∧ σ.1 9 8 = 1 from ⟨cNeF h2, cNeF h3⟩)]
        have key : ∀ (k : Int32), zN1 (σ.2.1 9 6) = k ↔ k.toInt = (zN1 (σ.2.1 9 6)).toInt := fun k => ⟨fun h => by rw [h], fun h => (Int32.toInt_inj.mp h).symm⟩
        rcases hx with ⟨h4, hx⟩ | ⟨h4, ⟨h5, hx⟩ | ⟨h5, ⟨h6, hx⟩ | ⟨h6, hx⟩⟩⟩
        · rw [if_pos ((key 66).mpr h4)]; exact hx
        · rw [if_neg (fun h => h4 ((key 66).mp h)), if_pos ((key 70).mpr h5)]; exact hx
        · rw [if_neg (fun h => h4 ((key 66).mp h)), if_neg (fun h => h5 ((key 70).mp h)), if_pos ((key 72).mpr h6)]; exact hx
        · rw [if_neg (fun h => h4 ((key 66).mp h)), if_neg (fun h => h5 ((key 70).mp h)), if_neg (fun h => h6 ((key 72).mp h))]; exact hx
    · rw [if_pos (show σ.1 9 8 = 0 from cNeF h1)]
      rcases hx with ⟨h2, hx⟩ | ⟨h2, ⟨h3, hx⟩ | ⟨h3, hx⟩⟩
      · rw [if_neg (show ¬ (¬ σ.1 9 7 < 1 ∧ ¬ 9 < σ.1 9 7) from fun h => h.1 (cLtT h2))]; exact hx
      · rw [if_neg (show ¬ (¬ σ.1 9 7 < 1 ∧ ¬ 9 < σ.1 9 7) from fun h => h.2 (cGtT h3))]; exact hx
      · rw [if_pos (show ¬ σ.1 9 7 < 1 ∧ ¬ 9 < σ.1 9 7 from ⟨cLtF h2, cGtF h3⟩)]; exact hx
  · cases hs
theorem z68_l (h0 : zC0 c0) {d n : Nat} {r : mO × mH} {σ : zS} {nm : Int64} : ∀ (m : Nat) (i : Int32), zF v5 d n 68 m 2 [(3, .int i), (0, .ref 170), (1, .long nm)] [] (zH c0 σ) = some r → r = zOut c0 (.inl (some (.int (if zFi (σ.2.2.2.1 13) nm (σ.1 12 2) i < σ.1 12 2 then (σ.2.2.1 14) (zFi (σ.2.2.2.1 13) nm (σ.1 12 2) i).toNatClampNeg else -1)))) σ := by
  intro m
  induction m using Nat.strongRecOn with
  | ind m ih =>
    intro i hx
    have hx := zTr (C := nC68) (tb := []) h0 rfl rfl trivial (fun pc => pc.beq 2) 40 hx
    rcases hx with ⟨h1, hx⟩ | ⟨h1, h2, ⟨h3, m', hm, hx⟩ | ⟨h3, h4, hx⟩⟩
    · unfold zFi
      rw [zSc_stop (fun h => cGeT h1 h.1), if_neg (show ¬ i < σ.1 12 2 from cGeT h1)]
      exact hx
    · unfold zFi
      rw [zSc_go (cGeF h1) (by rw [Bool.not_eq_true']; exact decide_eq_false (lNeT h3))]
      exact ih m' (by omega) _ hx
    · unfold zFi
      rw [zSc_stop (fun h => by have := h.2; rw [Bool.not_eq_true'] at this; exact of_decide_eq_false this (lNeF h3)), if_pos (show i < σ.1 12 2 from cGeF h1)]
      exact hx
theorem z68_m (h0 : zC0 c0) {d n : Nat} {r : mO × mH} {σ : zS} {nm : Int64} : ∀ (m : Nat) (i : Int32), zF v5 d n 68 m 2 [(3, .int i), (0, .ref 173), (1, .long nm)] [] (zH c0 σ) = some r → r = zOut c0 (.inl (some (.int (if zFi (σ.2.2.2.1 16) nm (σ.1 15 2) i < σ.1 15 2 then (σ.2.2.1 17) (zFi (σ.2.2.2.1 16) nm (σ.1 15 2) i).toNatClampNeg else -1)))) σ := by
  intro m
  induction m using Nat.strongRecOn with
  | ind m ih =>
    intro i hx
    have hx := zTr (C := nC68) (tb := []) h0 rfl rfl trivial (fun pc => pc.beq 2) 40 hx
    rcases hx with ⟨h1, hx⟩ | ⟨h1, h2, ⟨h3, m', hm, hx⟩ | ⟨h3, h4, hx⟩⟩
    · unfold zFi
      rw [zSc_stop (fun h => cGeT h1 h.1), if_neg (show ¬ i < σ.1 15 2 from cGeT h1)]
      exact hx
    · unfold zFi
      rw [zSc_go (cGeF h1) (by rw [Bool.not_eq_true']; exact decide_eq_false (lNeT h3))]
      exact ih m' (by omega) _ hx
    · unfold zFi
      rw [zSc_stop (fun h => by have := h.2; rw [Bool.not_eq_true'] at this; exact of_decide_eq_false this (lNeF h3)), if_pos (show i < σ.1 15 2 from cGeF h1)]
      exact hx
theorem z68 (h0 : zC0 c0) : zSp c0 v5 68 sp68 := by
  intro d n as σ cs r hs hx
  unfold sp68 at hs
  split at hs
  · cases hs
    obtain ⟨d', hx⟩ := zGo hx
    obtain ⟨m', hm, hx⟩ := zTr (C := nC68) (tb := []) h0 rfl rfl trivial (fun pc => pc.beq 2) 40 hx
    exact ⟨_, _, ⟨rfl, rfl⟩, z68_l h0 m' 0 hx⟩
  · cases hs
    obtain ⟨d', hx⟩ := zGo hx
    obtain ⟨m', hm, hx⟩ := zTr (C := nC68) (tb := []) h0 rfl rfl trivial (fun pc => pc.beq 2) 40 hx
    exact ⟨_, _, ⟨rfl, rfl⟩, z68_m h0 m' 0 hx⟩
  · cases hs
theorem z182_l (h0 : zC0 c0) {d n : Nat} {r : mO × mH} {σ : zS} {nm : Int64} : ∀ (m : Nat) (i : Int32), zF v5 d n 182 m 2 [(3, .int i), (0, .ref 170), (1, .long nm)] [] (zH c0 σ) = some r → ∃ o σ', ((zFi (σ.2.2.2.1 13) nm (σ.1 12 2) i < σ.1 12 2 ∧ zR σ (zFi (σ.2.2.2.1 13) nm (σ.1 12 2) i) o σ') ∨ (¬ zFi (σ.2.2.2.1 13) nm (σ.1 12 2) i < σ.1 12 2 ∧ ¬ σ.1 12 2 < 30 ∧ zR σ (-1) o σ') ∨ (¬ zFi (σ.2.2.2.1 13) nm (σ.1 12 2) i < σ.1 12 2 ∧ σ.1 12 2 < 30 ∧ 0 ≤ (σ.1 12 2).toInt ∧ zR (zNew σ nm) (σ.1 12 2) o σ')) ∧ r = zOut c0 o σ' := by
  intro m
  induction m using Nat.strongRecOn with
  | ind m ih =>
    intro i hx
    have hx := zTr (C := nC182) (tb := []) h0 rfl rfl trivial (fun pc => pc.beq 2) 60 hx
    rcases hx with ⟨h1, hx⟩ | ⟨h1, h2, ⟨h3, m', hm, hx⟩ | ⟨h3, hx⟩⟩
    · unfold zFi
      rw [zSc_stop (fun h => cGeT h1 h.1)]
      rcases hx with ⟨h2, h3, h4, hx⟩ | ⟨h2, hx⟩
      · refine ⟨_, _, Or.inr (Or.inr ⟨cGeT h1, cLtT h2, (zIn' h3).1, rfl, rfl⟩), ?_⟩
        rw [← Int32.add_sub_cancel (σ.1 12 2) 1]
        exact hx
      · exact ⟨_, _, Or.inr (Or.inl ⟨cGeT h1, cLtF h2, rfl, rfl⟩), hx⟩
    · unfold zFi
      rw [zSc_go (cGeF h1) (by rw [Bool.not_eq_true']; exact decide_eq_false (lNeT h3))]
      exact ih m' (by omega) _ hx
    · unfold zFi
      rw [zSc_stop (fun h => by have := h.2; rw [Bool.not_eq_true'] at this; exact of_decide_eq_false this (lNeF h3))]
      exact ⟨_, _, Or.inl ⟨cGeF h1, rfl, rfl⟩, hx⟩
theorem z182 (h0 : zC0 c0) : zSp c0 v5 182 sp182 := by
  intro d n as σ cs r hs hx
  unfold sp182 at hs
  split at hs
  · cases hs
    obtain ⟨d', hx⟩ := zGo hx
    obtain ⟨m', hm, hx⟩ := zTr (C := nC182) (tb := []) h0 rfl rfl trivial (fun pc => pc.beq 2) 60 hx
    exact z182_l h0 m' 0 hx
  · cases hs
end TX
