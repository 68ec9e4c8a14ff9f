/-! THE REFERENCE: names and symbols -/
abbrev yNm (τ : zS) (p q : Int32) : Int64 := zPk (yT τ) p (min (zDn p q) 8)
abbrev sp140 (as : List Value) (σ : zS) : Option zCs := match as with
  | [.ref 183, .int p, .int q] => some (fun o σ' => ∃ x, (p.toInt ≤ 1000 → x = yNm σ p q) ∧ zRl σ x o σ')
  | _ => none
def yLast (N : Nat → Int64) (nm : Int64) : Nat → Nat → Int32 → Int32
  | 0, _, f => f
  | k + 1, i, f => yLast N nm k (i + 1) (if N i = nm then Int32.ofNat i else f)
abbrev yFd (τ : zS) (nm : Int64) : Int32 := yLast (τ.2.2.2.1 35) nm (yCn τ).toInt.toNat 0 (-1)
abbrev sp145 (as : List Value) (σ : zS) : Option zCs := match as with
  | [.ref 183, .long nm] => some (zR σ (yFd σ nm))
  | _ => none
def zDb (c : Int32) : Bool := decide (¬ c < 48 ∧ ¬ 57 < c)
/-- whether one of the first n is no digit -/
def yCap (T : Nat → Int32) (p : Int32) : Nat → Bool
  | 0 => false
  | n + 1 => yCap T p n || !zDb (zChr T p n)
abbrev yIs (T : Nat → Int32) (p q : Int32) : Prop := yCap T p (zDn p q) = true ∧ q - p < 7 ∧ ¬ zLoc T p q 72 ∧ ¬ zLoc T p q 66 ∧ ¬ zLoc T p q 70
abbrev sp99 (as : List Value) (σ : zS) : Option zCs := match as with
  | [.ref 183, .int p, .int q] => some (fun o σ' => (yIs (yT σ) p q ∧ zR σ 1 o σ') ∨ (¬ yIs (yT σ) p q ∧ zR σ 0 o σ'))
  | _ => none
abbrev yNew (τ : zS) (nm : Int64) : zS := zI (zA (zB τ 35 (vp_updL (τ.2.2.2.1 35) (yCn τ).toNatClampNeg nm)) 36 (upd (τ.2.2.1 36) (yCn τ).toNatClampNeg (vp_nar .boolean 0))) 25 29 (yCn τ + 1)
abbrev sp100 (as : List Value) (σ : zS) : Option zCs := match as with
  | [.ref 183, .int p, .int q] => some (fun o σ' => ∃ nm, (p.toInt ≤ 1000 → nm = yNm σ p q) ∧ ((¬ yFd σ nm < 0 ∧ zR σ (yFd σ nm) o σ') ∨ (yFd σ nm < 0 ∧ yCn σ = 30 ∧ zR (zI σ 25 23 1) 0 o σ') ∨ (yFd σ nm < 0 ∧ ¬ yCn σ = 30 ∧ (0 ≤ (yCn σ).toInt ∧ (yCn σ).toInt < 30) ∧ ∃ nm', (p.toInt ≤ 1000 → nm' = nm) ∧ zR (yNew σ nm') (yCn σ) o σ')))
  | _ => none
section RF
variable {c0 : mH} {v5 : Value}
theorem z64_l (h0 : zC0 c0) {d n : Nat} {r : mO × mH} {σ : zS} {p e : Int32} : ∀ (m : Nat) (i : Int32), zF v5 d n 64 m 2 [(3, .int i), (0, .ref 183), (1, .int p), (2, .int e)] [] (zH c0 σ) = some r → r = zOut c0 (.inl (some (.int (zSkip (yT σ) e i)))) σ := by
  intro m
  induction m using Nat.strongRecOn with
  | ind m ih =>
    intro i hx
    unfold zSkip
    replace hx := zTr (C := nC64) (tb := []) h0 rfl rfl trivial (fun pc => pc.beq 2) 40 hx
    rcases hx with ⟨h1, hx⟩ | ⟨h1, h2, ⟨h3, hx⟩ | ⟨h3, m', hm, hx⟩⟩
    · rw [zSc_stop (fun h => cGeT h1 h.1)]
      exact hx
    · rw [zSc_stop (p := fun k => decide (yT σ k.toNatClampNeg = 32)) (e := e) (a := i) (fun h => cNeT h3 (of_decide_eq_true h.2))]
      exact hx
    · rw [zSc_go (p := fun k => decide (yT σ k.toNatClampNeg = 32)) (e := e) (a := i) (cGeF h1) (decide_eq_true (cNeF h3))]
      exact ih m' (by omega) _ hx
theorem z64 (h0 : zC0 c0) : zSp c0 v5 64 sp64 := by
  intro d n as σ cs r hs hx
  unfold sp64 at hs
  split at hs
  · cases hs
    obtain ⟨d', hx⟩ := zGo hx
    obtain ⟨m', hm, hx⟩ := zTr (C := nC64) (tb := []) h0 rfl rfl trivial (fun pc => pc.beq 2) 40 hx
    exact ⟨_, _, ⟨rfl, rfl⟩, z64_l h0 m' _ hx⟩
  · cases hs
theorem z65_l (h0 : zC0 c0) {d n : Nat} {r : mO × mH} {σ : zS} {p e : Int32} : ∀ (m : Nat) (i : Int32), zF v5 d n 65 m 2 [(3, .int i), (0, .ref 183), (1, .int p), (2, .int e)] [] (zH c0 σ) = some r → r = zOut c0 (.inl (some (.int (zStop (yT σ) e i)))) σ := by
  intro m
  induction m using Nat.strongRecOn with
  | ind m ih =>
    intro i hx
    unfold zStop
    replace hx := zTr (C := nC65) (tb := []) h0 rfl rfl trivial (fun pc => pc.beq 2) 40 hx
    rcases hx with ⟨h1, hx⟩ | ⟨h1, h2, ⟨h3, hx⟩ | ⟨h3, m', hm, hx⟩⟩
    · rw [zSc_stop (fun h => cGeT h1 h.1)]
      exact hx
    · rw [zSc_stop (p := fun k => !decide (yT σ k.toNatClampNeg = 32)) (e := e) (a := i) (fun h => by have := h.2; rw [Bool.not_eq_true'] at this; exact of_decide_eq_false this (cEqT h3))]
      exact hx
    · rw [zSc_go (p := fun k => !decide (yT σ k.toNatClampNeg = 32)) (e := e) (a := i) (cGeF h1) (by rw [Bool.not_eq_true']; exact decide_eq_false (cEqF h3))]
      exact ih m' (by omega) _ hx
theorem z65 (h0 : zC0 c0) : zSp c0 v5 65 sp65 := by
  intro d n as σ cs r hs hx
  unfold sp65 at hs
  split at hs
  · cases hs
    obtain ⟨d', hx⟩ := zGo hx
    obtain ⟨m', hm, hx⟩ := zTr (C := nC65) (tb := []) h0 rfl rfl trivial (fun pc => pc.beq 2) 40 hx
    exact ⟨_, _, ⟨rfl, rfl⟩, z65_l h0 m' _ hx⟩
  · cases hs
theorem z140_l (h0 : zC0 c0) {d n : Nat} {r : mO × mH} {σ : zS} {p q : Int32} (hp : p.toInt ≤ 1000) : ∀ (m i : Nat), i ≤ 8 → (p + Int32.ofNat i).toInt = p.toInt + i → i ≤ zDn p q → zF v5 d n 140 m 5 [(5, .int (p + Int32.ofNat i)), (3, .long (zPk (yT σ) p i)), (0, .ref 183), (1, .int p), (2, .int q)] [] (zH c0 σ) = some r → r = zOut c0 (.inl (some (.long (yNm σ p q)))) σ := by
  intro m
  induction m using Nat.strongRecOn with
  | ind m ih =>
    intro i hi hI hd hx
    have hlo := p.le_toInt
    have h8 : (p + 8).toInt = p.toInt + 8 := by
      have e8 : (8 : Int32).toInt = 8 := rfl
      rw [rAdd_ok (by rw [e8]; unfold rI0; omega) (by rw [e8]; unfold rI1; omega), e8]
    replace hx := zTr (C := nC140) (tb := []) h0 rfl rfl trivial (fun pc => pc.beq 5) 40 hx
    have hD : zDn p q = (q.toInt - p.toInt).toNat := rfl
    rcases hx with ⟨h1, hx⟩ | ⟨h1, ⟨h2, hx⟩ | ⟨h2, -, m', hm, hx⟩⟩
    · have h1 : ¬ (p + Int32.ofNat i).toInt < q.toInt := fun h => cGeT h1 (Int32.lt_iff_toInt_lt.mpr h)
      unfold yNm
      rw [show min (zDn p q) 8 = i by omega]
      exact hx
    · have h2 : ¬ (p + Int32.ofNat i).toInt < (p + 8).toInt := fun h => cGeT h2 (Int32.lt_iff_toInt_lt.mpr h)
      unfold yNm
      rw [show min (zDn p q) 8 = i by omega]
      exact hx
    · have h1' := Int32.lt_iff_toInt_lt.mp (cGeF h1)
      have h2' : (p + Int32.ofNat i).toInt < (p + 8).toInt := Int32.lt_iff_toInt_lt.mp (cGeF h2)
      have hx : zF v5 d n 140 m' 5 [(5, .int (p + Int32.ofNat i + 1)), (3, .long (zPk (yT σ) p i ||| ((zChr (yT σ) p i).toInt64 <<< (((Int8.ofInt 8).toInt32 * (p + Int32.ofNat i - p)).toInt64 &&& 63)))), (0, .ref 183), (1, .int p), (2, .int q)] [] (zH c0 σ) = some r := hx
      have hsub : p + Int32.ofNat i - p = Int32.ofNat i := by rw [Int32.add_comm, Int32.add_sub_cancel]
      have hinc := zInc (cGeF h1)
      rw [hsub, Int32.add_assoc, ← zOfS] at hx
      rw [Int32.add_assoc, ← zOfS] at hinc
      exact ih m' (by omega) (i + 1) (by omega) (by rw [hinc, hI]; omega) (by omega) hx
theorem z140_w (h0 : zC0 c0) {d n : Nat} {r : mO × mH} {σ : zS} {p q : Int32} : ∀ (m : Nat) (k : Int32) (v : Int64), zF v5 d n 140 m 5 [(5, .int k), (3, .long v), (0, .ref 183), (1, .int p), (2, .int q)] [] (zH c0 σ) = some r → ∃ x, r = zOut c0 (.inl (some (.long x))) σ := by
  intro m
  induction m using Nat.strongRecOn with
  | ind m ih =>
    intro k v hx
    replace hx := zTr (C := nC140) (tb := []) h0 rfl rfl trivial (fun pc => pc.beq 5) 40 hx
    rcases hx with ⟨h1, hx⟩ | ⟨h1, ⟨h2, hx⟩ | ⟨h2, -, m', hm, hx⟩⟩
    · exact ⟨_, hx⟩
    · exact ⟨_, hx⟩
    · exact ih m' (by omega) _ _ hx
theorem z140 (h0 : zC0 c0) : zSp c0 v5 140 sp140 := by
  intro d n as σ cs r hs hx
  unfold sp140 at hs
  split at hs
  · rename_i p q
    cases hs
    obtain ⟨d', hx⟩ := zGo hx
    obtain ⟨m', hm, hx⟩ := zTr (C := nC140) (tb := []) h0 rfl rfl trivial (fun pc => pc.beq 5) 40 hx
    have hx : zF v5 d' n 140 m' 5 [(5, .int p), (3, .long 0), (0, .ref 183), (1, .int p), (2, .int q)] [] (zH c0 σ) = some r := hx
    by_cases hp : p.toInt ≤ 1000
    · have z : p + Int32.ofNat 0 = p := Int32.add_zero _
      have hx2 := hx
      rw [← z] at hx2
      have := z140_l (q := q) h0 hp m' 0 (by omega) (by rw [z]; omega) (by omega) (by rw [z]; exact hx)
      exact ⟨_, _, ⟨_, fun _ => rfl, rfl, rfl⟩, this⟩
    · obtain ⟨x, hx⟩ := z140_w h0 m' _ _ hx
      exact ⟨_, _, ⟨x, fun h => absurd h hp, rfl, rfl⟩, hx⟩
  · cases hs
theorem z145_l (h0 : zC0 c0) {d n : Nat} {r : mO × mH} {σ : zS} {nm : Int64} : ∀ (m i : Nat) (f : Int32), i ≤ 30 → zF v5 d n 145 m 5 [(4, .int (Int32.ofNat i)), (3, .int f), (0, .ref 183), (1, .long nm)] [] (zH c0 σ) = some r → r = zOut c0 (.inl (some (.int (yLast (σ.2.2.2.1 35) nm ((yCn σ).toInt - i).toNat i f)))) σ := by
  intro m
  induction m using Nat.strongRecOn with
  | ind m ih =>
    intro i f hi hx
    have hI : (Int32.ofNat i).toInt = i := zOfI (by omega)
    have hn : (Int32.ofNat i).toNatClampNeg = i := by
      have e : (Int32.ofNat i).toNatClampNeg = (Int32.ofNat i).toInt.toNat := rfl
      rw [e, hI]
      omega
    replace hx := zTr (C := nC145) (tb := []) h0 rfl rfl trivial (fun pc => pc.beq 5) 40 hx
    rcases hx with ⟨h1, hx⟩ | ⟨h1, h2, hx⟩
    · have h1 : ¬ (i : Int) < (yCn σ).toInt := fun h' => cGeT h1 (Int32.lt_iff_toInt_lt.mpr (by rw [hI]; exact h'))
      rw [show ((yCn σ).toInt - i).toNat = 0 by omega]
      exact hx
    · have h1 : (i : Int) < (yCn σ).toInt := by
        have := Int32.lt_iff_toInt_lt.mp (cGeF h1)
        rw [hI] at this
        exact this
      have h2 := zIn h2
      rw [hI] at h2
      rw [show ((yCn σ).toInt - i).toNat = ((yCn σ).toInt - (i + 1 : Nat)).toNat + 1 by omega]
      unfold yLast
      rcases hx with ⟨h3, m', hm, hx⟩ | ⟨h3, m', hm, hx⟩
      · have h3 : ¬ σ.2.2.2.1 35 (Int32.ofNat i).toNatClampNeg = nm := lNeT h3
        rw [hn] at h3
        rw [if_neg h3]
        have hx : zF v5 d n 145 m' 5 [(4, .int (Int32.ofNat i + 1)), (3, .int f), (0, .ref 183), (1, .long nm)] [] (zH c0 σ) = some r := hx
        rw [← zOfS] at hx
        exact ih m' (by omega) (i + 1) f (by omega) hx
      · have h3 : σ.2.2.2.1 35 (Int32.ofNat i).toNatClampNeg = nm := lNeF h3
        rw [hn] at h3
        rw [if_pos h3]
        have hx : zF v5 d n 145 m' 5 [(4, .int (Int32.ofNat i + 1)), (3, .int (Int32.ofNat i)), (0, .ref 183), (1, .long nm)] [] (zH c0 σ) = some r := hx
        rw [← zOfS] at hx
        exact ih m' (by omega) (i + 1) _ (by omega) hx
theorem z145 (h0 : zC0 c0) : zSp c0 v5 145 sp145 := by
  intro d n as σ cs r hs hx
  unfold sp145 at hs
  split at hs
  · cases hs
    obtain ⟨d', hx⟩ := zGo hx
    obtain ⟨m', hm, hx⟩ := zTr (C := nC145) (tb := []) h0 rfl rfl trivial (fun pc => pc.beq 5) 40 hx
    have := z145_l h0 m' 0 (-1) (by omega) hx
    rw [show ((yCn σ).toInt - (0 : Nat)).toNat = (yCn σ).toInt.toNat by omega] at this
    exact ⟨_, _, ⟨rfl, rfl⟩, this⟩
  · cases hs
theorem z100 (h0 : zC0 c0) : zSp c0 v5 100 sp100 := by
  intro d n as σ cs r hs hx
  unfold sp100 at hs
  split at hs
  · cases hs
    obtain ⟨d', hx⟩ := zGo hx
    replace hx := zTr (C := nC100) (tb := [(140, sp140), (145, sp145), (40, sp40)]) h0 rfl rfl ⟨z140 h0, z145 h0, z40 h0, trivial⟩ (fun _ => false) 60 hx
    obtain ⟨_, _, ⟨nm, h1, rfl, rfl⟩, _, _, ⟨rfl, rfl⟩, hx⟩ := hx
    rcases hx with ⟨h2, ⟨h3, hx⟩ | ⟨h3, hx⟩⟩ | ⟨h2, hx⟩
    · obtain ⟨_, _, ⟨nm', h4, rfl, rfl⟩, h5, h6, hx⟩ := hx
      refine ⟨_, _, ⟨nm, h1, Or.inr (Or.inr ⟨cLtT h2, cNeT h3, zIn' h5, nm', fun h => (h4 h).trans (h1 h).symm, rfl, rfl⟩)⟩, ?_⟩
      rw [← Int32.add_sub_cancel (yCn σ) 1]
      exact hx
    · obtain ⟨_, _, ⟨rfl, rfl⟩, hx⟩ := hx
      exact ⟨_, _, ⟨nm, h1, Or.inr (Or.inl ⟨cLtT h2, cNeF h3, rfl, rfl⟩)⟩, hx⟩
    · exact ⟨_, _, ⟨nm, h1, Or.inl ⟨cLtF h2, rfl, rfl⟩⟩, hx⟩
  · cases hs
end RF
