/-! THE REFERENCE: isSymbol, atoms -/
def yNv (T : Nat → Int32) (p : Int32) : Nat → Int32
  | 0 => 0
  | n + 1 => 10 * yNv T p n + zChr T p n - 48
def zB1 (b : Bool) : Int32 := cond b 1 0
section RF
variable {c0 : mH} {v5 : Value}
theorem zDb_of {c : Int32} : zDig c → zDb c = true := fun h => decide_eq_true h
theorem zDb_no {c : Int32} : ¬ zDig c → zDb c = false := fun h => decide_eq_false h
theorem z99_l (h0 : zC0 c0) {d n : Nat} {r : mO × mH} {σ : zS} {p q : Int32} : ∀ (m i : Nat), (p + Int32.ofNat i).toInt = p.toInt + i → i ≤ zDn p q → zF v5 d n 99 m 5 [(4, .int (p + Int32.ofNat i)), (3, .int (zB1 (yCap (yT σ) p i))), (0, .ref 183), (1, .int p), (2, .int q)] [] (zH c0 σ) = some r → ∃ m' k, zF v5 d n 99 m' 40 [(4, .int k), (3, .int (zB1 (yCap (yT σ) p (zDn p q)))), (0, .ref 183), (1, .int p), (2, .int q)] [] (zH c0 σ) = some r := by
  intro m
  induction m using Nat.strongRecOn with
  | ind m ih =>
    intro i hI hd hx
    replace hx := zTr (C := nC99) (tb := [(139, sp139)]) h0 rfl rfl ⟨z139 h0, trivial⟩ (fun pc => pc.beq 5 || pc.beq 40) 40 hx
    have hD : zDn p q = (q.toInt - p.toInt).toNat := rfl
    rcases hx with ⟨h1, m', hm, hx⟩ | ⟨h1, hx⟩
    · have h1 : ¬ (p + Int32.ofNat i).toInt < q.toInt := fun h => cGeT h1 (Int32.lt_iff_toInt_lt.mpr h)
      obtain rfl : i = zDn p q := by omega
      exact ⟨m', _, hx⟩
    · have h1' := Int32.lt_iff_toInt_lt.mp (cGeF h1)
      have hinc := zInc (cGeF h1)
      rw [Int32.add_assoc, ← zOfS] at hinc
      have go : ∀ (m' : Nat) (b : Bool), m' < m → b = yCap (yT σ) p (i + 1) → zF v5 d n 99 m' 5 [(4, .int (p + Int32.ofNat i + 1)), (3, .int (zB1 b)), (0, .ref 183), (1, .int p), (2, .int q)] [] (zH c0 σ) = some r → ∃ m' k, zF v5 d n 99 m' 40 [(4, .int k), (3, .int (zB1 (yCap (yT σ) p (zDn p q)))), (0, .ref 183), (1, .int p), (2, .int q)] [] (zH c0 σ) = some r := by
        intro m' b hm hb hx
        subst hb
        rw [Int32.add_assoc, ← zOfS] at hx
        exact ih m' hm (i + 1) (by rw [hinc, hI]; omega) (by omega) hx
      have hc : yCap (yT σ) p (i + 1) = (yCap (yT σ) p i || !zDb (zChr (yT σ) p i)) := rfl
      cases hb : yCap (yT σ) p i with
      | true =>
        rw [hb] at hx hc
        rcases hx with ⟨-, m', hm, hx⟩ | ⟨h, -⟩
        · exact go m' true (by omega) hc.symm hx
        · exact absurd (show (1 : Int32) = 0 from cNeF h) (by decide)
      | false =>
        rw [hb] at hx hc
        rcases hx with ⟨h, -⟩ | ⟨-, -, _, _, ⟨h2, rfl, rfl⟩ | ⟨h2, rfl, rfl⟩, hx⟩
        · exact absurd rfl (cNeT h)
        · have h2 : zDig (zChr (yT σ) p i) := h2
          rw [zDb_of h2] at hc
          rcases hx with ⟨-, m', hm, hx⟩ | ⟨h, -⟩
          · exact go m' false (by omega) hc.symm hx
          · exact absurd (show (1 : Int32) = 0 from cNeF h) (by decide)
        · have h2 : ¬ zDig (zChr (yT σ) p i) := h2
          rw [zDb_no h2] at hc
          rcases hx with ⟨h, -⟩ | ⟨-, m', hm, hx⟩
          · exact absurd rfl (cNeT h)
          · exact go m' true (by omega) hc.symm hx
theorem z99 (h0 : zC0 c0) : zSp c0 v5 99 sp99 := by
  intro d n as σ cs r hs hx
  unfold sp99 at hs
  split at hs
  · rename_i p q
    cases hs
    obtain ⟨d', hx⟩ := zGo hx
    obtain ⟨m', hm, hx⟩ := zTr (C := nC99) (tb := []) h0 rfl rfl trivial (fun pc => pc.beq 5) 40 hx
    have z : p + Int32.ofNat 0 = p := Int32.add_zero _
    have hx : zF v5 d' n 99 m' 5 [(4, .int p), (3, .int (zB1 (yCap (yT σ) p 0))), (0, .ref 183), (1, .int p), (2, .int q)] [] (zH c0 σ) = some r := hx
    obtain ⟨m2, k, hx⟩ := z99_l (q := q) h0 m' 0 (by rw [z]; omega) (by omega) (by rw [z]; exact hx)
    replace hx := zTr (C := nC99) (tb := [(97, sp97)]) h0 rfl rfl ⟨z97 h0, trivial⟩ (fun _ => false) 60 hx
    cases hb : yCap (yT σ) p (zDn p q) with
    | false =>
      rw [hb] at hx
      rcases hx with ⟨-, hx⟩ | ⟨h, -⟩
      · exact ⟨_, _, Or.inr ⟨fun h => Bool.noConfusion (hb.symm.trans h.1), rfl, rfl⟩, hx⟩
      · exact absurd rfl (cEqF h)
    | true =>
      rw [hb] at hx
      rcases hx with ⟨h, -⟩ | ⟨-, ⟨h2, hx⟩ | ⟨h2, hx⟩⟩
      · exact absurd (show (1 : Int32) = 0 from cEqT h) (by decide)
      · exact ⟨_, _, Or.inr ⟨fun h => cGeT h2 h.2.1, rfl, rfl⟩, hx⟩
      · obtain ⟨_, _, ⟨h3, rfl, rfl⟩ | ⟨h3, rfl, rfl⟩, hx⟩ := hx
        · rcases hx with ⟨-, hx⟩ | ⟨h, -⟩
          · exact ⟨_, _, Or.inr ⟨fun h => h.2.2.1 h3, rfl, rfl⟩, hx⟩
          · exact absurd (cNeF h) (by decide)
        · rcases hx with ⟨h, -⟩ | ⟨-, _, _, ⟨h4, rfl, rfl⟩ | ⟨h4, rfl, rfl⟩, hx⟩
          · exact absurd rfl (cNeT h)
          · rcases hx with ⟨-, hx⟩ | ⟨h, -⟩
            · exact ⟨_, _, Or.inr ⟨fun h => h.2.2.2.1 h4, rfl, rfl⟩, hx⟩
            · exact absurd (cNeF h) (by decide)
          · rcases hx with ⟨h, -⟩ | ⟨-, _, _, ⟨h5, rfl, rfl⟩ | ⟨h5, rfl, rfl⟩, hx⟩
            · exact absurd rfl (cNeT h)
            · rcases hx with ⟨-, hx⟩ | ⟨h, -⟩
              · exact ⟨_, _, Or.inr ⟨fun h => h.2.2.2.2 h5, rfl, rfl⟩, hx⟩
              · exact absurd (cNeF h) (by decide)
            · rcases hx with ⟨h, -⟩ | ⟨-, hx⟩
              · exact absurd rfl (cNeT h)
              · exact ⟨_, _, Or.inl ⟨⟨hb, cGeF h2, h3, h4, h5⟩, rfl, rfl⟩, hx⟩
  · cases hs
/-- the first loop of an atom -/
theorem z194_n (h0 : zC0 c0) {d n : Nat} {r : mO × mH} {σ : zS} {p : Int32} : ∀ (m i : Nat), (p + Int32.ofNat i).toInt = p.toInt + i → i ≤ zDn p (yP σ) → zF v5 d n 194 m 68 [(3, .int (p + Int32.ofNat i)), (2, .int (zB1 (!yCap (yT σ) p i))), (1, .int p), (0, .ref 183)] [] (zH c0 σ) = some r → ∃ m' k, zF v5 d n 194 m' 104 [(3, .int k), (2, .int (zB1 (!yCap (yT σ) p (zDn p (yP σ))))), (1, .int p), (0, .ref 183)] [] (zH c0 σ) = some r := by
  intro m
  induction m using Nat.strongRecOn with
  | ind m ih =>
    intro i hI hd hx
    replace hx := zTr (C := nC194) (tb := [(139, sp139)]) h0 rfl rfl ⟨z139 h0, trivial⟩ (fun pc => pc.beq 68 || pc.beq 104) 40 hx
    have hD : zDn p (yP σ) = ((yP σ).toInt - p.toInt).toNat := rfl
    rcases hx with ⟨h1, m', hm, hx⟩ | ⟨h1, hx⟩
    · have h1 : ¬ (p + Int32.ofNat i).toInt < (yP σ).toInt := fun h => cGeT h1 (Int32.lt_iff_toInt_lt.mpr h)
      obtain rfl : i = zDn p (yP σ) := by omega
      exact ⟨m', _, hx⟩
    · have h1' : (p + Int32.ofNat i).toInt < (yP σ).toInt := Int32.lt_iff_toInt_lt.mp (cGeF h1)
      have hinc := zInc (cGeF h1)
      rw [Int32.add_assoc, ← zOfS] at hinc
      have go : ∀ (m' : Nat) (b : Bool), m' < m → b = yCap (yT σ) p (i + 1) → zF v5 d n 194 m' 68 [(3, .int (p + Int32.ofNat i + 1)), (2, .int (zB1 (!b))), (1, .int p), (0, .ref 183)] [] (zH c0 σ) = some r → ∃ m' k, zF v5 d n 194 m' 104 [(3, .int k), (2, .int (zB1 (!yCap (yT σ) p (zDn p (yP σ))))), (1, .int p), (0, .ref 183)] [] (zH c0 σ) = some r := by
        intro m' b hm hb hx
        subst hb
        rw [Int32.add_assoc, ← zOfS] at hx
        exact ih m' hm (i + 1) (by rw [hinc, hI]; omega) (by omega) hx
      have hc : yCap (yT σ) p (i + 1) = (yCap (yT σ) p i || !zDb (zChr (yT σ) p i)) := rfl
      have lvp : ∀ (m' : Nat) (b : Int32), zF v5 d n 194 m' 68 [(3, .int (p + Int32.ofNat i + 1)), (2, .int b), (1, .int p), (0, .ref 183)] [] (zH c0 σ) = some r → zF v5 d n 194 m' 68 [(3, .int (p + Int32.ofNat i + 1)), (2, .int b), (1, .int p), (0, .ref 183)] [] (zH c0 σ) = some r := fun _ _ h => h
      cases hb : yCap (yT σ) p i with
      | true =>
        rw [hb] at hx hc
        rcases hx with ⟨-, m', hm, hx⟩ | ⟨h, -⟩
        · exact go m' true (by omega) hc.symm hx
        · exact absurd rfl (cEqF h)
      | false =>
        rw [hb] at hx hc
        rcases hx with ⟨h, -⟩ | ⟨-, -, _, _, ⟨h2, rfl, rfl⟩ | ⟨h2, rfl, rfl⟩, hx⟩
        · exact absurd (show (1 : Int32) = 0 from cEqT h) (by decide)
        · have h2 : zDig (zChr (yT σ) p i) := h2
          rw [zDb_of h2] at hc
          rcases hx with ⟨h, -⟩ | ⟨-, m', hm, hx⟩
          · exact absurd (show (1 : Int32) = 0 from cEqT h) (by decide)
          · exact go m' false (by omega) hc.symm hx
        · have h2 : ¬ zDig (zChr (yT σ) p i) := h2
          rw [zDb_no h2] at hc
          rcases hx with ⟨-, m', hm, hx⟩ | ⟨h, -⟩
          · exact go m' true (by omega) hc.symm hx
          · exact absurd rfl (cEqF h)
end RF
