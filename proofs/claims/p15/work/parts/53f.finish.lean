/-! LITERALS, THE BEGINNING AND THE END OF AN ASSEMBLING -/
/-- the latest symbols are these -/
abbrev zCopy (σ : zS) : zS := zI (zA (zB σ 16 (va_cpy (σ.2.2.2.1 13) (σ.2.2.2.1 16) 0 0 30)) 17 (va_cpy (σ.2.2.1 14) (σ.2.2.1 17) 0 0 30)) 15 2 (xCn σ)
abbrev sp95 (as : List Value) (σ : zS) : Option zCs := match as with
  | [.ref 173, .ref 170] => some (zN (zCopy σ))
  | _ => none
def zCw (W M : Nat → Int32) (i : Nat) : Nat → Int32 := fun k => if k < i ∧ ¬ W k = -1 then W k else M k
abbrev sp62 (as : List Value) (σ : zS) : Option zCs := match as with
  | [.ref 169, .ref 159] => some (zN (zA σ 1 (zCw (σ.2.2.1 22) (σ.2.2.1 1) 200)))
  | _ => none
abbrev xWant (σ : zS) : Prop := σ.1 11 10 = 0 ∧ ¬ σ.1 9 1 < σ.1 9 3
abbrev sp59 (as : List Value) (σ : zS) : Option zCs := match as with
  | [.ref 169] => some (fun o σ' => (xWant σ ∧ zR σ 1 o σ') ∨ (¬ xWant σ ∧ zR σ 0 o σ'))
  | _ => none
def zCons (x : Int32) (M : Nat → Int32) (i : Nat) : Nat → Int32 := fun k => if k < i then x else M k
abbrev sp80 (as : List Value) (σ : zS) : Option zCs := match as with
  | [.ref 180, .int x] => some (zN (zA σ 22 (zCons x (σ.2.2.1 22) 200)))
  | [.ref 182, .int x] => some (zN (zA σ 24 (zCons x (σ.2.2.1 24) 10)))
  | _ => none
abbrev zBeg (σ : zS) : zS := zA (zA (zI (zI (zI (zI (zI (zI (zI σ 9 3 0) 12 2 0) 18 3 0) 11 7 0) 11 8 0) 11 10 0) 11 11 0) 22 (zCons (-1) (σ.2.2.1 22) 200)) 24 (zCons (-1) (σ.2.2.1 24) 10)
abbrev sp58 (as : List Value) (σ : zS) : Option zCs := match as with
  | [.ref 169] => some (zN (zBeg σ))
  | _ => none
abbrev sp63 (as : List Value) (σ : zS) : Option zCs := match as with
  | [.ref 165, .int x] => some (zN (zI (zI σ 7 5 x) 7 6 0))
  | _ => none
section PL
variable {c0 : mH} {v5 : Value}
theorem z94_l (h0 : zC0 c0) {d n : Nat} {r : mO × mH} {σ : zS} : ∀ (m i : Nat) (W G : Nat → Int32) (pl : Int32), i ≤ 20 → zF v5 d n 94 m 2 [(1, .int (Int32.ofNat i)), (0, .ref 169)] [] (zH c0 (zWp σ pl W G)) = some r → ∃ o σ', ((zPlF (σ.1 11 11) (σ.2.2.1 21) (σ.2.2.1 20) (σ.2.2.1 23) (xWc σ).toInt.toNat ((xLc σ).toInt - i).toNat i pl W G = none ∧ zFl σ o σ') ∨ (∃ pl' W' G', zPlF (σ.1 11 11) (σ.2.2.1 21) (σ.2.2.1 20) (σ.2.2.1 23) (xWc σ).toInt.toNat ((xLc σ).toInt - i).toNat i pl W G = some (pl', W', G') ∧ zN (zWp σ pl' W' G') o σ')) ∧ r = zOut c0 o σ' := by
  intro m
  induction m using Nat.strongRecOn with
  | ind m ih =>
    intro i W G pl hi hx
    have hI : (Int32.ofNat i).toInt = i := zOfI (by omega)
    have hn : (Int32.ofNat i).toNatClampNeg = i := by
      have e : (Int32.ofNat i).toNatClampNeg = (Int32.ofNat i).toInt.toNat := rfl
      rw [e, hI]
      omega
    replace hx := zTr (C := nC94) (tb := [(86, sp86), (91, sp91), (132, sp132)]) h0 rfl rfl ⟨z86 h0, z91 h0, z132 h0, trivial⟩ (fun pc => pc.beq 2) 80 hx
    have f0 : zFr σ (zWp σ pl W G) := zFr_I (zFr_A (zFr_A (zFr_refl _) rfl) rfl) rfl
    rcases hx with ⟨h1, hx⟩ | ⟨h1, hx⟩
    · have h1 : ¬ (i : Int) < (xLc σ).toInt := fun h' => cGeT h1 (Int32.lt_iff_toInt_lt.mpr (by rw [hI]; exact h'))
      rw [show ((xLc σ).toInt - i).toNat = 0 by omega]
      exact ⟨_, _, Or.inr ⟨pl, W, G, rfl, rfl, rfl⟩, hx⟩
    · have h1 : (i : Int) < (xLc σ).toInt := by
        have := Int32.lt_iff_toInt_lt.mp (cGeF h1)
        rw [hI] at this
        exact this
      rw [show ((xLc σ).toInt - i).toNat = ((xLc σ).toInt - (i + 1 : Nat)).toNat + 1 by omega]
      unfold zPlF
      obtain ⟨_, _, ⟨rfl, rfl⟩, _, _, ⟨h5, rfl, h6⟩ | ⟨W', G', h5, rfl, rfl⟩, hx⟩ := hx
      · rw [show zFill (200 + Int32.ofNat i) (zOfL pl.toInt64) (σ.1 11 11) (σ.2.2.1 21) (σ.2.2.1 20) (xWc σ).toInt.toNat 0 W G = none from h5]
        exact ⟨_, _, Or.inl ⟨rfl, rfl, zFr_trans f0 h6⟩, hx⟩
      · rw [show zFill (200 + Int32.ofNat i) (zOfL pl.toInt64) (σ.1 11 11) (σ.2.2.1 21) (σ.2.2.1 20) (xWc σ).toInt.toNat 0 W G = some (W', G') from h5]
        dsimp only
        obtain ⟨h7, _, _, ⟨h6, rfl, rfl⟩ | ⟨h6, rfl, rfl⟩, hx⟩ := hx
        · rw [if_neg (show ¬ zPlc pl from h6)]
          exact ⟨_, _, Or.inl ⟨rfl, rfl, zFr_X (zFr_A (zFr_A f0 rfl) rfl)⟩, hx⟩
        · rw [if_pos (show zPlc pl from h6)]
          have h7 := zIn h7
          rw [hI] at h7
          obtain ⟨m', hm, hx⟩ := hx
          have hx : zF v5 d n 94 m' 2 [(1, .int (Int32.ofNat i + 1)), (0, .ref 169)] [] (zH c0 (zI (zA (zWG (zWp σ pl W G) W' G') 22 (upd W' pl.toNatClampNeg (σ.2.2.1 23 (Int32.ofNat i).toNatClampNeg))) 11 8 (pl + 1))) = some r := hx
          rw [zWp_next, hn, ← zOfS] at hx
          exact ih m' (by omega) (i + 1) _ _ _ (by omega) hx
theorem z94 (h0 : zC0 c0) : zSp c0 v5 94 sp94 := by
  intro d n as σ cs r hs hx
  unfold sp94 at hs
  split at hs
  · cases hs
    obtain ⟨d', hx⟩ := zGo hx
    obtain ⟨m', hm, hx⟩ := zTr (C := nC94) (tb := []) h0 rfl rfl trivial (fun pc => pc.beq 2) 40 hx
    have hx : zF v5 d' n 94 m' 2 [(1, .int (Int32.ofNat 0)), (0, .ref 169)] [] (zH c0 σ) = some r := hx
    rw [← zWp_self σ] at hx
    have := z94_l h0 m' 0 _ _ _ (by omega) hx
    rw [show ((xLc σ).toInt - (0 : Nat)).toNat = (xLc σ).toInt.toNat by omega] at this
    exact this
  · cases hs
theorem z95 (h0 : zC0 c0) : zSp c0 v5 95 sp95 := by
  intro d n as σ cs r hs hx
  unfold sp95 at hs
  split at hs
  · cases hs
    obtain ⟨d', hx⟩ := zGo hx
    obtain ⟨-, -, hx⟩ := zTr (C := nC95) (tb := []) h0 rfl rfl trivial (fun _ => false) 40 hx
    exact ⟨_, _, ⟨rfl, rfl⟩, hx⟩
  · cases hs
theorem z59 (h0 : zC0 c0) : zSp c0 v5 59 sp59 := by
  intro d n as σ cs r hs hx
  unfold sp59 at hs
  split at hs
  · cases hs
    obtain ⟨d', hx⟩ := zGo hx
    replace hx := zTr (C := nC59) (tb := []) h0 rfl rfl trivial (fun _ => false) 40 hx
    rcases hx with ⟨h1, hx⟩ | ⟨h1, ⟨h2, hx⟩ | ⟨h2, hx⟩⟩
    · exact ⟨_, _, Or.inr ⟨fun h => cNeT h1 h.1, rfl, rfl⟩, hx⟩
    · exact ⟨_, _, Or.inr ⟨fun h => h.2 (cGtT h2), rfl, rfl⟩, hx⟩
    · exact ⟨_, _, Or.inl ⟨⟨cNeF h1, cGtF h2⟩, rfl, rfl⟩, hx⟩
  · cases hs
theorem z63 (h0 : zC0 c0) : zSp c0 v5 63 sp63 := by
  intro d n as σ cs r hs hx
  unfold sp63 at hs
  split at hs
  · cases hs
    obtain ⟨d', hx⟩ := zGo hx
    exact ⟨_, _, ⟨rfl, rfl⟩, zTr (C := nC63) (tb := []) h0 rfl rfl trivial (fun _ => false) 40 hx⟩
  · cases hs
theorem upd_eq (f : Nat → Int32) (i : Nat) (x : Int32) (k : Nat) : upd f i x k = if k = i then x else f k := rfl
theorem zA_zA (σ : zS) (k : Nat) (f g : Nat → Int32) : zA (zA σ k f) k g = zA σ k g := by
  unfold zA
  dsimp only
  congr 3
  funext a
  unfold u1
  cases a.beq k <;> rfl
theorem zA_self (σ : zS) (k : Nat) : zA σ k (σ.2.2.1 k) = σ := by
  unfold zA
  rw [u1_self]
theorem z62_l (h0 : zC0 c0) {d n : Nat} {r : mO × mH} {σ : zS} : ∀ (m i : Nat), i ≤ 200 → zF v5 d n 62 m 2 [(2, .int (Int32.ofNat i)), (0, .ref 169), (1, .ref 159)] [] (zH c0 (zA σ 1 (zCw (σ.2.2.1 22) (σ.2.2.1 1) i))) = some r → r = zOut c0 (.inl none) (zA σ 1 (zCw (σ.2.2.1 22) (σ.2.2.1 1) 200)) := by
  intro m
  induction m using Nat.strongRecOn with
  | ind m ih =>
    intro i hi hx
    have hI : (Int32.ofNat i).toInt = i := zOfI (by omega)
    have hn : (Int32.ofNat i).toNatClampNeg = i := by
      have e : (Int32.ofNat i).toNatClampNeg = (Int32.ofNat i).toInt.toNat := rfl
      rw [e, hI]
      omega
    replace hx := zTr (C := nC62) (tb := []) h0 rfl rfl trivial (fun pc => pc.beq 2) 40 hx
    rcases hx with ⟨h1, hx⟩ | ⟨h1, h2, ⟨h3, m', hm, hx⟩ | ⟨h3, h4, h5, m', hm, hx⟩⟩
    · have h1 : ¬ (i : Int) < 200 := fun h' => cGeT h1 (Int32.lt_iff_toInt_lt.mpr (by rw [hI]; exact h'))
      obtain rfl : i = 200 := by omega
      exact hx
    · have h1 := Int32.lt_iff_toInt_lt.mp (cGeF h1)
      rw [hI] at h1
      have h1 : (i : Int) < 200 := h1
      have h3 : σ.2.2.1 22 (Int32.ofNat i).toNatClampNeg = -1 := cEqT h3
      rw [hn] at h3
      have hx : zF v5 d n 62 m' 2 [(2, .int (Int32.ofNat i + 1)), (0, .ref 169), (1, .ref 159)] [] (zH c0 (zA σ 1 (zCw (σ.2.2.1 22) (σ.2.2.1 1) i))) = some r := hx
      have e : zCw (σ.2.2.1 22) (σ.2.2.1 1) i = zCw (σ.2.2.1 22) (σ.2.2.1 1) (i + 1) := by
        funext k
        unfold zCw
        by_cases hk : k = i
        · subst hk
          rw [if_neg (fun h => h.2 h3), if_neg (fun h => h.2 h3)]
        · by_cases hl : k < i ∧ ¬ σ.2.2.1 22 k = -1
          · rw [if_pos hl, if_pos ⟨by omega, hl.2⟩]
          · rw [if_neg hl, if_neg (fun h => hl ⟨by omega, h.2⟩)]
      rw [e, ← zOfS] at hx
      exact ih m' (by omega) (i + 1) (by omega) hx
    · have h1 := Int32.lt_iff_toInt_lt.mp (cGeF h1)
      rw [hI] at h1
      have h1 : (i : Int) < 200 := h1
      have h3 : ¬ σ.2.2.1 22 (Int32.ofNat i).toNatClampNeg = -1 := cEqF h3
      rw [hn] at h3
      have hx : zF v5 d n 62 m' 2 [(2, .int (Int32.ofNat i + 1)), (0, .ref 169), (1, .ref 159)] [] (zH c0 (zA (zA σ 1 (zCw (σ.2.2.1 22) (σ.2.2.1 1) i)) 1 (upd (zCw (σ.2.2.1 22) (σ.2.2.1 1) i) (Int32.ofNat i).toNatClampNeg (σ.2.2.1 22 (Int32.ofNat i).toNatClampNeg)))) = some r := hx
      have e : upd (zCw (σ.2.2.1 22) (σ.2.2.1 1) i) i (σ.2.2.1 22 i) = zCw (σ.2.2.1 22) (σ.2.2.1 1) (i + 1) := by
        funext k
        rw [upd_eq]
        unfold zCw
        by_cases hk : k = i
        · subst hk
          rw [if_pos rfl, if_pos ⟨by omega, h3⟩]
        · rw [if_neg hk]
          by_cases hl : k < i ∧ ¬ σ.2.2.1 22 k = -1
          · rw [if_pos hl, if_pos ⟨by omega, hl.2⟩]
          · rw [if_neg hl, if_neg (fun h => hl ⟨by omega, h.2⟩)]
      rw [zA_zA, hn, e, ← zOfS] at hx
      exact ih m' (by omega) (i + 1) (by omega) hx
theorem z62 (h0 : zC0 c0) : zSp c0 v5 62 sp62 := by
  intro d n as σ cs r hs hx
  unfold sp62 at hs
  split at hs
  · cases hs
    obtain ⟨d', hx⟩ := zGo hx
    obtain ⟨m', hm, hx⟩ := zTr (C := nC62) (tb := []) h0 rfl rfl trivial (fun pc => pc.beq 2) 40 hx
    have hx : zF v5 d' n 62 m' 2 [(2, .int (Int32.ofNat 0)), (0, .ref 169), (1, .ref 159)] [] (zH c0 σ) = some r := hx
    have e : zCw (σ.2.2.1 22) (σ.2.2.1 1) 0 = σ.2.2.1 1 := by
      funext k
      unfold zCw
      rw [if_neg (fun h => by omega)]
    rw [← zA_self σ 1, ← e] at hx
    exact ⟨_, _, ⟨rfl, rfl⟩, z62_l h0 m' 0 (by omega) hx⟩
  · cases hs
end PL
