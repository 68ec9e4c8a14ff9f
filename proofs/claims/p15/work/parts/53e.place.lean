/-! VALUES ARE GIVEN, SYMBOLS AND LITERALS PLACED -/
abbrev zGv (σ : zS) (s v : Int32) : zS := zA σ 14 (upd (σ.2.2.1 14) s.toNatClampNeg v)
abbrev sp87 (as : List Value) (σ : zS) : Option zCs := match as with
  | [.ref 169, .int s, .int v] => some (fun o σ' => (0 ≤ s.toInt ∧ s.toInt < 30) ∧ ((xFill σ s v = none ∧ zFl σ o σ') ∨ (∃ W G, xFill σ s v = some (W, G) ∧ zN (zWG (zGv σ s v) W G) o σ')))
  | _ => none
abbrev sp135 (as : List Value) (σ : zS) : Option zCs := match as with
  | [.ref 169, .int v] => some (fun o σ' => (¬ σ.1 11 12 = 2 ∧ zN σ o σ') ∨ (σ.1 11 12 = 2 ∧ (0 ≤ (σ.1 11 13).toInt ∧ (σ.1 11 13).toInt < 30) ∧ ((xFill σ (σ.1 11 13) v = none ∧ zFl σ o σ') ∨ (∃ W G, xFill σ (σ.1 11 13) v = some (W, G) ∧ zN (zWG (zGv σ (σ.1 11 13) v) W G) o σ'))))
  | _ => none
abbrev sp137 (as : List Value) (σ : zS) : Option zCs := match as with
  | [.ref 169, .int w] => some (fun o σ' => (¬ zPlc (zVal w) ∧ zFl σ o σ') ∨ (zPlc (zVal w) ∧ zN (zI (zI σ 11 9 (zVal w)) 11 10 1) o σ'))
  | _ => none
/-- whether a digit is awaited -/
abbrev zDa (G : Nat → Int32) (e : Int32) : Prop := zSc (fun k => !decide (¬ G k.toNatClampNeg < 100 ∧ G k.toNatClampNeg < 200)) e 0 < e
abbrev sp92 (as : List Value) (σ : zS) : Option zCs := match as with
  | [.ref 176] => some (fun o σ' => (zDa (σ.2.2.1 19) (xWc σ) ∧ zR σ 1 o σ') ∨ (¬ zDa (σ.2.2.1 19) (xWc σ) ∧ zR σ 0 o σ'))
  | _ => none
def zPsF (cur : Int32) (ln P : Nat → Int32) (wc : Nat) : Nat → Nat → (Nat → Int32) → Int32 → (Nat → Int32) → (Nat → Int32) → Option ((Nat → Int32) × Int32 × (Nat → Int32) × (Nat → Int32))
  | 0, _, V, pl, W, G => some (V, pl, W, G)
  | k + 1, i, V, pl, W, G => if V i = -1 then (match zFill (Int32.ofNat i) (zOfL pl.toInt64) cur ln P wc 0 W G with
    | none => none
    | some x => if zPlc pl then zPsF cur ln P wc k (i + 1) (upd V i (zOfL pl.toInt64)) (pl + 1) (upd x.1 pl.toNatClampNeg 0) x.2 else none) else zPsF cur ln P wc k (i + 1) V pl W G
def zPlF (cur : Int32) (ln P lits : Nat → Int32) (wc : Nat) : Nat → Nat → Int32 → (Nat → Int32) → (Nat → Int32) → Option (Int32 × (Nat → Int32) × (Nat → Int32))
  | 0, _, pl, W, G => some (pl, W, G)
  | k + 1, i, pl, W, G => match zFill (200 + Int32.ofNat i) (zOfL pl.toInt64) cur ln P wc 0 W G with
    | none => none
    | some x => if zPlc pl then zPlF cur ln P lits wc k (i + 1) (pl + 1) (upd x.1 pl.toNatClampNeg (lits i)) x.2 else none
abbrev zAs (σ : zS) (V : Nat → Int32) (pl : Int32) (W G : Nat → Int32) : zS := zI (zA (zA (zA σ 14 V) 22 W) 19 G) 11 8 pl
abbrev xPsF (σ : zS) : Option ((Nat → Int32) × Int32 × (Nat → Int32) × (Nat → Int32)) := zPsF (σ.1 11 11) (σ.2.2.1 21) (σ.2.2.1 20) (xWc σ).toInt.toNat (xCn σ).toInt.toNat 0 (σ.2.2.1 14) (xPl σ) (σ.2.2.1 22) (σ.2.2.1 19)
abbrev xPlF (σ : zS) : Option (Int32 × (Nat → Int32) × (Nat → Int32)) := zPlF (σ.1 11 11) (σ.2.2.1 21) (σ.2.2.1 20) (σ.2.2.1 23) (xWc σ).toInt.toNat (xLc σ).toInt.toNat 0 (xPl σ) (σ.2.2.1 22) (σ.2.2.1 19)
abbrev sp93 (as : List Value) (σ : zS) : Option zCs := match as with
  | [.ref 169] => some (fun o σ' => (xPsF σ = none ∧ zFl σ o σ') ∨ (∃ V pl W G, xPsF σ = some (V, pl, W, G) ∧ zN (zAs σ V pl W G) o σ'))
  | _ => none
abbrev zWp (σ : zS) (pl : Int32) (W G : Nat → Int32) : zS := zI (zA (zA σ 22 W) 19 G) 11 8 pl
abbrev sp94 (as : List Value) (σ : zS) : Option zCs := match as with
  | [.ref 169] => some (fun o σ' => (xPlF σ = none ∧ zFl σ o σ') ∨ (∃ pl W G, xPlF σ = some (pl, W, G) ∧ zN (zWp σ pl W G) o σ'))
  | _ => none
theorem u1_7 {α : Type} (f : Nat → α) (a b c a' b' c' b'' : α) : u1 (u1 (u1 (u1 (u1 (u1 (u1 f 14 a) 22 b) 19 c) 14 a') 22 b') 19 c') 22 b'' = u1 (u1 (u1 f 14 a') 22 b'') 19 c' := by
  funext k
  by_cases h1 : k = 22
  · subst h1; rfl
  · by_cases h2 : k = 19
    · subst h2; rfl
    · by_cases h3 : k = 14
      · subst h3; rfl
      · simp only [u1_ne _ _ h1, u1_ne _ _ h2, u1_ne _ _ h3]
theorem u1_5 {α : Type} (f : Nat → α) (b c b' c' b'' : α) : u1 (u1 (u1 (u1 (u1 f 22 b) 19 c) 22 b') 19 c') 22 b'' = u1 (u1 f 22 b'') 19 c' := by
  funext k
  by_cases h1 : k = 22
  · subst h1; rfl
  · by_cases h2 : k = 19
    · subst h2; rfl
    · simp only [u1_ne _ _ h1, u1_ne _ _ h2]
theorem zAs_next (σ : zS) (V W G V' W' G' W'' : Nat → Int32) (pl pl' : Int32) : zI (zA (zWG (zA (zAs σ V pl W G) 14 V') W' G') 22 W'') 11 8 pl' = zAs σ V' pl' W'' G' := by
  unfold zAs zWG zA zI
  dsimp only
  rw [u1_7, u2_u2]
theorem zWp_next (σ : zS) (W G W' G' W'' : Nat → Int32) (pl pl' : Int32) : zI (zA (zWG (zWp σ pl W G) W' G') 22 W'') 11 8 pl' = zWp σ pl' W'' G' := by
  unfold zWp zWG zA zI
  dsimp only
  rw [u1_5, u2_u2]
theorem zAs_self (σ : zS) : zAs σ (σ.2.2.1 14) (xPl σ) (σ.2.2.1 22) (σ.2.2.1 19) = σ := by
  unfold zAs zA zI
  dsimp only
  rw [u1_self]
  have e : u1 σ.2.2.1 22 (σ.2.2.1 22) = σ.2.2.1 := u1_self _ _
  rw [e, u1_self, u2_self]
theorem zWp_self (σ : zS) : zWp σ (xPl σ) (σ.2.2.1 22) (σ.2.2.1 19) = σ := by
  unfold zWp zA zI
  dsimp only
  rw [u1_self, u1_self, u2_self]
section PL
variable {c0 : mH} {v5 : Value}
theorem z87 (h0 : zC0 c0) : zSp c0 v5 87 sp87 := by
  intro d n as σ cs r hs hx
  unfold sp87 at hs
  split at hs
  · cases hs
    obtain ⟨d', hx⟩ := zGo hx
    replace hx := zTr (C := nC87) (tb := [(91, sp91)]) h0 rfl rfl ⟨z91 h0, trivial⟩ (fun _ => false) 40 hx
    obtain ⟨h1, _, _, ⟨h2, rfl, h3⟩ | ⟨W, G, h2, rfl, rfl⟩, hx⟩ := hx
    · exact ⟨_, _, ⟨zIn' h1, Or.inl ⟨h2, rfl, zFr_trans (zFr_A (zFr_refl _) rfl) h3⟩⟩, hx⟩
    · exact ⟨_, _, ⟨zIn' h1, Or.inr ⟨W, G, h2, rfl, rfl⟩⟩, hx⟩
  · cases hs
theorem z135 (h0 : zC0 c0) : zSp c0 v5 135 sp135 := by
  intro d n as σ cs r hs hx
  unfold sp135 at hs
  split at hs
  · cases hs
    obtain ⟨d', hx⟩ := zGo hx
    replace hx := zTr (C := nC135) (tb := [(87, sp87)]) h0 rfl rfl ⟨z87 h0, trivial⟩ (fun _ => false) 40 hx
    rcases hx with ⟨h1, hx⟩ | ⟨h1, _, _, ⟨h4, ⟨h2, rfl, h3⟩ | ⟨W, G, h2, rfl, rfl⟩⟩, hx⟩
    · exact ⟨_, _, Or.inl ⟨cNeT h1, rfl, rfl⟩, hx⟩
    · exact ⟨_, _, Or.inr ⟨cNeF h1, h4, Or.inl ⟨h2, rfl, h3⟩⟩, hx⟩
    · exact ⟨_, _, Or.inr ⟨cNeF h1, h4, Or.inr ⟨W, G, h2, rfl, rfl⟩⟩, hx⟩
  · cases hs
theorem z137 (h0 : zC0 c0) : zSp c0 v5 137 sp137 := by
  intro d n as σ cs r hs hx
  unfold sp137 at hs
  split at hs
  · cases hs
    obtain ⟨d', hx⟩ := zGo hx
    replace hx := zTr (C := nC137) (tb := [(136, sp136), (76, sp76)]) h0 rfl rfl ⟨z136 h0, z76 h0, trivial⟩ (fun _ => false) 40 hx
    obtain ⟨_, _, ⟨rfl, rfl⟩, _, _, ⟨h1, rfl, rfl⟩ | ⟨h1, rfl, rfl⟩, hx⟩ := hx
    · rcases hx with ⟨-, -, hx⟩ | ⟨h, -⟩
      · exact ⟨_, _, Or.inr ⟨h1, rfl, rfl⟩, hx⟩
      · exact absurd (cNeF h) (by decide)
    · rcases hx with ⟨h, -⟩ | ⟨-, hx⟩
      · exact absurd rfl (cNeT h)
      · exact ⟨_, _, Or.inl ⟨h1, rfl, zFr_X (zFr_I (zFr_refl _) rfl)⟩, hx⟩
  · cases hs
theorem z92_l (h0 : zC0 c0) {d n : Nat} {r : mO × mH} {σ : zS} : ∀ (m : Nat) (i : Int32), zF v5 d n 92 m 2 [(1, .int i), (0, .ref 176)] [] (zH c0 σ) = some r → r = zOut c0 (.inl (some (.int (if zSc (fun k => !decide (¬ σ.2.2.1 19 k.toNatClampNeg < 100 ∧ σ.2.2.1 19 k.toNatClampNeg < 200)) (xWc σ) i < xWc σ then 1 else 0)))) σ := by
  intro m
  induction m using Nat.strongRecOn with
  | ind m ih =>
    intro i hx
    replace hx := zTr (C := nC92) (tb := []) h0 rfl rfl trivial (fun pc => pc.beq 2) 40 hx
    rcases hx with ⟨h1, hx⟩ | ⟨h1, h2, ⟨h3, m', hm, hx⟩ | ⟨h3, h4, ⟨h5, m', hm, hx⟩ | ⟨h5, hx⟩⟩⟩
    · rw [zSc_stop (fun h => cGeT h1 h.1), if_neg (show ¬ i < xWc σ from cGeT h1)]
      exact hx
    · rw [zSc_go (cGeF h1) (by rw [Bool.not_eq_true']; exact decide_eq_false (fun h => h.1 (cLtT h3)))]
      exact ih m' (by omega) _ hx
    · rw [zSc_go (cGeF h1) (by rw [Bool.not_eq_true']; exact decide_eq_false (fun h => cGeT h5 h.2))]
      exact ih m' (by omega) _ hx
    · rw [zSc_stop (fun h => by have := h.2; rw [Bool.not_eq_true'] at this; exact of_decide_eq_false this ⟨cLtF h3, cGeF h5⟩), if_pos (show i < xWc σ from cGeF h1)]
      exact hx
theorem z92 (h0 : zC0 c0) : zSp c0 v5 92 sp92 := by
  intro d n as σ cs r hs hx
  unfold sp92 at hs
  split at hs
  · cases hs
    obtain ⟨d', hx⟩ := zGo hx
    obtain ⟨m', hm, hx⟩ := zTr (C := nC92) (tb := []) h0 rfl rfl trivial (fun pc => pc.beq 2) 40 hx
    have := z92_l h0 m' 0 hx
    by_cases hl : zDa (σ.2.2.1 19) (xWc σ)
    · rw [if_pos hl] at this
      exact ⟨_, _, Or.inl ⟨hl, rfl, rfl⟩, this⟩
    · rw [if_neg hl] at this
      exact ⟨_, _, Or.inr ⟨hl, rfl, rfl⟩, this⟩
  · cases hs
theorem z93_l (h0 : zC0 c0) {d n : Nat} {r : mO × mH} {σ : zS} : ∀ (m i : Nat) (V W G : Nat → Int32) (pl : Int32), i ≤ 30 → zF v5 d n 93 m 2 [(1, .int (Int32.ofNat i)), (0, .ref 169)] [] (zH c0 (zAs σ V pl W G)) = some r → ∃ o σ', ((zPsF (σ.1 11 11) (σ.2.2.1 21) (σ.2.2.1 20) (xWc σ).toInt.toNat ((xCn σ).toInt - i).toNat i V pl W G = none ∧ zFl σ o σ') ∨ (∃ V' pl' W' G', zPsF (σ.1 11 11) (σ.2.2.1 21) (σ.2.2.1 20) (xWc σ).toInt.toNat ((xCn σ).toInt - i).toNat i V pl W G = some (V', pl', W', G') ∧ zN (zAs σ V' pl' W' G') o σ')) ∧ r = zOut c0 o σ' := by
  intro m
  induction m using Nat.strongRecOn with
  | ind m ih =>
    intro i V W G pl hi hx
    have hI : (Int32.ofNat i).toInt = i := zOfI (by omega)
    have hn : (Int32.ofNat i).toNatClampNeg = i := by
      have e : (Int32.ofNat i).toNatClampNeg = (Int32.ofNat i).toInt.toNat := rfl
      rw [e, hI]
      omega
    replace hx := zTr (C := nC93) (tb := [(86, sp86), (87, sp87), (132, sp132)]) h0 rfl rfl ⟨z86 h0, z87 h0, z132 h0, trivial⟩ (fun pc => pc.beq 2) 80 hx
    have f0 : zFr σ (zAs σ V pl W G) := zFr_I (zFr_A (zFr_A (zFr_A (zFr_refl _) rfl) rfl) rfl) rfl
    rcases hx with ⟨h1, hx⟩ | ⟨h1, h2, hx⟩
    · have h1 : ¬ (i : Int) < (xCn σ).toInt := fun h' => cGeT h1 (Int32.lt_iff_toInt_lt.mpr (by rw [hI]; exact h'))
      rw [show ((xCn σ).toInt - i).toNat = 0 by omega]
      exact ⟨_, _, Or.inr ⟨V, pl, W, G, rfl, rfl, rfl⟩, hx⟩
    · have h1 : (i : Int) < (xCn σ).toInt := by
        have := Int32.lt_iff_toInt_lt.mp (cGeF h1)
        rw [hI] at this
        exact this
      have h2 := zIn h2
      rw [hI] at h2
      rw [show ((xCn σ).toInt - i).toNat = ((xCn σ).toInt - (i + 1 : Nat)).toNat + 1 by omega]
      unfold zPsF
      rcases hx with ⟨h3, m', hm, hx⟩ | ⟨h3, hx⟩
      · have h3 : ¬ V (Int32.ofNat i).toNatClampNeg = -1 := cNeT h3
        rw [hn] at h3
        rw [if_neg h3]
        have hx : zF v5 d n 93 m' 2 [(1, .int (Int32.ofNat i + 1)), (0, .ref 169)] [] (zH c0 (zAs σ V pl W G)) = some r := hx
        rw [← zOfS] at hx
        exact ih m' (by omega) (i + 1) V W G pl (by omega) hx
      · have h3 : V (Int32.ofNat i).toNatClampNeg = -1 := cNeF h3
        rw [hn] at h3
        rw [if_pos h3]
        obtain ⟨_, _, ⟨rfl, rfl⟩, _, _, ⟨h4, ⟨h5, rfl, h6⟩ | ⟨W', G', h5, rfl, rfl⟩⟩, hx⟩ := hx
        · rw [show zFill (Int32.ofNat i) (zOfL pl.toInt64) (σ.1 11 11) (σ.2.2.1 21) (σ.2.2.1 20) (xWc σ).toInt.toNat 0 W G = none from h5]
          exact ⟨_, _, Or.inl ⟨rfl, rfl, zFr_trans f0 h6⟩, hx⟩
        · rw [show zFill (Int32.ofNat i) (zOfL pl.toInt64) (σ.1 11 11) (σ.2.2.1 21) (σ.2.2.1 20) (xWc σ).toInt.toNat 0 W G = some (W', G') from h5]
          dsimp only
          obtain ⟨_, _, ⟨h6, rfl, rfl⟩ | ⟨h6, rfl, rfl⟩, hx⟩ := hx
          · rw [if_neg (show ¬ zPlc pl from h6)]
            exact ⟨_, _, Or.inl ⟨rfl, rfl, zFr_X (zFr_A (zFr_A (zFr_A f0 rfl) rfl) rfl)⟩, hx⟩
          · rw [if_pos (show zPlc pl from h6)]
            obtain ⟨m', hm, hx⟩ := hx
            have hx : zF v5 d n 93 m' 2 [(1, .int (Int32.ofNat i + 1)), (0, .ref 169)] [] (zH c0 (zI (zA (zWG (zA (zAs σ V pl W G) 14 (upd V (Int32.ofNat i).toNatClampNeg (zOfL pl.toInt64))) W' G') 22 (upd W' pl.toNatClampNeg 0)) 11 8 (pl + 1))) = some r := hx
            rw [zAs_next, hn, ← zOfS] at hx
            exact ih m' (by omega) (i + 1) _ _ _ _ (by omega) hx
theorem z93 (h0 : zC0 c0) : zSp c0 v5 93 sp93 := by
  intro d n as σ cs r hs hx
  unfold sp93 at hs
  split at hs
  · cases hs
    obtain ⟨d', hx⟩ := zGo hx
    obtain ⟨m', hm, hx⟩ := zTr (C := nC93) (tb := []) h0 rfl rfl trivial (fun pc => pc.beq 2) 40 hx
    have hx : zF v5 d' n 93 m' 2 [(1, .int (Int32.ofNat 0)), (0, .ref 169)] [] (zH c0 σ) = some r := hx
    rw [← zAs_self σ] at hx
    have := z93_l h0 m' 0 _ _ _ _ (by omega) hx
    rw [show ((xCn σ).toInt - (0 : Nat)).toNat = (xCn σ).toInt.toNat by omega] at this
    exact this
  · cases hs
end PL
