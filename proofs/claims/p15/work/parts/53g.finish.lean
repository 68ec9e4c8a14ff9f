/-! THE BEGINNING AND THE END OF AN ASSEMBLING -/
abbrev xFin (σ : zS) : Option ((Nat → Int32) × Int32 × (Nat → Int32) × (Nat → Int32)) := if σ.1 11 10 = 0 ∨ zDa (σ.2.2.1 19) (xWc σ) then none else match xPsF σ with
  | none => none
  | some x => match zPlF (σ.1 11 11) (σ.2.2.1 21) (σ.2.2.1 20) (σ.2.2.1 23) (xWc σ).toInt.toNat (xLc σ).toInt.toNat 0 x.2.1 x.2.2.1 x.2.2.2 with
    | none => none
    | some y => some (x.1, y)
abbrev sp61 (as : List Value) (σ : zS) : Option zCs := match as with
  | [.ref 169] => some (fun o σ' => (xFin σ = none ∧ zFl σ o σ') ∨ (∃ V pl W G, xFin σ = some (V, pl, W, G) ∧ zR (zI (zCopy (zAs σ V pl W G)) 11 11 (-1)) (σ.1 11 9) o σ'))
  | _ => none
theorem zAs_Wp (σ : zS) (V W G W' G' : Nat → Int32) (pl pl' : Int32) : zWp (zAs σ V pl W G) pl' W' G' = zAs σ V pl' W' G' := by
  unfold zWp zAs zA zI
  dsimp only
  rw [u1_4, u2_u2]
section PL
variable {c0 : mH} {v5 : Value}
theorem z80_l (h0 : zC0 c0) {d n : Nat} {r : mO × mH} {σ : zS} {x : Int32} : ∀ (m i : Nat), i ≤ 200 → zF v5 d n 80 m 5 [(2, .int (Int32.ofNat i)), (3, .int (Int32.ofNat 200)), (0, .ref 180), (1, .int x)] [] (zH c0 (zA σ 22 (zCons x (σ.2.2.1 22) i))) = some r → r = zOut c0 (.inl none) (zA σ 22 (zCons x (σ.2.2.1 22) 200)) := by
  intro m
  induction m using Nat.strongRecOn with
  | ind m ih =>
    intro i hi hx
    have hI : (Int32.ofNat i).toInt = i := zOfI (by omega)
    have hn : (Int32.ofNat i).toNatClampNeg = i := by
      have e : (Int32.ofNat i).toNatClampNeg = (Int32.ofNat i).toInt.toNat := rfl
      rw [e, hI]
      omega
    replace hx := zTr (C := nC80) (tb := []) h0 rfl rfl trivial (fun pc => pc.beq 5) 40 hx
    rcases hx with ⟨h1, hx⟩ | ⟨h1, h2, m', hm, hx⟩
    · have h1 : ¬ (i : Int) < 200 := fun h' => cGeT h1 (Int32.lt_iff_toInt_lt.mpr (by rw [hI]; exact h'))
      obtain rfl : i = 200 := by omega
      exact hx
    · have h1 := Int32.lt_iff_toInt_lt.mp (cGeF h1)
      rw [hI] at h1
      have h1 : (i : Int) < 200 := h1
      have hx : zF v5 d n 80 m' 5 [(2, .int (Int32.ofNat i + 1)), (3, .int (Int32.ofNat 200)), (0, .ref 180), (1, .int x)] [] (zH c0 (zA (zA σ 22 (zCons x (σ.2.2.1 22) i)) 22 (upd (zCons x (σ.2.2.1 22) i) (Int32.ofNat i).toNatClampNeg x))) = some r := hx
      have e : upd (zCons x (σ.2.2.1 22) i) i x = zCons x (σ.2.2.1 22) (i + 1) := by
        funext k
        rw [upd_eq]
        unfold zCons
        by_cases hk : k = i
        · subst hk
          rw [if_pos rfl, if_pos (by omega)]
        · rw [if_neg hk]
          by_cases hl : k < i
          · rw [if_pos hl, if_pos (by omega)]
          · rw [if_neg hl, if_neg (by omega)]
      rw [zA_zA, hn, e, ← zOfS] at hx
      exact ih m' (by omega) (i + 1) (by omega) hx
theorem z80_m (h0 : zC0 c0) {d n : Nat} {r : mO × mH} {σ : zS} {x : Int32} : ∀ (m i : Nat), i ≤ 10 → zF v5 d n 80 m 5 [(2, .int (Int32.ofNat i)), (3, .int (Int32.ofNat 10)), (0, .ref 182), (1, .int x)] [] (zH c0 (zA σ 24 (zCons x (σ.2.2.1 24) i))) = some r → r = zOut c0 (.inl none) (zA σ 24 (zCons x (σ.2.2.1 24) 10)) := by
  intro m
  induction m using Nat.strongRecOn with
  | ind m ih =>
    intro i hi hx
    have hI : (Int32.ofNat i).toInt = i := zOfI (by omega)
    have hn : (Int32.ofNat i).toNatClampNeg = i := by
      have e : (Int32.ofNat i).toNatClampNeg = (Int32.ofNat i).toInt.toNat := rfl
      rw [e, hI]
      omega
    replace hx := zTr (C := nC80) (tb := []) h0 rfl rfl trivial (fun pc => pc.beq 5) 40 hx
    rcases hx with ⟨h1, hx⟩ | ⟨h1, h2, m', hm, hx⟩
    · have h1 : ¬ (i : Int) < 10 := fun h' => cGeT h1 (Int32.lt_iff_toInt_lt.mpr (by rw [hI]; exact h'))
      obtain rfl : i = 10 := by omega
      exact hx
    · have h1 := Int32.lt_iff_toInt_lt.mp (cGeF h1)
      rw [hI] at h1
      have h1 : (i : Int) < 10 := h1
      have hx : zF v5 d n 80 m' 5 [(2, .int (Int32.ofNat i + 1)), (3, .int (Int32.ofNat 10)), (0, .ref 182), (1, .int x)] [] (zH c0 (zA (zA σ 24 (zCons x (σ.2.2.1 24) i)) 24 (upd (zCons x (σ.2.2.1 24) i) (Int32.ofNat i).toNatClampNeg x))) = some r := hx
      have e : upd (zCons x (σ.2.2.1 24) i) i x = zCons x (σ.2.2.1 24) (i + 1) := by
        funext k
        rw [upd_eq]
        unfold zCons
        by_cases hk : k = i
        · subst hk
          rw [if_pos rfl, if_pos (by omega)]
        · rw [if_neg hk]
          by_cases hl : k < i
          · rw [if_pos hl, if_pos (by omega)]
          · rw [if_neg hl, if_neg (by omega)]
      rw [zA_zA, hn, e, ← zOfS] at hx
      exact ih m' (by omega) (i + 1) (by omega) hx
theorem zCons_0 (x : Int32) (M : Nat → Int32) : zCons x M 0 = M := by
  funext k
  unfold zCons
  rw [if_neg (by omega)]
theorem z80 (h0 : zC0 c0) : zSp c0 v5 80 sp80 := by
  intro d n as σ cs r hs hx
  unfold sp80 at hs
  split at hs
  · rename_i x
    cases hs
    obtain ⟨d', hx⟩ := zGo hx
    obtain ⟨m', hm, hx⟩ := zTr (C := nC80) (tb := []) h0 rfl rfl trivial (fun pc => pc.beq 5) 40 hx
    have hx : zF v5 d' n 80 m' 5 [(3, .int (Int32.ofNat 200)), (2, .int (Int32.ofNat 0)), (0, .ref 180), (1, .int x)] [] (zH c0 σ) = some r := hx
    have hx := zF_lv (b := [(2, .int (Int32.ofNat 0)), (3, .int (Int32.ofNat 200)), (0, .ref 180), (1, .int x)]) (fun q hq => by
        simp only [List.mem_cons, List.not_mem_nil, or_false] at hq
        rcases hq with rfl | rfl | rfl | rfl <;> rfl) hx
    rw [← zA_self σ 22, ← zCons_0 x (σ.2.2.1 22)] at hx
    exact ⟨_, _, ⟨rfl, rfl⟩, z80_l h0 m' 0 (by omega) hx⟩
  · rename_i x
    cases hs
    obtain ⟨d', hx⟩ := zGo hx
    obtain ⟨m', hm, hx⟩ := zTr (C := nC80) (tb := []) h0 rfl rfl trivial (fun pc => pc.beq 5) 40 hx
    have hx : zF v5 d' n 80 m' 5 [(3, .int (Int32.ofNat 10)), (2, .int (Int32.ofNat 0)), (0, .ref 182), (1, .int x)] [] (zH c0 σ) = some r := hx
    have hx := zF_lv (b := [(2, .int (Int32.ofNat 0)), (3, .int (Int32.ofNat 10)), (0, .ref 182), (1, .int x)]) (fun q hq => by
        simp only [List.mem_cons, List.not_mem_nil, or_false] at hq
        rcases hq with rfl | rfl | rfl | rfl <;> rfl) hx
    rw [← zA_self σ 24, ← zCons_0 x (σ.2.2.1 24)] at hx
    exact ⟨_, _, ⟨rfl, rfl⟩, z80_m h0 m' 0 (by omega) hx⟩
  · cases hs
theorem z58 (h0 : zC0 c0) : zSp c0 v5 58 sp58 := by
  intro d n as σ cs r hs hx
  unfold sp58 at hs
  split at hs
  · cases hs
    obtain ⟨d', hx⟩ := zGo hx
    replace hx := zTr (C := nC58) (tb := [(80, sp80)]) h0 rfl rfl ⟨z80 h0, trivial⟩ (fun _ => false) 60 hx
    obtain ⟨-, _, _, ⟨rfl, rfl⟩, _, _, ⟨rfl, rfl⟩, hx⟩ := hx
    exact ⟨_, _, ⟨rfl, rfl⟩, hx⟩
  · cases hs
theorem z61 (h0 : zC0 c0) : zSp c0 v5 61 sp61 := by
  intro d n as σ cs r hs hx
  unfold sp61 at hs
  split at hs
  · cases hs
    obtain ⟨d', hx⟩ := zGo hx
    replace hx := zTr (C := nC61) (tb := [(92, sp92), (93, sp93), (94, sp94), (95, sp95)]) h0 rfl rfl ⟨z92 h0, z93 h0, z94 h0, z95 h0, trivial⟩ (fun _ => false) 60 hx
    unfold xFin
    rcases hx with ⟨h1, hx⟩ | ⟨h1, hx⟩
    · obtain ⟨_, _, ⟨h2, rfl, rfl⟩ | ⟨h2, rfl, rfl⟩, hx⟩ := hx
      · rcases hx with ⟨h, -⟩ | ⟨-, hx⟩
        · exact absurd (cEqT h) (by decide)
        · rw [if_pos (Or.inr h2)]
          exact ⟨_, _, Or.inl ⟨rfl, rfl, zFr_X (zFr_refl _)⟩, hx⟩
      · rcases hx with ⟨-, hx⟩ | ⟨h, -⟩
        · rw [if_neg (fun h => h.elim (cNeT h1) h2)]
          obtain ⟨_, _, ⟨h3, rfl, h4⟩ | ⟨V, pl, W, G, h3, rfl, rfl⟩, hx⟩ := hx
          · rw [h3]
            exact ⟨_, _, Or.inl ⟨rfl, rfl, h4⟩, hx⟩
          · rw [h3]
            dsimp only
            obtain ⟨_, _, ⟨h4, rfl, h5⟩ | ⟨pl', W', G', h4, rfl, rfl⟩, hx⟩ := hx
            · rw [show zPlF (σ.1 11 11) (σ.2.2.1 21) (σ.2.2.1 20) (σ.2.2.1 23) (xWc σ).toInt.toNat (xLc σ).toInt.toNat 0 pl W G = none from h4]
              exact ⟨_, _, Or.inl ⟨rfl, rfl, zFr_trans (zFr_I (zFr_A (zFr_A (zFr_A (zFr_refl _) rfl) rfl) rfl) rfl) h5⟩, hx⟩
            · rw [show zPlF (σ.1 11 11) (σ.2.2.1 21) (σ.2.2.1 20) (σ.2.2.1 23) (xWc σ).toInt.toNat (xLc σ).toInt.toNat 0 pl W G = some (pl', W', G') from h4]
              obtain ⟨_, _, ⟨rfl, rfl⟩, hx⟩ := hx
              refine ⟨_, _, Or.inr ⟨V, pl', W', G', rfl, rfl, ?_⟩, hx⟩
              rw [← zAs_Wp σ V W G W' G' pl pl']
              rfl
        · exact absurd rfl (cEqF h)
    · rw [if_pos (Or.inl (cNeF h1))]
      exact ⟨_, _, Or.inl ⟨rfl, rfl, zFr_X (zFr_I (zFr_refl _) rfl)⟩, hx⟩
  · cases hs
end PL
