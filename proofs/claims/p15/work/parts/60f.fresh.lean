/-! THE REFERENCE: fresh(), and its assembling turn by turn -/
theorem zCons_s (x : Int32) (M : Nat → Int32) (i : Nat) : upd (zCons x M i) i x = zCons x M (i + 1) := by
  funext k
  rw [upd_eq]
  unfold zCons
  by_cases hk : k = i
  · subst hk
    rw [if_pos rfl, if_pos (by omega)]
  · rw [if_neg hk]
    by_cases hl : k < i
    · rw [if_pos hl, if_pos (by omega)]
    · rw [if_neg hl, if_neg (by omega)]
abbrev yFs0 (σ : zS) : zS := zI (zI (zI (zI (zI (zI σ 25 23 0) 25 26 0) 25 24 0) 25 29 0) 25 33 0) 25 37 0
abbrev yFs (σ : zS) : zS := zA (zA (yFs0 σ) 39 (zCons 0 (σ.2.2.1 39) 10)) 34 (zCons 0 (σ.2.2.1 34) 200)
abbrev sp39 (as : List Value) (σ : zS) : Option zCs := match as with
  | [.ref 183] => some (zN (yFs σ))
  | _ => none
abbrev sp37 (as : List Value) (σ : zS) : Option zCs := match as with
  | [.ref 183, .int k] => some (zR (zI σ 25 0 k) 0)
  | _ => none
section RF
variable {c0 : mH} {v5 : Value}
theorem z37 (h0 : zC0 c0) : zSp c0 v5 37 sp37 := by
  intro d n as σ cs r hs hx
  unfold sp37 at hs
  split at hs
  · cases hs
    obtain ⟨d', hx⟩ := zGo hx
    exact ⟨_, _, ⟨rfl, rfl⟩, zTr (C := nC37) (tb := []) h0 rfl rfl trivial (fun _ => false) 60 hx⟩
  · cases hs
theorem z39_a (h0 : zC0 c0) {d n : Nat} {r : mO × mH} {σ : zS} {M : Nat → Int32} : ∀ (m i : Nat), i ≤ 10 → zF v5 d n 39 m 32 [(1, .int (Int32.ofNat i)), (0, .ref 183)] [] (zH c0 (zA σ 39 (zCons 0 M i))) = some r → ∃ m' k, zF v5 d n 39 m' 51 [(1, .int k), (0, .ref 183)] [] (zH c0 (zA σ 39 (zCons 0 M 10))) = some r := by
  intro m
  induction m using Nat.strongRecOn with
  | ind m ih =>
    intro i hi hx
    have hI : (Int32.ofNat i).toInt = i := zOfI (by omega)
    have hn : (Int32.ofNat i).toNatClampNeg = i := by
      have e : (Int32.ofNat i).toNatClampNeg = (Int32.ofNat i).toInt.toNat := rfl
      rw [e, hI]
      omega
    replace hx := zTr (C := nC39) (tb := []) h0 rfl rfl trivial (fun pc => pc.beq 32 || pc.beq 51) 40 hx
    rcases hx with ⟨h1, m', hm, hx⟩ | ⟨h1, h2, m', hm, hx⟩
    · have h1 : ¬ (i : Int) < 10 := fun h' => cGeT h1 (Int32.lt_iff_toInt_lt.mpr (by rw [hI]; exact h'))
      obtain rfl : i = 10 := by omega
      exact ⟨m', _, hx⟩
    · have h1 := Int32.lt_iff_toInt_lt.mp (cGeF h1)
      rw [hI] at h1
      have h1 : (i : Int) < 10 := h1
      have hx : zF v5 d n 39 m' 32 [(1, .int (Int32.ofNat i + 1)), (0, .ref 183)] [] (zH c0 (zA (zA σ 39 (zCons 0 M i)) 39 (upd (zCons 0 M i) (Int32.ofNat i).toNatClampNeg 0))) = some r := hx
      rw [zA_zA, hn, zCons_s, ← zOfS] at hx
      exact ih m' (by omega) (i + 1) (by omega) hx
theorem z39_b (h0 : zC0 c0) {d n : Nat} {r : mO × mH} {σ : zS} {M : Nat → Int32} : ∀ (m i : Nat), i ≤ 200 → zF v5 d n 39 m 53 [(1, .int (Int32.ofNat i)), (0, .ref 183)] [] (zH c0 (zA σ 34 (zCons 0 M i))) = some r → r = zOut c0 (.inl none) (zA σ 34 (zCons 0 M 200)) := by
  intro m
  induction m using Nat.strongRecOn with
  | ind m ih =>
    intro i hi hx
    have hI : (Int32.ofNat i).toInt = i := zOfI (by omega)
    have hn : (Int32.ofNat i).toNatClampNeg = i := by
      have e : (Int32.ofNat i).toNatClampNeg = (Int32.ofNat i).toInt.toNat := rfl
      rw [e, hI]
      omega
    replace hx := zTr (C := nC39) (tb := []) h0 rfl rfl trivial (fun pc => pc.beq 53) 40 hx
    rcases hx with ⟨h1, hx⟩ | ⟨h1, h2, m', hm, hx⟩
    · have h1 : ¬ (i : Int) < 200 := fun h' => cGeT h1 (Int32.lt_iff_toInt_lt.mpr (by rw [hI]; exact h'))
      obtain rfl : i = 200 := by omega
      exact hx
    · have h1 := Int32.lt_iff_toInt_lt.mp (cGeF h1)
      rw [hI] at h1
      have h1 : (i : Int) < 200 := h1
      have hx : zF v5 d n 39 m' 53 [(1, .int (Int32.ofNat i + 1)), (0, .ref 183)] [] (zH c0 (zA (zA σ 34 (zCons 0 M i)) 34 (upd (zCons 0 M i) (Int32.ofNat i).toNatClampNeg 0))) = some r := hx
      rw [zA_zA, hn, zCons_s, ← zOfS] at hx
      exact ih m' (by omega) (i + 1) (by omega) hx
theorem z39 (h0 : zC0 c0) : zSp c0 v5 39 sp39 := by
  intro d n as σ cs r hs hx
  unfold sp39 at hs
  split at hs
  · cases hs
    obtain ⟨d', hx⟩ := zGo hx
    obtain ⟨-, -, m1, hm1, hx⟩ := zTr (C := nC39) (tb := []) h0 rfl rfl trivial (fun pc => pc.beq 32) 60 hx
    have hx : zF v5 d' n 39 m1 32 [(1, .int (Int32.ofNat 0)), (0, .ref 183)] [] (zH c0 (yFs0 σ)) = some r := hx
    rw [← zA_self (yFs0 σ) 39, show (yFs0 σ).2.2.1 39 = zCons 0 (σ.2.2.1 39) 0 from (zCons_0 _ _).symm] at hx
    obtain ⟨m2, k, hx⟩ := z39_a h0 m1 0 (by omega) hx
    obtain ⟨m3, hm3, hx⟩ := zTr (C := nC39) (tb := []) h0 rfl rfl trivial (fun pc => pc.beq 53) 60 hx
    have hx : zF v5 d' n 39 m3 53 [(1, .int (Int32.ofNat 0)), (0, .ref 183)] [] (zH c0 (zA (yFs0 σ) 39 (zCons 0 (σ.2.2.1 39) 10))) = some r := hx
    rw [← zA_self (zA (yFs0 σ) 39 (zCons 0 (σ.2.2.1 39) 10)) 34, show (zA (yFs0 σ) 39 (zCons 0 (σ.2.2.1 39) 10)).2.2.1 34 = zCons 0 (σ.2.2.1 34) 0 from (zCons_0 _ _).symm] at hx
    exact ⟨_, _, ⟨rfl, rfl⟩, z39_b h0 m3 0 (by omega) hx⟩
  · cases hs
/-- the line's end -/
abbrev yEol (τ : zS) (a : Int32) : Int32 := zSc (fun k => !decide (yT τ k.toNatClampNeg = 10)) (τ.1 25 18) a
theorem z8_b (h0 : zC0 c0) {d n : Nat} {r : mO × mH} {σ : zS} (hx : evM 158 nDflt (mP' (nCodw v5)) nHn nMxx' d n 8 [.ref 183] (zH c0 σ) = some r) : ∃ d' m', zF v5 d' n 8 m' 13 [(2, .int 0), (3, .int 0), (1, .int 0), (0, .ref 183)] [] (zH c0 (yFs (zI σ 25 0 0))) = some r := by
  obtain ⟨d', hx⟩ := zGo hx
  obtain ⟨_, _, ⟨rfl, rfl⟩, m', hm, hx⟩ := zTr (C := nC8) (tb := [(39, sp39)]) h0 rfl rfl ⟨z39 h0, trivial⟩ (fun pc => pc.beq 13) 60 hx
  have hx : zF v5 d' n 8 m' 13 [(2, .int 0), (1, .int 0), (0, .ref 183)] [] (zH c0 (yFs (zI σ 25 0 0))) = some r := hx
  exact ⟨d', m', zF_lv (b := [(2, .int 0), (3, .int 0), (1, .int 0), (0, .ref 183)]) (fun q hq => by
    simp only [List.mem_cons, List.not_mem_nil, or_false] at hq
    rcases hq with rfl | rfl | rfl <;> rfl) hx⟩
theorem z8_l (h0 : zC0 c0) {d n : Nat} {r : mO × mH} {τ : zS} {k a : Int32} : ∀ (m : Nat) (t : Int32), zF v5 d n 8 m 32 [(3, .int t), (1, .int k), (2, .int a), (0, .ref 183)] [] (zH c0 τ) = some r → ∃ m', m' ≤ m ∧ zF v5 d n 8 m' 57 [(3, .int (yEol τ t)), (1, .int k), (2, .int a), (0, .ref 183)] [] (zH c0 τ) = some r := by
  intro m
  induction m using Nat.strongRecOn with
  | ind m ih =>
    intro t hx
    replace hx := zTr (C := nC8) (tb := []) h0 rfl rfl trivial (fun pc => pc.beq 32 || pc.beq 57) 40 hx
    unfold yEol
    rcases hx with ⟨h1, m', hm, hx⟩ | ⟨h1, h2, ⟨h3, m', hm, hx⟩ | ⟨h3, m', hm, hx⟩⟩
    · rw [zSc_stop (fun h => cGeT h1 h.1)]
      exact ⟨m', by omega, hx⟩
    · rw [zSc_stop (fun h => by
        have h3 : yT τ t.toNatClampNeg = 10 := cEqT h3
        have := h.2
        rw [h3] at this
        exact absurd this (by decide))]
      exact ⟨m', by omega, hx⟩
    · have h3 : ¬ yT τ t.toNatClampNeg = 10 := cEqF h3
      rw [zSc_go (cGeF h1) (by rw [decide_eq_false h3]; rfl)]
      obtain ⟨m2, hm2, hx⟩ := ih m' (by omega) _ hx
      exact ⟨m2, by omega, hx⟩
theorem z8_t (h0 : zC0 c0) {d n m : Nat} {r : mO × mH} {τ : zS} {k a x : Int32} (hx : zF v5 d n 8 m 13 [(2, .int a), (3, .int x), (1, .int k), (0, .ref 183)] [] (zH c0 τ) = some r) : ((¬ yB τ = 0 ∨ ¬ τ.1 25 26 = 0) ∧ ∃ m', zF v5 d n 8 m' 85 [(2, .int a), (3, .int x), (1, .int k), (0, .ref 183)] [] (zH c0 τ) = some r) ∨ ((yB τ = 0 ∧ τ.1 25 26 = 0) ∧ ∃ τ1 m', m' < m ∧ zF v5 d n 8 m' 13 [(2, .int (yEol τ a + 1)), (3, .int (yEol τ a)), (1, .int (k + 1)), (0, .ref 183)] [] (zH c0 τ1) = some r ∧ ((τ.1 25 18 < a ∧ yFr τ τ1 ∧ ¬ yB τ1 = 0) ∨ (¬ τ.1 25 18 < a ∧ yRlR τ a (yEol τ a) (.inl none) τ1))) := by
  replace hx := zTr (C := nC8) (tb := []) h0 rfl rfl trivial (fun pc => pc.beq 32 || pc.beq 85) 60 hx
  rcases hx with ⟨h1, m1, hm1, hx⟩ | ⟨h1, ⟨h2, m1, hm1, hx⟩ | ⟨h2, m1, hm1, hx⟩⟩
  · exact Or.inl ⟨Or.inl (cNeT h1), m1, hx⟩
  · exact Or.inl ⟨Or.inr (cNeT h2), m1, hx⟩
  · refine Or.inr ⟨⟨cNeF h1, cNeF h2⟩, ?_⟩
    have hx : zF v5 d n 8 m1 32 [(3, .int a), (1, .int (k + 1)), (2, .int a), (0, .ref 183)] [] (zH c0 τ) = some r := hx
    obtain ⟨m2, hm2, hx⟩ := z8_l h0 m1 a hx
    replace hx := zTr (C := nC8) (tb := [(40, sp40), (41, sp41)]) h0 rfl rfl ⟨z40 h0, z41 h0, trivial⟩ (fun pc => pc.beq 13) 60 hx
    rcases hx with ⟨h3, o1, τ1, g, hx⟩ | ⟨h3, _, _, ⟨rfl, rfl⟩, m3, hm3, hx⟩
    · have g : yRlR τ a (yEol τ a) o1 τ1 := g
      obtain ⟨rfl, g'⟩ := g
      obtain ⟨m3, hm3, hx⟩ := hx
      exact ⟨τ1, m3, by omega, hx, Or.inr ⟨cLeT h3, rfl, g'⟩⟩
    · exact ⟨_, m3, by omega, hx, Or.inl ⟨cLeF h3, yFr_I (yFr_refl _) rfl, by show ¬ (1 : Int32) = 0; decide⟩⟩
end RF
