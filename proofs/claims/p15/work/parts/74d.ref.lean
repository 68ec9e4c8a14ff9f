/-! THE PROCESSOR, the reference's: conversions, shifts -/
section RD
variable {c0 : mH} {v5 : Value}
theorem z175 (h0 : zC0 c0) : zSp c0 v5 175 sp175 := by
  intro d n as σ cs r hs hx
  unfold sp175 at hs
  split at hs
  · cases hs
    obtain ⟨d', hx⟩ := zGo hx
    refine ⟨_, _, ⟨rfl, rfl⟩, ?_⟩
    have turn : ∀ (m k : Nat), k < 10 → zF v5 d' n 175 m 16 [(5, .int (Int32.ofNat k)), (1, .long (eQ (zMag (qR σ 0)).toInt64 k)), (3, .long (eC (zMag (qR σ 0)).toInt64 k)), (0, .ref 183)] [] (zH c0 σ) = some r → ∃ m', zF v5 d' n 175 m' 16 [(5, .int (Int32.ofNat (k + 1))), (1, .long (eQ (zMag (qR σ 0)).toInt64 (k + 1))), (3, .long (eC (zMag (qR σ 0)).toInt64 (k + 1))), (0, .ref 183)] [] (zH c0 σ) = some r := by
      intro m k hk hx
      replace hx := zTr (C := nC175) (tb := []) h0 rfl rfl trivial (fun pc => pc.beq 16 || pc.beq 53) 60 hx
      rcases hx with ⟨h1, hx⟩ | ⟨h1, _, _, m', hm, hx⟩
      · exfalso
        apply cGeT h1
        rw [Int32.lt_iff_toInt_lt, zOfI (by omega)]
        show (k : Int) < 10
        omega
      · refine ⟨m', ?_⟩
        rw [zOfS]
        exact hx
    obtain ⟨_, _, _, ⟨rfl, rfl⟩, m0, hm0, hx⟩ := zTr (C := nC175) (tb := [(70, sp70)]) h0 rfl rfl ⟨z70 h0, trivial⟩ (fun pc => pc.beq 16) 60 hx
    have hx1 : zF v5 d' n 175 m0 16 [(5, .int (Int32.ofNat 0)), (3, .long (eC (zMag (qR σ 0)).toInt64 0)), (1, .long (eQ (zMag (qR σ 0)).toInt64 0)), (0, .ref 183)] [] (zH c0 σ) = some r := hx
    have hx0 : zF v5 d' n 175 m0 16 [(5, .int (Int32.ofNat 0)), (1, .long (eQ (zMag (qR σ 0)).toInt64 0)), (3, .long (eC (zMag (qR σ 0)).toInt64 0)), (0, .ref 183)] [] (zH c0 σ) = some r := zF_lv (by
      intro q hq
      simp only [List.mem_cons, List.not_mem_nil, or_false] at hq
      rcases hq with rfl | rfl | rfl | rfl <;> rfl) hx1
    have all : ∀ k : Nat, k ≤ 10 → ∃ m', zF v5 d' n 175 m' 16 [(5, .int (Int32.ofNat k)), (1, .long (eQ (zMag (qR σ 0)).toInt64 k)), (3, .long (eC (zMag (qR σ 0)).toInt64 k)), (0, .ref 183)] [] (zH c0 σ) = some r := by
      intro k
      induction k with
      | zero => exact fun _ => ⟨m0, hx0⟩
      | succ k ih =>
        intro hk
        obtain ⟨m', h'⟩ := ih (by omega)
        exact turn m' k (by omega) h'
    obtain ⟨m', hx⟩ := all 10 (by omega)
    replace hx := zTr (C := nC175) (tb := [(73, sp73), (146, sp146)]) h0 rfl rfl ⟨z73 h0, z146 h0, trivial⟩ (fun pc => pc.beq 16) 60 hx
    unfold qSB qSM
    show r = zOut c0 (.inl none) (zA σ 27 (upd (upd (qR σ) 0 (2 * (eC (zMag (qR σ 0)).toInt64 10 >>> ((Int8.ofInt 30).toInt32.toInt64 &&& 63)).toInt32 + (if qR σ 0 &&& 1 = 1 then 1 else 0))) 7 (2 * (eC (zMag (qR σ 0)).toInt64 10 &&& 1073741823).toInt32 + (if qR σ 7 &&& 1 = 1 then 1 else 0))))
    rcases hx with ⟨h1, _, _, _, (⟨p, rfl, rfl⟩ | ⟨p, rfl, rfl⟩), _, _, ⟨rfl, rfl⟩, _, _, _, _, (⟨q, rfl, rfl⟩ | ⟨q, rfl, rfl⟩), _, _, ⟨rfl, rfl⟩, _, hx⟩ | ⟨h1, _⟩
    · rw [zA_zA] at hx
      rw [if_pos (show qR σ 0 &&& 1 = 1 from p), if_pos (show qR σ 7 &&& 1 = 1 from q)]
      exact hx
    · rw [zA_zA] at hx
      rw [if_pos (show qR σ 0 &&& 1 = 1 from p), if_neg (show ¬ qR σ 7 &&& 1 = 1 from q)]
      exact hx
    · rw [zA_zA] at hx
      rw [if_neg (show ¬ qR σ 0 &&& 1 = 1 from p), if_pos (show qR σ 7 &&& 1 = 1 from q)]
      exact hx
    · rw [zA_zA] at hx
      rw [if_neg (show ¬ qR σ 0 &&& 1 = 1 from p), if_neg (show ¬ qR σ 7 &&& 1 = 1 from q)]
      exact hx
    · exact absurd (cGeF h1) (by decide)
  · cases hs
theorem z110 (h0 : zC0 c0) : zSp c0 v5 110 sp110 := by
  intro d n as σ cs r hs hx
  unfold sp110 at hs
  split at hs
  · rename_i f
    cases hs
    obtain ⟨d', hx⟩ := zGo hx
    refine ⟨_, _, ⟨rfl, rfl⟩, ?_⟩
    -- the number of ten bytes
    have num : ∀ (τ : zS), qR τ = qR σ → ∀ m, zF v5 d' n 110 m 26 [(0, .ref 183), (1, .int f)] [] (zH c0 τ) = some r → r = zOut c0 (.inl none) (zA τ 27 (qSM (qR σ) 0 (eN (qR σ) 10 - eN (qR σ) 10 / 1073741824 * 1073741824).toInt32)) := by
      intro τ hτ m hx
      have turn : ∀ (m k : Nat), k < 10 → zF v5 d' n 110 m 31 [(4, .int (Int32.ofNat k)), (2, .long (eN (qR σ) k)), (0, .ref 183), (1, .int f)] [] (zH c0 τ) = some r → ∃ m', zF v5 d' n 110 m' 31 [(4, .int (Int32.ofNat (k + 1))), (2, .long (eN (qR σ) (k + 1))), (0, .ref 183), (1, .int f)] [] (zH c0 τ) = some r := by
        intro m k hk hx
        replace hx := zTr (C := nC110) (tb := [(174, sp174)]) h0 rfl rfl ⟨z174 h0, trivial⟩ (fun pc => pc.beq 31 || pc.beq 79) 60 hx
        rcases hx with ⟨h1, hx⟩ | ⟨h1, ⟨h2, _, _, _, _, ⟨rfl, rfl⟩, _, m', hm, hx⟩ | ⟨h2, _, _, _, _, ⟨rfl, rfl⟩, _, m', hm, hx⟩⟩
        · exfalso
          apply cGeT h1
          rw [Int32.lt_iff_toInt_lt, zOfI (by omega)]
          show (k : Int) < 10
          omega
        · refine ⟨m', ?_⟩
          rw [zOfS]
          unfold eN
          rw [if_neg (show ¬ Int32.ofNat k < 5 from cGeT h2), ← hτ]
          rw [← hτ] at hx
          exact hx
        · refine ⟨m', ?_⟩
          rw [zOfS]
          unfold eN
          rw [if_pos (show Int32.ofNat k < 5 from cGeF h2), ← hτ]
          rw [← hτ] at hx
          exact hx
      obtain ⟨m0, hm0, hx⟩ := zTr (C := nC110) (tb := []) h0 rfl rfl trivial (fun pc => pc.beq 31) 60 hx
      have all : ∀ k : Nat, k ≤ 10 → ∃ m', zF v5 d' n 110 m' 31 [(4, .int (Int32.ofNat k)), (2, .long (eN (qR σ) k)), (0, .ref 183), (1, .int f)] [] (zH c0 τ) = some r := by
        intro k
        induction k with
        | zero => exact fun _ => ⟨m0, hx⟩
        | succ k ih =>
          intro hk
          obtain ⟨m', h'⟩ := ih (by omega)
          exact turn m' k (by omega) h'
      obtain ⟨m', hx⟩ := all 10 (by omega)
      replace hx := zTr (C := nC110) (tb := [(73, sp73), (146, sp146)]) h0 rfl rfl ⟨z73 h0, z146 h0, trivial⟩ (fun pc => pc.beq 31) 60 hx
      unfold qSM
      rw [← hτ]
      rw [← hτ] at hx
      rcases hx with ⟨h1, _, _, _, _, (⟨p, rfl, rfl⟩ | ⟨p, rfl, rfl⟩), _, _, ⟨rfl, rfl⟩, _, hx⟩ | ⟨h1, _⟩
      · rw [if_pos (show qR τ 0 &&& 1 = 1 from p)]
        exact hx
      · rw [if_neg (show ¬ qR τ 0 &&& 1 = 1 from p)]
        exact hx
      · exact absurd (cGeF h1) (by decide)
    have good : f < 3 → yS σ = 0 → ∀ m, zF v5 d' n 110 m 22 [(0, .ref 183), (1, .int f)] [] (zH c0 (zI σ 25 4 0)) = some r → r = zOut c0 (.inl none) (ySpc σ f) := by
      intro h3 hq m hx
      unfold ySpc
      rw [if_neg (fun q => q.elim (fun q => q hq) (fun q => q h3))]
      replace hx := zTr (C := nC110) (tb := [(175, sp175)]) h0 rfl rfl ⟨z175 h0, trivial⟩ (fun pc => pc.beq 26) 60 hx
      rcases hx with ⟨h1, hx⟩ | ⟨h1, m', hm, hx⟩
      · rw [if_neg (cNeT h1)]
        rcases hx with ⟨h2, hx⟩ | ⟨h2, _, _, ⟨rfl, rfl⟩, hx⟩
        · rw [if_neg (show ¬ f = 1 from cNeT h2)]
          exact hx
        · rw [if_pos (show f = 1 from cNeF h2)]
          exact hx
      · rw [if_pos (cNeF h1)]
        exact num (zI σ 25 4 0) rfl m' hx
    have nd : ∀ (b : Int32) (m : Nat), (b = 1 ∧ f < 3 ∨ b = 0 ∧ ¬ f < 3) → zF v5 d' n 110 m 14 [(0, .ref 183), (1, .int f)] [] (zH c0 (zNd σ (¬ b = 0))) = some r → r = zOut c0 (.inl none) (ySpc σ f) := by
      intro b m hb hx
      replace hx := zTr (C := nC110) (tb := []) h0 rfl rfl trivial (fun pc => pc.beq 22) 60 hx
      unfold zNd at hx
      by_cases hq : yS σ = 0
      · rcases hb with ⟨rfl, h3⟩ | ⟨rfl, h3⟩
        · rw [if_neg (fun q => q.elim (fun q => q hq) (fun q => q (by decide)))] at hx
          rcases hx with ⟨h1, m', hm, hx⟩ | ⟨h1, hx⟩
          · exact good h3 hq m' hx
          · exact absurd rfl (cEqF h1)
        · rw [if_pos (.inr (fun q => q rfl))] at hx
          rcases hx with ⟨h1, m', hm, hx⟩ | ⟨h1, hx⟩
          · exact absurd (show (1 : Int32) = 0 from cEqT h1) (by decide)
          · unfold ySpc
            rw [if_pos (.inr h3)]
            exact hx
      · rw [if_pos (.inl hq)] at hx
        rcases hx with ⟨h1, m', hm, hx⟩ | ⟨h1, hx⟩
        · exact absurd (show (1 : Int32) = 0 from cEqT h1) (by decide)
        · unfold ySpc
          rw [if_pos (.inl hq)]
          exact hx
    replace hx := zTr (C := nC110) (tb := [(113, sp113)]) h0 rfl rfl ⟨z113 h0, trivial⟩ (fun pc => pc.beq 14) 60 hx
    rcases hx with ⟨h1, _, _, ⟨rfl, rfl⟩, m', hm, hx⟩ | ⟨h1, _, _, ⟨rfl, rfl⟩, m', hm, hx⟩
    · exact nd 0 m' (.inr ⟨rfl, cGeT h1⟩) hx
    · exact nd 1 m' (.inl ⟨rfl, cGeF h1⟩) hx
  · cases hs
end RD
