/-! THE OPERATION OF A LINE -/
def opF (nm : Int64) : Nat → Nat → Option (Nat × Int32)
  | 0, _ => none
  | k + 1, i => if opC (i + 2) nm = -1 then opF nm k (i + 1) else some (i + 2, opC (i + 2) nm)
abbrev sp88 (as : List Value) (σ : zS) : Option zCs := match as with
  | [.ref q] => some (fun o σ' => (zCd q < 64 ∧ zR σ 1 o σ') ∨ (¬ zCd q < 64 ∧ zR σ 0 o σ'))
  | _ => none
abbrev zTel (c : Int32) : Prop := c = 5 ∨ c = 6 ∨ (¬ c < 39 ∧ ¬ 55 < c)
abbrev sp129 (as : List Value) (σ : zS) : Option zCs := match as with
  | [.ref q] => some (fun o σ' => (zTel (zCd q) ∧ zR σ 1 o σ') ∨ (¬ zTel (zCd q) ∧ zR σ 0 o σ'))
  | _ => none
abbrev xO1 (σ : zS) : Int32 := zSkip (xT σ) (xLe σ) (xAt σ)
abbrev xOe (σ : zS) : Int32 := zStop (xT σ) (xLe σ) (xO1 σ)
abbrev xOq (σ : zS) : Int32 := zRun (xT σ) (xOe σ) (xO1 σ)
abbrev xOn (σ : zS) : Nat := zDn (xO1 σ) (xOq σ)
abbrev xOm (σ : zS) : Int64 := zPk (xT σ) (xO1 σ) (min (xOn σ) 6)
abbrev zOpS (σ : zS) (p1 pe1 q1 : Int32) (M : Int64) (ln cp nu : Int32) (q : Nat) (c : Int32) : zS := zI (zI (zI (zQ (zTs (zI (zI σ 9 2 p1) 9 5 pe1) q1 M ln cp nu) q) 11 16 c) 9 2 (zSkip (xT σ) (xLe σ) q1)) 9 5 (zStop (xT σ) (xLe σ) (zSkip (xT σ) (xLe σ) q1))
abbrev zOpP (σ : zS) (p1 pe1 q1 : Int32) (M : Int64) : zCs := fun o σ' => ((opF M 50 0 = none ∨ q1 < pe1) ∧ zFl σ o σ') ∨ (∃ q c, opF M 50 0 = some (q, c) ∧ ¬ q1 < pe1 ∧ ∃ ln cp nu, zN (zOpS σ p1 pe1 q1 M ln cp nu q c) o σ')
abbrev sp84 (as : List Value) (σ : zS) : Option zCs := match as with
  | [.ref 169] => some (zOpP σ (xO1 σ) (xOe σ) (xOq σ) (xOm σ))
  | _ => none
theorem zIQ (τ : zS) (a b : Nat) (x y : Int32) : zI (zQ (zI (zQ τ a) 11 16 x) b) 11 16 y = zI (zQ τ b) 11 16 y := by
  unfold zI zQ
  dsimp only
  rw [u2_u2]
section OP
variable {c0 : mH} {v5 : Value}
theorem z88 (h0 : zC0 c0) : zSp c0 v5 88 sp88 := by
  intro d n as σ cs r hs hx
  unfold sp88 at hs
  split at hs
  · cases hs
    obtain ⟨d', hx⟩ := zGo hx
    replace hx := zTr (C := nC88) (tb := []) h0 rfl rfl trivial (fun _ => false) 60 hx
    rcases hx with ⟨-, ⟨h1, hx⟩ | ⟨h1, hx⟩⟩
    · exact ⟨_, _, Or.inr ⟨cGeT h1, rfl, rfl⟩, hx⟩
    · exact ⟨_, _, Or.inl ⟨cGeF h1, rfl, rfl⟩, hx⟩
  · cases hs
theorem z129 (h0 : zC0 c0) : zSp c0 v5 129 sp129 := by
  intro d n as σ cs r hs hx
  unfold sp129 at hs
  split at hs
  · cases hs
    obtain ⟨d', hx⟩ := zGo hx
    replace hx := zTr (C := nC129) (tb := []) h0 rfl rfl trivial (fun _ => false) 60 hx
    rcases hx with ⟨-, ⟨h1, hx⟩ | ⟨h1, -, ⟨h2, hx⟩ | ⟨h2, -, ⟨h3, hx⟩ | ⟨h3, -, ⟨h4, hx⟩ | ⟨h4, hx⟩⟩⟩⟩⟩
    · exact ⟨_, _, Or.inl ⟨Or.inl (cEqT h1), rfl, rfl⟩, hx⟩
    · exact ⟨_, _, Or.inl ⟨Or.inr (Or.inl (cEqT h2)), rfl, rfl⟩, hx⟩
    · exact ⟨_, _, Or.inr ⟨fun h => h.elim (cEqF h1) (fun h => h.elim (cEqF h2) (fun h => h.1 (cLtT h3))), rfl, rfl⟩, hx⟩
    · exact ⟨_, _, Or.inr ⟨fun h => h.elim (cEqF h1) (fun h => h.elim (cEqF h2) (fun h => h.2 (cGtT h4))), rfl, rfl⟩, hx⟩
    · exact ⟨_, _, Or.inl ⟨Or.inr (Or.inr ⟨cLtF h3, cGtF h4⟩), rfl, rfl⟩, hx⟩
  · cases hs
theorem z84_l (h0 : zC0 c0) {d n : Nat} {r : mO × mH} : ∀ (m i : Nat) (τ : zS), i ≤ 50 → τ.1 11 16 = -1 → zF v5 d n 84 m 28 [(1, .int (Int32.ofNat i)), (0, .ref 169)] [] (zH c0 τ) = some r → ∃ m' i' q c, zF v5 d n 84 m' 77 [(1, .int i'), (0, .ref 169)] [] (zH c0 (zI (zQ τ q) 11 16 c)) = some r ∧ ((opF (τ.2.1 9 6) (50 - i) i = none ∧ c = -1) ∨ (opF (τ.2.1 9 6) (50 - i) i = some (q, c) ∧ ¬ c = -1)) := by
  intro m
  induction m using Nat.strongRecOn with
  | ind m ih =>
    intro i τ hi ht hx
    have hI : (Int32.ofNat i).toInt = i := zOfI (by omega)
    have hn : (Int32.ofNat i).toNatClampNeg = i := by
      have e : (Int32.ofNat i).toNatClampNeg = (Int32.ofNat i).toInt.toNat := rfl
      rw [e, hI]
      omega
    have self : zI (zQ τ τ.2.2.2.2.1) 11 16 (-1) = τ := by
      rw [← ht]
      exact zI_self 11 16
    replace hx := zTr (C := nC84) (tb := [(125, sp125)]) h0 rfl rfl ⟨z125 h0, trivial⟩ (fun pc => pc.beq 28 || pc.beq 77) 60 hx
    rcases hx with ⟨h1, m', hm, hx⟩ | ⟨h1, ⟨h2, m', hm, hx⟩ | ⟨h2, h3, hx⟩⟩
    · have h1 : ¬ (i : Int) < 50 := fun h' => cGeT h1 (Int32.lt_iff_toInt_lt.mpr (by rw [hI]; exact h'))
      refine ⟨m', Int32.ofNat i, τ.2.2.2.2.1, -1, ?_, Or.inl ⟨?_, rfl⟩⟩
      · rw [self]
        exact hx
      · rw [show 50 - i = 0 by omega]
        rfl
    · exact absurd ht (cNeT h2)
    · have h1 := Int32.lt_iff_toInt_lt.mp (cGeF h1)
      rw [hI] at h1
      have h1 : (i : Int) < 50 := h1
      rw [show 50 - i = (50 - (i + 1)) + 1 by omega]
      obtain ⟨_, _, ⟨-, rfl, rfl⟩, m', hm, hx⟩ := hx
      have hx : zF v5 d n 84 m' 28 [(1, .int (Int32.ofNat i + 1)), (0, .ref 169)] [] (zH c0 (zI (zQ τ ((Int32.ofNat i).toNatClampNeg + 2)) 11 16 (opC ((Int32.ofNat i).toNatClampNeg + 2) (τ.2.1 9 6)))) = some r := hx
      rw [hn, ← zOfS] at hx
      unfold opF
      by_cases hc : opC (i + 2) (τ.2.1 9 6) = -1
      · rw [if_pos hc]
        rw [hc] at hx
        obtain ⟨m2, i2, q, c, g1, g2⟩ := ih m' (by omega) (i + 1) _ (by omega) rfl hx
        rw [zIQ] at g1
        exact ⟨m2, i2, q, c, g1, g2⟩
      · rw [if_neg hc]
        replace hx := zTr (C := nC84) (tb := []) h0 rfl rfl trivial (fun pc => pc.beq 77) 60 hx
        rcases hx with ⟨h4, m2, hm2, hx⟩ | ⟨h4, ⟨h5, m2, hm2, hx⟩ | ⟨h5, -⟩⟩
        · exact ⟨m2, Int32.ofNat (i + 1), i + 2, _, hx, Or.inr ⟨rfl, hc⟩⟩
        · exact ⟨m2, Int32.ofNat (i + 1), i + 2, _, hx, Or.inr ⟨rfl, hc⟩⟩
        · exact absurd (cNeF h5) hc
theorem z84_k (h0 : zC0 c0) {d n m : Nat} {r : mO × mH} {σ : zS} {p1 pe1 q1 : Int32} {M : Int64} {ln cp nu : Int32} (hx : zF v5 d n 84 m 21 [(0, .ref 169)] [] (zH c0 (zTs (zI (zI σ 9 2 p1) 9 5 pe1) q1 M ln cp nu)) = some r) : ∃ o σ', zOpP σ p1 pe1 q1 M o σ' ∧ r = zOut c0 o σ' := by
  obtain ⟨m', hm, hx⟩ := zTr (C := nC84) (tb := []) h0 rfl rfl trivial (fun pc => pc.beq 28) 60 hx
  have hx : zF v5 d n 84 m' 28 [(1, .int (Int32.ofNat 0)), (0, .ref 169)] [] (zH c0 (zI (zTs (zI (zI σ 9 2 p1) 9 5 pe1) q1 M ln cp nu) 11 16 (-1))) = some r := hx
  obtain ⟨m2, i2, q, c, hx, hc⟩ := z84_l h0 m' 0 _ (by omega) rfl hx
  have e : zI (zQ (zI (zTs (zI (zI σ 9 2 p1) 9 5 pe1) q1 M ln cp nu) 11 16 (-1)) q) 11 16 c = zI (zQ (zTs (zI (zI σ 9 2 p1) 9 5 pe1) q1 M ln cp nu) q) 11 16 c := by
    unfold zI zQ
    dsimp only
    rw [u2_u2]
  rw [e] at hx
  have hc : (opF M 50 0 = none ∧ c = -1) ∨ (opF M 50 0 = some (q, c) ∧ ¬ c = -1) := hc
  have f0 : zFr σ (zI (zQ (zTs (zI (zI σ 9 2 p1) 9 5 pe1) q1 M ln cp nu) q) 11 16 c) := zFr_I (zFr_Q (zFr_T (zFr_I (zFr_I (zFr_refl _) rfl) rfl))) rfl
  replace hx := zTr (C := nC84) (tb := [(119, sp119), (124, sp124), (118, sp118)]) h0 rfl rfl ⟨z119 h0, z124 h0, z118 h0, trivial⟩ (fun _ => false) 60 hx
  rcases hx with ⟨h1, hx⟩ | ⟨h1, hx⟩
  · have h1 : c = -1 := cEqT h1
    rcases hc with ⟨hc, -⟩ | ⟨-, hc⟩
    · exact ⟨_, _, Or.inl ⟨Or.inl hc, rfl, zFr_X f0⟩, hx⟩
    · exact absurd h1 hc
  · have h1 : ¬ c = -1 := cEqF h1
    rcases hc with ⟨-, hc⟩ | ⟨hc, -⟩
    · exact absurd hc h1
    · obtain ⟨_, _, ⟨h2, rfl, rfl⟩ | ⟨h2, rfl, rfl⟩, hx⟩ := hx
      · rcases hx with ⟨-, hx⟩ | ⟨h, -⟩
        · obtain ⟨_, _, ⟨rfl, rfl⟩, _, _, ⟨rfl, rfl⟩, hx⟩ := hx
          exact ⟨_, _, Or.inr ⟨q, c, hc, h2, ln, cp, nu, rfl, rfl⟩, hx⟩
        · exact absurd (cNeF h) (by decide)
      · rcases hx with ⟨h, -⟩ | ⟨-, hx⟩
        · exact absurd rfl (cNeT h)
        · exact ⟨_, _, Or.inl ⟨Or.inr h2, rfl, zFr_X f0⟩, hx⟩
theorem z84 (h0 : zC0 c0) : zSp c0 v5 84 sp84 := by
  intro d n as σ cs r hs hx
  unfold sp84 at hs
  split at hs
  · cases hs
    obtain ⟨d', hx⟩ := zGo hx
    replace hx := zTr (C := nC84) (tb := [(124, sp124), (118, sp118), (120, sp120)]) h0 rfl rfl ⟨z124 h0, z118 h0, z120 h0, trivial⟩ (fun pc => pc.beq 21) 60 hx
    obtain ⟨_, _, ⟨rfl, rfl⟩, _, _, ⟨rfl, rfl⟩, _, _, ⟨k, a1, a2, a3, rfl, rfl⟩, m', hm, hx⟩ := hx
    have a1 : xO1 σ + Int32.ofNat k = xOq σ := a1
    have hk : xOn σ = k := by
      show ((xOq σ).toInt - (xO1 σ).toInt).toNat = k
      rw [← a1, show (xO1 σ + Int32.ofNat k).toInt = (xO1 σ).toInt + k from a2]
      omega
    have hx : zF v5 d' n 84 m' 21 [(0, .ref 169)] [] (zH c0 (zTs (zI (zI σ 9 2 (xO1 σ)) 9 5 (xOe σ)) (xO1 σ + Int32.ofNat k) (zPk (xT σ) (xO1 σ) (min k 6)) (Int32.ofNat k) (zCp (xT σ) (xO1 σ) k) (zNu (xT σ) (xO1 σ) k))) = some r := hx
    have hm : xOm σ = zPk (xT σ) (xO1 σ) (min k 6) := by
      show zPk (xT σ) (xO1 σ) (min (xOn σ) 6) = _
      rw [hk]
    rw [a1, ← hm] at hx
    exact z84_k h0 hx
  · cases hs
end OP
