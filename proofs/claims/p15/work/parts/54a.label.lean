/-! LABELS -/
/-- where the part that begins at hand ends -/
abbrev zStop (T : Nat → Int32) (e p : Int32) : Int32 := zSc (fun k => !decide (T k.toNatClampNeg = 32)) e p
abbrev zSkip (T : Nat → Int32) (e p : Int32) : Int32 := zSc (fun k => decide (T k.toNatClampNeg = 32)) e p
abbrev xSt (σ : zS) : Int32 := zStop (xT σ) (xLe σ) (xAt σ)
/-- the label's name: its end, its length, its kind, its characters -/
abbrev xLq (σ : zS) : Int32 := zRun (xT σ) (xSt σ) (xAt σ)
abbrev xLn (σ : zS) : Nat := zDn (xAt σ) (xLq σ)
abbrev xLk (σ : zS) : Int32 := zKn (xT σ) (xAt σ) (xLn σ)
abbrev xLm (σ : zS) : Int64 := zPk (xT σ) (xAt σ) (min (xLn σ) 6)
abbrev zLb0 (σ : zS) : zS := zI (zI σ 9 5 (xSt σ)) 11 12 0
abbrev sp83 (as : List Value) (σ : zS) : Option zCs := match as with
  | [.ref 169] => some (fun o σ' => (¬ xAt σ < xSt σ ∧ zN (zLb0 σ) o σ') ∨ (xAt σ < xSt σ ∧ ((¬ (¬ xLq σ < xSt σ ∧ (xLk σ = 2 ∨ xLk σ = 3)) ∧ zFl σ o σ') ∨ (¬ xLq σ < xSt σ ∧ xLk σ = 3 ∧ ∃ nm ln cp nu, zN (zI (zI (zTs (zLb0 σ) (xLq σ) nm ln cp nu) 11 12 3) 11 14 (zD0 (xLm σ))) o σ') ∨ (¬ xLq σ < xSt σ ∧ xLk σ = 2 ∧ ((zSyF σ (xLm σ) ∧ zFl σ o σ') ∨ ∃ nm ln cp nu, zSyR (zI (zTs (zLb0 σ) (xLq σ) nm ln cp nu) 11 12 2) (xLm σ) (fun x τ => (¬ τ.2.2.1 14 x.toNatClampNeg = -1 ∧ zFl σ o σ') ∨ (τ.2.2.1 14 x.toNatClampNeg = -1 ∧ zN (zI τ 11 13 x) o σ')))))))
  | _ => none
abbrev sp85 (as : List Value) (σ : zS) : Option zCs := match as with
  | [.ref 169] => some (fun o σ' => (((σ.2.2.2.2.1 = 48 ∧ σ.1 11 12 = 0) ∨ (σ.2.2.2.2.1 = 51 ∧ ¬ σ.1 11 12 = 0)) ∧ zFl σ o σ') ∨ (¬ ((σ.2.2.2.2.1 = 48 ∧ σ.1 11 12 = 0) ∨ (σ.2.2.2.2.1 = 51 ∧ ¬ σ.1 11 12 = 0)) ∧ zN σ o σ'))
  | _ => none
section LA
variable {c0 : mH} {v5 : Value}
/-- a label's cases, of its end, its kind, its characters -/
abbrev zLbP (σ : zS) (q K : Int32) (M : Int64) : zCs := fun o σ' => ((¬ (¬ q < xSt σ ∧ (K = 2 ∨ K = 3)) ∧ zFl σ o σ') ∨ (¬ q < xSt σ ∧ K = 3 ∧ ∃ nm ln cp nu, zN (zI (zI (zTs (zLb0 σ) q nm ln cp nu) 11 12 3) 11 14 (zD0 M)) o σ') ∨ (¬ q < xSt σ ∧ K = 2 ∧ ((zSyF σ M ∧ zFl σ o σ') ∨ ∃ nm ln cp nu, zSyR (zI (zTs (zLb0 σ) q nm ln cp nu) 11 12 2) M (fun x τ => (¬ τ.2.2.1 14 x.toNatClampNeg = -1 ∧ zFl σ o σ') ∨ (τ.2.2.1 14 x.toNatClampNeg = -1 ∧ zN (zI τ 11 13 x) o σ')))))
theorem z83_k (h0 : zC0 c0) {d n m : Nat} {r : mO × mH} {σ : zS} {q K : Int32} {M : Int64} {ln cp nu : Int32} (hK : zKf M ln cp = K) (hx : zF v5 d n 83 m 30 [(0, .ref 169)] [] (zH c0 (zTs (zLb0 σ) q M ln cp nu)) = some r) : ∃ o σ', zLbP σ q K M o σ' ∧ r = zOut c0 o σ' := by
  replace hx := zTr (C := nC83) (tb := [(121, sp121), (119, sp119), (122, sp122), (123, sp123)]) h0 rfl rfl ⟨z121 h0, z119 h0, z122 h0, z123 h0, trivial⟩ (fun _ => false) 60 hx
  have f0 : zFr σ (zTs (zLb0 σ) q M ln cp nu) := zFr_T (zFr_I (zFr_I (zFr_refl _) rfl) rfl)
  obtain ⟨_, _, ⟨rfl, rfl⟩, hx⟩ := hx
  obtain ⟨_, _, ⟨h1, rfl, rfl⟩ | ⟨h1, rfl, rfl⟩, hx⟩ := hx
  · rcases hx with ⟨h, -⟩ | ⟨-, hx⟩
    · exact absurd (cEqT h) (by decide)
    · rcases hx with ⟨h2, hx⟩ | ⟨h2, ⟨h3, hx⟩ | ⟨h3, hx⟩⟩
      · have h2 : K = 2 := hK.symm.trans (cEqT h2)
        rcases hx with ⟨-, hx⟩ | ⟨h, -⟩
        · obtain ⟨_, _, ⟨h4, rfl, rfl⟩ | ⟨h4, h5, rfl, rfl⟩ | ⟨h4, h5, h6, h7, rfl, rfl⟩, hx⟩ := hx
          · exact ⟨_, _, Or.inr (Or.inr ⟨h1, h2, Or.inl ⟨h4, rfl, zFr_X (zFr_I f0 rfl)⟩⟩), hx⟩
          · obtain ⟨-, hx⟩ := hx
            rcases hx with ⟨h8, hx⟩ | ⟨h8, hx⟩
            · refine ⟨_, _, Or.inr (Or.inr ⟨h1, h2, Or.inr ⟨M, ln, cp, nu, Or.inl ⟨h4, h5, Or.inr ⟨cEqT h8, rfl, ?_⟩⟩⟩⟩), hx⟩
              show zI (zI (zTs (zLb0 σ) q M ln cp nu) 11 12 2) 11 13 (xIx σ M) = zI (zI (zTs (zLb0 σ) q M ln cp nu) 11 12 (zKf M ln cp)) 11 13 (xIx σ M)
              rw [hK, h2]
            · exact ⟨_, _, Or.inr (Or.inr ⟨h1, h2, Or.inr ⟨M, ln, cp, nu, Or.inl ⟨h4, h5, Or.inl ⟨cEqF h8, rfl, zFr_X (zFr_I (zFr_I f0 rfl) rfl)⟩⟩⟩⟩), hx⟩
          · obtain ⟨-, hx⟩ := hx
            rcases hx with ⟨h8, hx⟩ | ⟨h8, hx⟩
            · refine ⟨_, _, Or.inr (Or.inr ⟨h1, h2, Or.inr ⟨M, ln, cp, nu, Or.inr ⟨h4, h5, h6, h7, Or.inr ⟨cEqT h8, rfl, ?_⟩⟩⟩⟩), hx⟩
              show zI (zNew (zI (zTs (zLb0 σ) q M ln cp nu) 11 12 2) M) 11 13 (xCn σ) = zI (zNew (zI (zTs (zLb0 σ) q M ln cp nu) 11 12 (zKf M ln cp)) M) 11 13 (xCn σ)
              rw [hK, h2]
            · exact ⟨_, _, Or.inr (Or.inr ⟨h1, h2, Or.inr ⟨M, ln, cp, nu, Or.inr ⟨h4, h5, h6, h7, Or.inl ⟨cEqF h8, rfl, zFr_X (zFr_I (zFr_N (zFr_I f0 rfl)) rfl)⟩⟩⟩⟩), hx⟩
        · have h : K = 3 := hK.symm.trans (cNeF h)
          exact absurd (h2.symm.trans h) (by decide)
      · have h3 : K = 3 := hK.symm.trans (cEqT h3)
        rcases hx with ⟨h, -⟩ | ⟨-, hx⟩
        · exact absurd (hK.trans h3) (cNeT h)
        · obtain ⟨_, _, ⟨rfl, rfl⟩, hx⟩ := hx
          refine ⟨_, _, Or.inr (Or.inl ⟨h1, h3, M, ln, cp, nu, rfl, ?_⟩), hx⟩
          show zI (zI (zTs (zLb0 σ) q M ln cp nu) 11 12 3) 11 14 (zD0 M) = zI (zI (zTs (zLb0 σ) q M ln cp nu) 11 12 (zKf M ln cp)) 11 14 (zD0 M)
          rw [hK, h3]
      · exact ⟨_, _, Or.inl ⟨fun h => h.2.elim (fun h => cEqF h2 (hK.trans h)) (fun h => cEqF h3 (hK.trans h)), rfl, zFr_X (zFr_I f0 rfl)⟩, hx⟩
  · rcases hx with ⟨-, hx⟩ | ⟨h, -⟩
    · exact ⟨_, _, Or.inl ⟨fun h => h.1 h1, rfl, zFr_X (zFr_I f0 rfl)⟩, hx⟩
    · exact absurd rfl (cEqF h)
theorem z83_n (h0 : zC0 c0) {d n m : Nat} {r : mO × mH} {σ : zS} (hx : zF v5 d n 83 m 23 [(0, .ref 169)] [] (zH c0 (zLb0 σ)) = some r) : ∃ o σ', zLbP σ (xLq σ) (xLk σ) (xLm σ) o σ' ∧ r = zOut c0 o σ' := by
  replace hx := zTr (C := nC83) (tb := [(120, sp120)]) h0 rfl rfl ⟨z120 h0, trivial⟩ (fun pc => pc.beq 30) 60 hx
  obtain ⟨_, _, ⟨k, a1, a2, a3, rfl, rfl⟩, m', hm, hx⟩ := hx
  have a1 : xAt σ + Int32.ofNat k = xLq σ := a1
  have hk : xLn σ = k := by
    show ((xLq σ).toInt - (xAt σ).toInt).toNat = k
    rw [← a1, show (xAt σ + Int32.ofNat k).toInt = (xAt σ).toInt + k from a2]
    omega
  have hx : zF v5 d n 83 m' 30 [(0, .ref 169)] [] (zH c0 (zTs (zLb0 σ) (xAt σ + Int32.ofNat k) (zPk (xT σ) (xAt σ) (min k 6)) (Int32.ofNat k) (zCp (xT σ) (xAt σ) k) (zNu (xT σ) (xAt σ) k))) = some r := hx
  have hm : xLm σ = zPk (xT σ) (xAt σ) (min k 6) := by
    show zPk (xT σ) (xAt σ) (min (xLn σ) 6) = _
    rw [hk]
  have hK : xLk σ = zKf (zPk (xT σ) (xAt σ) (min k 6)) (Int32.ofNat k) (zCp (xT σ) (xAt σ) k) := by
    show zKn (xT σ) (xAt σ) (xLn σ) = _
    rw [hk]
    rfl
  rw [a1, ← hm] at hx
  rw [← hm] at hK
  exact z83_k h0 hK.symm hx
theorem z83 (h0 : zC0 c0) : zSp c0 v5 83 sp83 := by
  intro d n as σ cs r hs hx
  unfold sp83 at hs
  split at hs
  · cases hs
    obtain ⟨d', hx⟩ := zGo hx
    replace hx := zTr (C := nC83) (tb := [(118, sp118), (119, sp119)]) h0 rfl rfl ⟨z118 h0, z119 h0, trivial⟩ (fun pc => pc.beq 23) 60 hx
    obtain ⟨_, _, ⟨rfl, rfl⟩, _, _, ⟨h1, rfl, rfl⟩ | ⟨h1, rfl, rfl⟩, hx⟩ := hx
    · rcases hx with ⟨h, -⟩ | ⟨-, hx⟩
      · exact absurd (cEqT h) (by decide)
      · exact ⟨_, _, Or.inl ⟨h1, rfl, rfl⟩, hx⟩
    · rcases hx with ⟨-, m', hm, hx⟩ | ⟨h, -⟩
      · obtain ⟨o, σ', g1, g2⟩ := z83_n h0 hx
        exact ⟨o, σ', Or.inr ⟨h1, g1⟩, g2⟩
      · exact absurd rfl (cEqF h)
  · cases hs
theorem z85 (h0 : zC0 c0) : zSp c0 v5 85 sp85 := by
  intro d n as σ cs r hs hx
  unfold sp85 at hs
  split at hs
  · cases hs
    obtain ⟨d', hx⟩ := zGo hx
    replace hx := zTr (C := nC85) (tb := []) h0 rfl rfl trivial (fun pc => pc.beq 23) 60 hx
    have two : ∀ (m' : Nat) (b : Int32) (hb : (b = 1 ∧ σ.2.2.2.2.1 = 48 ∧ σ.1 11 12 = 0) ∨ (b = 0 ∧ ¬ (σ.2.2.2.2.1 = 48 ∧ σ.1 11 12 = 0))), zF v5 d' n 85 m' 23 [(1, .int b), (0, .ref 169)] [] (zH c0 σ) = some r → ∃ o σ', ((((σ.2.2.2.2.1 = 48 ∧ σ.1 11 12 = 0) ∨ (σ.2.2.2.2.1 = 51 ∧ ¬ σ.1 11 12 = 0)) ∧ zFl σ o σ') ∨ (¬ ((σ.2.2.2.2.1 = 48 ∧ σ.1 11 12 = 0) ∨ (σ.2.2.2.2.1 = 51 ∧ ¬ σ.1 11 12 = 0)) ∧ zN σ o σ')) ∧ r = zOut c0 o σ' := by
      intro m' b hb hx
      replace hx := zTr (C := nC85) (tb := []) h0 rfl rfl trivial (fun _ => false) 60 hx
      rcases hx with ⟨h1, hx⟩ | ⟨h1, ⟨h2, hx⟩ | ⟨h2, hx⟩⟩
      · have h1 := of_decide_eq_true h1
        rcases hx with ⟨h3, hx⟩ | ⟨h3, ⟨-, hx⟩ | ⟨h, -⟩⟩
        · rcases hb with ⟨-, hb⟩ | ⟨rfl, -⟩
          · exact ⟨_, _, Or.inl ⟨Or.inl hb, rfl, zFr_X (zFr_refl _)⟩, hx⟩
          · exact absurd rfl (cNeT h3)
        · rcases hb with ⟨rfl, -⟩ | ⟨-, hb⟩
          · exact absurd (cNeF h3) (by decide)
          · exact ⟨_, _, Or.inr ⟨fun h => h.elim hb (fun h => h1 h.1), rfl, rfl⟩, hx⟩
        · exact absurd rfl (cEqF h)
      · rcases hx with ⟨h3, hx⟩ | ⟨h3, ⟨-, hx⟩ | ⟨h, -⟩⟩
        · rcases hb with ⟨-, hb⟩ | ⟨rfl, -⟩
          · exact ⟨_, _, Or.inl ⟨Or.inl hb, rfl, zFr_X (zFr_refl _)⟩, hx⟩
          · exact absurd rfl (cNeT h3)
        · rcases hb with ⟨rfl, -⟩ | ⟨-, hb⟩
          · exact absurd (cNeF h3) (by decide)
          · exact ⟨_, _, Or.inr ⟨fun h => h.elim hb (fun h => h.2 (cEqT h2)), rfl, rfl⟩, hx⟩
        · exact absurd rfl (cEqF h)
      · have h1 : σ.2.2.2.2.1 = 51 := Decidable.not_not.mp (of_decide_eq_false h1)
        rcases hx with ⟨h3, hx⟩ | ⟨h3, ⟨h, -⟩ | ⟨-, hx⟩⟩
        · exact ⟨_, _, Or.inl ⟨Or.inr ⟨h1, cEqF h2⟩, rfl, zFr_X (zFr_refl _)⟩, hx⟩
        · exact absurd (cEqT h) (by decide)
        · exact ⟨_, _, Or.inl ⟨Or.inr ⟨h1, cEqF h2⟩, rfl, zFr_X (zFr_refl _)⟩, hx⟩
    rcases hx with ⟨h1, m', hm, hx⟩ | ⟨h1, ⟨h2, m', hm, hx⟩ | ⟨h2, m', hm, hx⟩⟩
    · exact two m' 0 (Or.inr ⟨rfl, fun h => of_decide_eq_true h1 h.1⟩) hx
    · exact two m' 0 (Or.inr ⟨rfl, fun h => cNeT h2 h.2⟩) hx
    · exact two m' 1 (Or.inl ⟨rfl, Decidable.not_not.mp (of_decide_eq_false h1), cNeF h2⟩) hx
  · cases hs
end LA
