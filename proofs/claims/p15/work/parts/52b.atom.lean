/-! ATOMS AND EXPRESSIONS, AS FUNCTIONS OF THE TEXT -/
def zTs (σ : zS) (q : Int32) (nm : Int64) (ln cp nu : Int32) : zS := zI (zI (zI (zI (zL σ 9 6 nm) 9 8 cp) 9 9 nu) 9 7 ln) 9 2 q
theorem zTs_zTs (σ : zS) (q q' : Int32) (nm nm' : Int64) (ln cp nu ln' cp' nu' : Int32) : zTs (zTs σ q nm ln cp nu) q' nm' ln' cp' nu' = zTs σ q' nm' ln' cp' nu' := by
  unfold zTs zI zL
  dsimp only
  rw [u2_4, u2_u2]
theorem zTs_2 (σ : zS) (q : Int32) : zI σ 9 2 q = zTs σ q (σ.2.1 9 6) (σ.1 9 7) (σ.1 9 8) (σ.1 9 9) := by
  unfold zTs zI zL
  dsimp only
  rw [u2_self, u2_self, u2_self, u2_self]
/-- how many characters there are -/
abbrev zDn (p q : Int32) : Nat := (q.toInt - p.toInt).toNat
def zKn (T : Nat → Int32) (p : Int32) (n : Nat) : Int32 := zKf (zPk T p (min n 6)) (Int32.ofNat n) (zCp T p n)
abbrev zD0 (nm : Int64) : Int32 := (nm &&& 255).toInt32 - 48
/-- an atom: its value, where it ends -/
def sName (T : Nat → Int32) (L : Int64 → Int32) (D : Nat → Int32) (p q : Int32) (n : Nat) : Option (Int32 × Int32) := if zKn T p n = 1 then some (zNu T p n, q) else if zKn T p n = 4 then (if D (zD0 (zPk T p (min n 6))).toNatClampNeg = -1 then none else some (zVal (D (zD0 (zPk T p (min n 6))).toNatClampNeg), q)) else if zKn T p n = 2 then (if L (zPk T p (min n 6)) = -1 then none else some (zVal (L (zPk T p (min n 6))), q)) else none
def sAtom (T : Nat → Int32) (e pl : Int32) (L : Int64 → Int32) (D : Nat → Int32) (p : Int32) : Option (Int32 × Int32) := if p < e ∧ T p.toNatClampNeg = 42 then some (pl, p + 1) else sName T L D p (zRun T e p) (zDn p (zRun T e p))
abbrev xPl (σ : zS) : Int32 := σ.1 11 8
abbrev xL (σ : zS) : Int64 → Int32 := zLk (σ.2.2.2.1 13) (σ.2.2.1 14) (σ.1 12 2)
abbrev xD (σ : zS) : Nat → Int32 := σ.2.2.1 24
abbrev xAtom (σ : zS) : Option (Int32 × Int32) := sAtom (xT σ) (xPe σ) (xPl σ) (xL σ) (xD σ) (xAt σ)
abbrev sp221 (as : List Value) (σ : zS) : Option zCs := match as with
  | [.ref 169] => some (fun o σ' => (xAtom σ = none ∧ o = .inr 0 ∧ ∃ q nm ln cp nu, zX (zTs σ q nm ln cp nu) 0 = σ') ∨ (∃ v q, xAtom σ = some (v, q) ∧ o = .inl (some (.long v.toInt64)) ∧ ∃ nm ln cp nu, zTs σ q nm ln cp nu = σ'))
  | _ => none
section AT
variable {c0 : mH} {v5 : Value}
theorem z221 (h0 : zC0 c0) : zSp c0 v5 221 sp221 := by
  intro d n as σ cs r hs hx
  unfold sp221 at hs
  split at hs
  · cases hs
    obtain ⟨d', hx⟩ := zGo hx
    replace hx := zTr (C := nC221) (tb := [(127, sp127), (120, sp120), (121, sp121), (122, sp122), (68, sp68), (136, sp136)]) h0 rfl rfl ⟨z127 h0, z120 h0, z121 h0, z122 h0, z68 h0, z136 h0, trivial⟩ (fun _ => false) 80 hx
    obtain ⟨_, _, ⟨h1, rfl, rfl⟩ | ⟨h1, rfl, rfl⟩, hx⟩ := hx
    · rcases hx with ⟨-, hx⟩ | ⟨h, -⟩
      · obtain ⟨_, _, ⟨k, a1, a2, a3, rfl, rfl⟩, _, _, ⟨rfl, rfl⟩, hx⟩ := hx
        have hk : zDn (xAt σ) (zRun (xT σ) (xPe σ) (xAt σ)) = k := by
          unfold zDn
          rw [← a1, a2]
          omega
        have hu : xAtom σ = sName (xT σ) (xL σ) (xD σ) (xAt σ) (xAt σ + Int32.ofNat k) k := by
          unfold xAtom sAtom
          rw [if_neg (show ¬ (xAt σ < xPe σ ∧ xT σ (xAt σ).toNatClampNeg = 42) from h1), hk, ← a1]
        rw [hu]
        unfold sName
        rcases hx with ⟨h2, hx⟩ | ⟨h2, hx⟩
        · rw [if_neg (show ¬ zKn (xT σ) (xAt σ) k = 1 from cNeT h2)]
          rcases hx with ⟨h3, ⟨h4, hx⟩ | ⟨h4, hx⟩⟩ | ⟨h3, hx⟩
          · rw [if_neg (show ¬ zKn (xT σ) (xAt σ) k = 4 from cNeT h3), if_neg (show ¬ zKn (xT σ) (xAt σ) k = 2 from cNeT h4)]
            rcases hx with ⟨h, -⟩ | ⟨-, hx⟩
            · exact absurd rfl (cNeT h)
            · exact ⟨_, _, Or.inl ⟨rfl, rfl, _, _, _, _, _, rfl⟩, hx⟩
          · rw [if_neg (show ¬ zKn (xT σ) (xAt σ) k = 4 from cNeT h3), if_pos (show zKn (xT σ) (xAt σ) k = 2 from cNeF h4)]
            obtain ⟨_, _, ⟨rfl, rfl⟩, hx⟩ := hx
            rcases hx with ⟨h5, _, _, ⟨rfl, rfl⟩, hx⟩ | ⟨h5, hx⟩
            · rw [if_neg (show ¬ xL σ (zPk (xT σ) (xAt σ) (min k 6)) = -1 from cNeT h5)]
              exact ⟨_, _, Or.inr ⟨_, _, rfl, rfl, _, _, _, _, rfl⟩, hx⟩
            · rw [if_pos (show xL σ (zPk (xT σ) (xAt σ) (min k 6)) = -1 from cNeF h5)]
              exact ⟨_, _, Or.inl ⟨rfl, rfl, _, _, _, _, _, rfl⟩, hx⟩
          · rw [if_pos (show zKn (xT σ) (xAt σ) k = 4 from cNeF h3)]
            obtain ⟨_, _, ⟨rfl, rfl⟩, h4, hx⟩ := hx
            rcases hx with ⟨h5, _, _, ⟨rfl, rfl⟩, hx⟩ | ⟨h5, hx⟩
            · rw [if_neg (show ¬ xD σ (zD0 (zPk (xT σ) (xAt σ) (min k 6))).toNatClampNeg = -1 from cNeT h5)]
              exact ⟨_, _, Or.inr ⟨_, _, rfl, rfl, _, _, _, _, rfl⟩, hx⟩
            · rw [if_pos (show xD σ (zD0 (zPk (xT σ) (xAt σ) (min k 6))).toNatClampNeg = -1 from cNeF h5)]
              exact ⟨_, _, Or.inl ⟨rfl, rfl, _, _, _, _, _, rfl⟩, hx⟩
        · rw [if_pos (show zKn (xT σ) (xAt σ) k = 1 from cNeF h2)]
          exact ⟨_, _, Or.inr ⟨_, _, rfl, rfl, _, _, _, _, rfl⟩, hx⟩
      · exact absurd rfl (cEqF h)
    · rcases hx with ⟨h, -⟩ | ⟨-, hx⟩
      · exact absurd (cEqT h) (by decide)
      · refine ⟨_, _, Or.inr ⟨_, _, if_pos h1, rfl, _, _, _, _, (zTs_2 σ _).symm⟩, hx⟩
  · cases hs
end AT
