/-! STUBS -/
abbrev nMxx : Nat → Nat := fun i => (nMt i).2.2.1
def nFv (v : Value) : Prop := v = .null ∨ ∃ a, v = .ref a
theorem nR31 (v5 : Value) (h5 : nFv v5) : rCon 158 nDflt (mP' (nCodw v5)) nHn nMxx 68 nK31 := sorry
theorem nR32 (v5 : Value) (h5 : nFv v5) : rCon 158 nDflt (mP' (nCodw v5)) nHn nMxx 68 nK32 := sorry
theorem nR22 (v5 : Value) (h5 : nFv v5) : rCon 158 nDflt (mP' (nCodw v5)) nHn nMxx 43 nK22 := sorry
theorem nR107 (v5 : Value) (h5 : nFv v5) : rCon 158 nDflt (mP' (nCodw v5)) nHn nMxx 38 nK107 := sorry
theorem nR133 (v5 : Value) (h5 : nFv v5) : rCon 158 nDflt (mP' (nCodw v5)) nHn nMxx 14 nK133 := sorry
theorem nR163 (v5 : Value) (h5 : nFv v5) : rCon 158 nDflt (mP' (nCodw v5)) nHn nMxx 8 nK163 := sorry
