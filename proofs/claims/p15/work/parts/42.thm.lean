/-! THE CONTRACTS HOLD -/
abbrev nMxx : Nat → Nat := fun i => (nMt i).2.2.1
def nFv (v : Value) : Prop := v = .null ∨ ∃ a, v = .ref a
theorem nHk (v5 : Value) : rHooks 158 nDflt (mP' (nCodw v5)) nHn nMxx nJ0 nOr0 := rHooks0
set_option maxRecDepth 100000 in
theorem nEc {v5 : Value} (h5 : nFv v5) (e : Nat) (hc : mH) : evM 158 nDflt (mP' (nCodw v5)) nHn nMxx (e + 2) 20 226 [.int 0, .int 2] hc = some (.inl none, hc) ∧ evM 158 nDflt (mP' (nCodw v5)) nHn nMxx (e + 2) 20 226 [.int 1, .int 2] hc = some (.inl none, hc) ∧ evM 158 nDflt (mP' (nCodw v5)) nHn nMxx (e + 2) 20 226 [.int 0, .int 3] hc = some (.inl none, hc) ∧ evM 158 nDflt (mP' (nCodw v5)) nHn nMxx (e + 2) 20 226 [.int 1, .int 3] hc = some (.inl none, hc) ∧ evM 158 nDflt (mP' (nCodw v5)) nHn nMxx (e + 2) 20 226 [.int 2, .int 3] hc = some (.inl none, hc) ∧ evM 158 nDflt (mP' (nCodw v5)) nHn nMxx (e + 2) 20 226 [.int 0, .int 4] hc = some (.inl none, hc) ∧ evM 158 nDflt (mP' (nCodw v5)) nHn nMxx (e + 2) 20 226 [.int 1, .int 4] hc = some (.inl none, hc) ∧ evM 158 nDflt (mP' (nCodw v5)) nHn nMxx (e + 2) 20 226 [.int 2, .int 4] hc = some (.inl none, hc) ∧ evM 158 nDflt (mP' (nCodw v5)) nHn nMxx (e + 2) 20 226 [.int 3, .int 4] hc = some (.inl none, hc) := by
  rcases h5 with rfl | ⟨a, rfl⟩
  · exact ⟨rfl, rfl, rfl, rfl, rfl, rfl, rfl, rfl, rfl⟩
  · exact ⟨rfl, rfl, rfl, rfl, rfl, rfl, rfl, rfl, rfl⟩
theorem nRc (v5 : Value) (h5 : nFv v5) (i len : Nat) (h1 : i < len) (h2 : 2 ≤ len ∧ len ≤ 4) : rCon 158 nDflt (mP' (nCodw v5)) nHn nMxx 226 (nKc i len) := by
  intro d' hd ρ asc hc hO ha hh
  have hd : 4 ≤ d' := hd
  obtain ⟨e, rfl⟩ : ∃ e, d' = e + 2 := ⟨d' - 2, by omega⟩
  have ha : rEs ρ [.int (Int32.ofNat i), .int (Int32.ofNat len)] = some asc := ha
  cases ha
  have hrun : evM 158 nDflt (mP' (nCodw v5)) nHn nMxx (e + 2) 20 226 [.int (Int32.ofNat i), .int (Int32.ofNat len)] hc = some (.inl none, hc) := by
    obtain ⟨c1, c2, c3, c4, c5, c6, c7, c8, c9⟩ := nEc h5 e hc
    have h3 : len = 2 ∨ len = 3 ∨ len = 4 := by omega
    have h4 : i = 0 ∨ i = 1 ∨ i = 2 ∨ i = 3 := by omega
    rcases h3 with rfl | rfl | rfl <;> rcases h4 with rfl | rfl | rfl | rfl <;> first | omega | assumption
  refine ⟨_, List.mem_cons_self, [], by rw [List.append_nil, List.map_nil, List.append_nil]; exact hO, fun e he => (by cases he), .inl none, hc, rfl, by rw [List.append_nil]; exact hh, 20, hrun⟩
theorem nR0 (v5 : Value) (h5 : nFv v5) : rCon 158 nDflt (mP' (nCodw v5)) nHn nMxx 136 nK0 :=
  have hp : rAllP (nCodw v5) nMxx nL0 := ⟨⟨rfl, rfl⟩, trivial⟩
  rChk_ok (by decide) (rLk_ok hp) (rLm_ok hp) (nHk v5) (rTab_ok (show rAllC (rCon 158 nDflt (mP' (nCodw v5)) nHn nMxx) nT0' from trivial)) nV0'
theorem nR1 (v5 : Value) (h5 : nFv v5) : rCon 158 nDflt (mP' (nCodw v5)) nHn nMxx 154 nK1 :=
  have hp : rAllP (nCodw v5) nMxx nL1 := ⟨⟨rfl, rfl⟩, ⟨rfl, rfl⟩, ⟨rfl, rfl⟩, ⟨rfl, rfl⟩, ⟨rfl, rfl⟩, trivial⟩
  rChk_ok (by decide) (rLk_ok hp) (rLm_ok hp) (nHk v5) (rTab_ok (show rAllC (rCon 158 nDflt (mP' (nCodw v5)) nHn nMxx) nT1' from trivial)) nV1'
theorem nR2 (v5 : Value) (h5 : nFv v5) : rCon 158 nDflt (mP' (nCodw v5)) nHn nMxx 86 nK2 :=
  have hp : rAllP (nCodw v5) nMxx nL2 := ⟨⟨rfl, rfl⟩, trivial⟩
  rChk_ok (by decide) (rLk_ok hp) (rLm_ok hp) (nHk v5) (rTab_ok (show rAllC (rCon 158 nDflt (mP' (nCodw v5)) nHn nMxx) nT2' from trivial)) nV2'
theorem nR3 (v5 : Value) (h5 : nFv v5) : rCon 158 nDflt (mP' (nCodw v5)) nHn nMxx 192 nK3 :=
  have hp : rAllP (nCodw v5) nMxx nL3 := ⟨⟨rfl, rfl⟩, trivial⟩
  rChk_ok (by decide) (rLk_ok hp) (rLm_ok hp) (nHk v5) (rTab_ok (show rAllC (rCon 158 nDflt (mP' (nCodw v5)) nHn nMxx) nT3' from trivial)) nV3'
theorem nR4 (v5 : Value) (h5 : nFv v5) : rCon 158 nDflt (mP' (nCodw v5)) nHn nMxx 76 nK4 :=
  have hp : rAllP (nCodw v5) nMxx nL4 := ⟨⟨rfl, rfl⟩, trivial⟩
  rChk_ok (by decide) (rLk_ok hp) (rLm_ok hp) (nHk v5) (rTab_ok (show rAllC (rCon 158 nDflt (mP' (nCodw v5)) nHn nMxx) nT4' from trivial)) nV4'
theorem nR5 (v5 : Value) (h5 : nFv v5) : rCon 158 nDflt (mP' (nCodw v5)) nHn nMxx 212 nK5 :=
  have hp : rAllP (nCodw v5) nMxx nL5 := ⟨⟨rfl, rfl⟩, trivial⟩
  rChk_ok (by decide) (rLk_ok hp) (rLm_ok hp) (nHk v5) (rTab_ok (show rAllC (rCon 158 nDflt (mP' (nCodw v5)) nHn nMxx) nT5' from trivial)) nV5'
theorem nR6 (v5 : Value) (h5 : nFv v5) : rCon 158 nDflt (mP' (nCodw v5)) nHn nMxx 198 nK6 :=
  have hp : rAllP (nCodw v5) nMxx nL6 := ⟨⟨rfl, rfl⟩, ⟨rfl, rfl⟩, ⟨rfl, rfl⟩, trivial⟩
  rChk_ok (by decide) (rLk_ok hp) (rLm_ok hp) (nHk v5) (rTab_ok (show rAllC (rCon 158 nDflt (mP' (nCodw v5)) nHn nMxx) nT6' from ⟨⟨nR0 v5 h5, trivial⟩, trivial⟩)) nV6'
theorem nR7 (v5 : Value) (h5 : nFv v5) : rCon 158 nDflt (mP' (nCodw v5)) nHn nMxx 207 nK7 :=
  have hp : rAllP (nCodw v5) nMxx nL7 := ⟨⟨rfl, rfl⟩, ⟨rfl, rfl⟩, ⟨rfl, rfl⟩, ⟨rfl, rfl⟩, trivial⟩
  rChk_ok (by decide) (rLk_ok hp) (rLm_ok hp) (nHk v5) (rTab_ok (show rAllC (rCon 158 nDflt (mP' (nCodw v5)) nHn nMxx) nT7' from trivial)) nV7'
theorem nR8 (v5 : Value) (h5 : nFv v5) : rCon 158 nDflt (mP' (nCodw v5)) nHn nMxx 106 nK8 :=
  have hp : rAllP (nCodw v5) nMxx nL8 := ⟨⟨rfl, rfl⟩, ⟨rfl, rfl⟩, trivial⟩
  rChk_ok (by decide) (rLk_ok hp) (rLm_ok hp) (nHk v5) (rTab_ok (show rAllC (rCon 158 nDflt (mP' (nCodw v5)) nHn nMxx) nT8' from ⟨⟨nR1 v5 h5, trivial⟩, ⟨nR0 v5 h5, trivial⟩, ⟨nR2 v5 h5, trivial⟩, trivial⟩)) nV8'
theorem nR9 (v5 : Value) (h5 : nFv v5) : rCon 158 nDflt (mP' (nCodw v5)) nHn nMxx 157 nK9 :=
  have hp : rAllP (nCodw v5) nMxx nL9 := ⟨⟨rfl, rfl⟩, ⟨rfl, rfl⟩, ⟨rfl, rfl⟩, ⟨rfl, rfl⟩, ⟨rfl, rfl⟩, ⟨rfl, rfl⟩, ⟨rfl, rfl⟩, ⟨rfl, rfl⟩, trivial⟩
  rChk_ok (by decide) (rLk_ok hp) (rLm_ok hp) (nHk v5) (rTab_ok (show rAllC (rCon 158 nDflt (mP' (nCodw v5)) nHn nMxx) nT9' from ⟨⟨nR3 v5 h5, trivial⟩, ⟨nR4 v5 h5, trivial⟩, ⟨nR1 v5 h5, trivial⟩, ⟨nR0 v5 h5, trivial⟩, ⟨nR6 v5 h5, trivial⟩, trivial⟩)) nV9'
theorem nR10 (v5 : Value) (h5 : nFv v5) : rCon 158 nDflt (mP' (nCodw v5)) nHn nMxx 158 nK10 :=
  have hp : rAllP (nCodw v5) nMxx nL10 := ⟨⟨rfl, rfl⟩, ⟨rfl, rfl⟩, ⟨rfl, rfl⟩, ⟨rfl, rfl⟩, ⟨rfl, rfl⟩, ⟨rfl, rfl⟩, ⟨rfl, rfl⟩, ⟨rfl, rfl⟩, ⟨rfl, rfl⟩, trivial⟩
  rChk_ok (by decide) (rLk_ok hp) (rLm_ok hp) (nHk v5) (rTab_ok (show rAllC (rCon 158 nDflt (mP' (nCodw v5)) nHn nMxx) nT10' from trivial)) nV10'
theorem nR11 (v5 : Value) (h5 : nFv v5) : rCon 158 nDflt (mP' (nCodw v5)) nHn nMxx 159 nK11 :=
  have hp : rAllP (nCodw v5) nMxx nL11 := ⟨⟨rfl, rfl⟩, ⟨rfl, rfl⟩, ⟨rfl, rfl⟩, ⟨rfl, rfl⟩, ⟨rfl, rfl⟩, ⟨rfl, rfl⟩, ⟨rfl, rfl⟩, trivial⟩
  rChk_ok (by decide) (rLk_ok hp) (rLm_ok hp) (nHk v5) (rTab_ok (show rAllC (rCon 158 nDflt (mP' (nCodw v5)) nHn nMxx) nT11' from trivial)) nV11'
theorem nR12 (v5 : Value) (h5 : nFv v5) : rCon 158 nDflt (mP' (nCodw v5)) nHn nMxx 160 nK12 :=
  have hp : rAllP (nCodw v5) nMxx nL12 := ⟨⟨rfl, rfl⟩, ⟨rfl, rfl⟩, trivial⟩
  rChkQ_ok (by decide) (rLk_ok hp) (rLm_ok hp) (nHk v5) (rTab_ok (show rAllC (rCon 158 nDflt (mP' (nCodw v5)) nHn nMxx) nT12' from ⟨⟨nR0 v5 h5, trivial⟩, ⟨nR6 v5 h5, trivial⟩, trivial⟩)) (d := 4) (n := 2) rfl (by decide) (by decide) (by decide) nU12_a
theorem nR13 (v5 : Value) (h5 : nFv v5) : rCon 158 nDflt (mP' (nCodw v5)) nHn nMxx 161 nK13 :=
  have hp : rAllP (nCodw v5) nMxx nL13 := ⟨⟨rfl, rfl⟩, ⟨rfl, rfl⟩, trivial⟩
  rChk_ok (by decide) (rLk_ok hp) (rLm_ok hp) (nHk v5) (rTab_ok (show rAllC (rCon 158 nDflt (mP' (nCodw v5)) nHn nMxx) nT13' from ⟨⟨nR3 v5 h5, trivial⟩, ⟨nR4 v5 h5, trivial⟩, ⟨nR1 v5 h5, trivial⟩, ⟨nR7 v5 h5, trivial⟩, trivial⟩)) nV13'
theorem nR14 (v5 : Value) (h5 : nFv v5) : rCon 158 nDflt (mP' (nCodw v5)) nHn nMxx 162 nK14 :=
  have hp : rAllP (nCodw v5) nMxx nL14 := ⟨⟨rfl, rfl⟩, ⟨rfl, rfl⟩, ⟨rfl, rfl⟩, ⟨rfl, rfl⟩, ⟨rfl, rfl⟩, ⟨rfl, rfl⟩, ⟨rfl, rfl⟩, trivial⟩
  rChk_ok (by decide) (rLk_ok hp) (rLm_ok hp) (nHk v5) (rTab_ok (show rAllC (rCon 158 nDflt (mP' (nCodw v5)) nHn nMxx) nT14' from ⟨⟨nR3 v5 h5, trivial⟩, ⟨nR4 v5 h5, trivial⟩, trivial⟩)) nV14'
theorem nR15 (v5 : Value) (h5 : nFv v5) : rCon 158 nDflt (mP' (nCodw v5)) nHn nMxx 163 nK15 :=
  have hp : rAllP (nCodw v5) nMxx nL15 := ⟨⟨rfl, rfl⟩, ⟨rfl, rfl⟩, ⟨rfl, rfl⟩, ⟨rfl, rfl⟩, ⟨rfl, rfl⟩, ⟨rfl, rfl⟩, ⟨rfl, rfl⟩, ⟨rfl, rfl⟩, ⟨rfl, rfl⟩, ⟨rfl, rfl⟩, ⟨rfl, rfl⟩, ⟨rfl, rfl⟩, trivial⟩
  rChk_ok (by decide) (rLk_ok hp) (rLm_ok hp) (nHk v5) (rTab_ok (show rAllC (rCon 158 nDflt (mP' (nCodw v5)) nHn nMxx) nT15' from ⟨⟨nR4 v5 h5, trivial⟩, ⟨nR2 v5 h5, trivial⟩, trivial⟩)) nV15'
theorem nR16 (v5 : Value) (h5 : nFv v5) : rCon 158 nDflt (mP' (nCodw v5)) nHn nMxx 164 nK16 :=
  have hp : rAllP (nCodw v5) nMxx nL16 := ⟨⟨rfl, rfl⟩, ⟨rfl, rfl⟩, ⟨rfl, rfl⟩, ⟨rfl, rfl⟩, trivial⟩
  rChk_ok (by decide) (rLk_ok hp) (rLm_ok hp) (nHk v5) (rTab_ok (show rAllC (rCon 158 nDflt (mP' (nCodw v5)) nHn nMxx) nT16' from ⟨⟨nR4 v5 h5, trivial⟩, ⟨nR2 v5 h5, trivial⟩, ⟨nR5 v5 h5, trivial⟩, trivial⟩)) nV16'
theorem nR17 (v5 : Value) (h5 : nFv v5) : rCon 158 nDflt (mP' (nCodw v5)) nHn nMxx 165 nK17 :=
  have hp : rAllP (nCodw v5) nMxx nL17 := ⟨⟨rfl, rfl⟩, ⟨rfl, rfl⟩, ⟨rfl, rfl⟩, trivial⟩
  rChk_ok (by decide) (rLk_ok hp) (rLm_ok hp) (nHk v5) (rTab_ok (show rAllC (rCon 158 nDflt (mP' (nCodw v5)) nHn nMxx) nT17' from ⟨⟨nR0 v5 h5, trivial⟩, ⟨nR5 v5 h5, trivial⟩, ⟨nR4 v5 h5, trivial⟩, ⟨nR2 v5 h5, trivial⟩, trivial⟩)) nV17'
theorem nR18 (v5 : Value) (h5 : nFv v5) : rCon 158 nDflt (mP' (nCodw v5)) nHn nMxx 166 nK18 :=
  have hp : rAllP (nCodw v5) nMxx nL18 := ⟨⟨rfl, rfl⟩, trivial⟩
  rChk_ok (by decide) (rLk_ok hp) (rLm_ok hp) (nHk v5) (rTab_ok (show rAllC (rCon 158 nDflt (mP' (nCodw v5)) nHn nMxx) nT18' from ⟨⟨nR6 v5 h5, trivial⟩, ⟨nR7 v5 h5, trivial⟩, trivial⟩)) nV18'
theorem nR19 (v5 : Value) (h5 : nFv v5) : rCon 158 nDflt (mP' (nCodw v5)) nHn nMxx 167 nK19 :=
  have hp : rAllP (nCodw v5) nMxx nL19 := ⟨⟨rfl, rfl⟩, ⟨rfl, rfl⟩, ⟨rfl, rfl⟩, trivial⟩
  rChk_ok (by decide) (rLk_ok hp) (rLm_ok hp) (nHk v5) (rTab_ok (show rAllC (rCon 158 nDflt (mP' (nCodw v5)) nHn nMxx) nT19' from ⟨⟨nR3 v5 h5, trivial⟩, ⟨nR4 v5 h5, trivial⟩, ⟨nR1 v5 h5, trivial⟩, ⟨nR0 v5 h5, trivial⟩, trivial⟩)) nV19'
theorem nR20 (v5 : Value) (h5 : nFv v5) : rCon 158 nDflt (mP' (nCodw v5)) nHn nMxx 108 nK20 :=
  have hp : rAllP (nCodw v5) nMxx nL20 := ⟨⟨rfl, rfl⟩, trivial⟩
  rChk_ok (by decide) (rLk_ok hp) (rLm_ok hp) (nHk v5) (rTab_ok (show rAllC (rCon 158 nDflt (mP' (nCodw v5)) nHn nMxx) nT20' from ⟨⟨nR9 v5 h5, trivial⟩, ⟨nR10 v5 h5, trivial⟩, ⟨nR11 v5 h5, trivial⟩, ⟨nR12 v5 h5, trivial⟩, ⟨nR13 v5 h5, trivial⟩, ⟨nR14 v5 h5, trivial⟩, ⟨nR15 v5 h5, trivial⟩, ⟨nR16 v5 h5, trivial⟩, ⟨nR17 v5 h5, trivial⟩, ⟨nR18 v5 h5, trivial⟩, ⟨nR19 v5 h5, trivial⟩, trivial⟩)) nV20'
theorem nR21 (v5 : Value) (h5 : nFv v5) : rCon 158 nDflt (mP' (nCodw v5)) nHn nMxx 69 nK21 :=
  have hp : rAllP (nCodw v5) nMxx nL21 := ⟨⟨rfl, rfl⟩, ⟨rfl, rfl⟩, ⟨rfl, rfl⟩, ⟨rfl, rfl⟩, trivial⟩
  rChk_ok (by decide) (rLk_ok hp) (rLm_ok hp) (nHk v5) (rTab_ok (show rAllC (rCon 158 nDflt (mP' (nCodw v5)) nHn nMxx) nT21' from ⟨⟨nR4 v5 h5, trivial⟩, ⟨nR8 v5 h5, trivial⟩, ⟨nR20 v5 h5, trivial⟩, trivial⟩)) nV21'
theorem nR22 (v5 : Value) (h5 : nFv v5) : rCon 158 nDflt (mP' (nCodw v5)) nHn nMxx 43 nK22 :=
  have hp : rAllP (nCodw v5) nMxx nL22 := ⟨⟨rfl, rfl⟩, trivial⟩
  rChk_ok (by decide) (rLk_ok hp) (rLm_ok hp) (nHk v5) (rTab_ok (show rAllC (rCon 158 nDflt (mP' (nCodw v5)) nHn nMxx) nT22' from ⟨⟨nR21 v5 h5, trivial⟩, trivial⟩)) nV22'
theorem nR23 (v5 : Value) (h5 : nFv v5) : rCon 158 nDflt (mP' (nCodw v5)) nHn nMxx 81 nK23 :=
  have hp : rAllP (nCodw v5) nMxx nL23 := ⟨⟨rfl, rfl⟩, trivial⟩
  rChk_ok (by decide) (rLk_ok hp) (rLm_ok hp) (nHk v5) (rTab_ok (show rAllC (rCon 158 nDflt (mP' (nCodw v5)) nHn nMxx) nT23' from trivial)) nV23'
theorem nR24 (v5 : Value) (h5 : nFv v5) : rCon 158 nDflt (mP' (nCodw v5)) nHn nMxx 82 nK24 :=
  have hp : rAllP (nCodw v5) nMxx nL24 := ⟨⟨rfl, rfl⟩, trivial⟩
  rChk_ok (by decide) (rLk_ok hp) (rLm_ok hp) (nHk v5) (rTab_ok (show rAllC (rCon 158 nDflt (mP' (nCodw v5)) nHn nMxx) nT24' from trivial)) nV24'
theorem nR25 (v5 : Value) (h5 : nFv v5) : rCon 158 nDflt (mP' (nCodw v5)) nHn nMxx 124 nK25 :=
  have hp : rAllP (nCodw v5) nMxx nL25 := ⟨⟨rfl, rfl⟩, trivial⟩
  rChk_ok (by decide) (rLk_ok hp) (rLm_ok hp) (nHk v5) (rTab_ok (show rAllC (rCon 158 nDflt (mP' (nCodw v5)) nHn nMxx) nT25' from trivial)) nV25'
theorem nR26 (v5 : Value) (h5 : nFv v5) : rCon 158 nDflt (mP' (nCodw v5)) nHn nMxx 118 nK26 :=
  have hp : rAllP (nCodw v5) nMxx nL26 := ⟨⟨rfl, rfl⟩, trivial⟩
  rChk_ok (by decide) (rLk_ok hp) (rLm_ok hp) (nHk v5) (rTab_ok (show rAllC (rCon 158 nDflt (mP' (nCodw v5)) nHn nMxx) nT26' from trivial)) nV26'
theorem nR27 (v5 : Value) (h5 : nFv v5) : rCon 158 nDflt (mP' (nCodw v5)) nHn nMxx 120 nK27 :=
  have hp : rAllP (nCodw v5) nMxx nL27 := ⟨⟨rfl, rfl⟩, trivial⟩
  rChkQ_ok (by decide) (rLk_ok hp) (rLm_ok hp) (nHk v5) (rTab_ok (show rAllC (rCon 158 nDflt (mP' (nCodw v5)) nHn nMxx) nT27' from trivial)) (d := 1) (n := 30) rfl (by decide) (by decide) (by decide) nU27_a
theorem nR28 (v5 : Value) (h5 : nFv v5) : rCon 158 nDflt (mP' (nCodw v5)) nHn nMxx 120 nK28 :=
  have hp : rAllP (nCodw v5) nMxx nL28 := trivial
  rChk_ok (by decide) (rLk_ok hp) (rLm_ok hp) (nHk v5) (rTab_ok (show rAllC (rCon 158 nDflt (mP' (nCodw v5)) nHn nMxx) nT28' from ⟨⟨nR27 v5 h5, trivial⟩, trivial⟩)) nV28'
theorem nR29 (v5 : Value) (h5 : nFv v5) : rCon 158 nDflt (mP' (nCodw v5)) nHn nMxx 127 nK29 :=
  have hp : rAllP (nCodw v5) nMxx nL29 := ⟨⟨rfl, rfl⟩, trivial⟩
  rChk_ok (by decide) (rLk_ok hp) (rLm_ok hp) (nHk v5) (rTab_ok (show rAllC (rCon 158 nDflt (mP' (nCodw v5)) nHn nMxx) nT29' from trivial)) nV29'
theorem nR30 (v5 : Value) (h5 : nFv v5) : rCon 158 nDflt (mP' (nCodw v5)) nHn nMxx 222 nK30 :=
  have hp : rAllP (nCodw v5) nMxx nL30 := ⟨⟨rfl, rfl⟩, trivial⟩
  rChk_ok (by decide) (rLk_ok hp) (rLm_ok hp) (nHk v5) (rTab_ok (show rAllC (rCon 158 nDflt (mP' (nCodw v5)) nHn nMxx) nT30' from trivial)) nV30'
theorem nR31 (v5 : Value) (h5 : nFv v5) : rCon 158 nDflt (mP' (nCodw v5)) nHn nMxx 68 nK31 :=
  have hp : rAllP (nCodw v5) nMxx nL31 := ⟨⟨rfl, rfl⟩, trivial⟩
  rChk_ok (by decide) (rLk_ok hp) (rLm_ok hp) (nHk v5) (rTab_ok (show rAllC (rCon 158 nDflt (mP' (nCodw v5)) nHn nMxx) nT31' from trivial)) nV31'
theorem nR32 (v5 : Value) (h5 : nFv v5) : rCon 158 nDflt (mP' (nCodw v5)) nHn nMxx 68 nK32 :=
  have hp : rAllP (nCodw v5) nMxx nL32 := ⟨⟨rfl, rfl⟩, trivial⟩
  rChk_ok (by decide) (rLk_ok hp) (rLm_ok hp) (nHk v5) (rTab_ok (show rAllC (rCon 158 nDflt (mP' (nCodw v5)) nHn nMxx) nT32' from trivial)) nV32'
theorem nR33 (v5 : Value) (h5 : nFv v5) : rCon 158 nDflt (mP' (nCodw v5)) nHn nMxx 182 nK33 :=
  have hp : rAllP (nCodw v5) nMxx nL33 := ⟨⟨rfl, rfl⟩, trivial⟩
  rChk_ok (by decide) (rLk_ok hp) (rLm_ok hp) (nHk v5) (rTab_ok (show rAllC (rCon 158 nDflt (mP' (nCodw v5)) nHn nMxx) nT33' from trivial)) nV33'
theorem nR34 (v5 : Value) (h5 : nFv v5) : rCon 158 nDflt (mP' (nCodw v5)) nHn nMxx 185 nK34 :=
  have hp : rAllP (nCodw v5) nMxx nL34 := ⟨⟨rfl, rfl⟩, ⟨rfl, rfl⟩, ⟨rfl, rfl⟩, ⟨rfl, rfl⟩, ⟨rfl, rfl⟩, ⟨rfl, rfl⟩, ⟨rfl, rfl⟩, ⟨rfl, rfl⟩, trivial⟩
  rChk_ok (by decide) (rLk_ok hp) (rLm_ok hp) (nHk v5) (rTab_ok (show rAllC (rCon 158 nDflt (mP' (nCodw v5)) nHn nMxx) nT34' from trivial)) nV34'
theorem nR35 (v5 : Value) (h5 : nFv v5) : rCon 158 nDflt (mP' (nCodw v5)) nHn nMxx 125 nK35 :=
  have hp : rAllP (nCodw v5) nMxx nL35 := ⟨⟨rfl, rfl⟩, ⟨rfl, rfl⟩, ⟨rfl, rfl⟩, ⟨rfl, rfl⟩, ⟨rfl, rfl⟩, ⟨rfl, rfl⟩, trivial⟩
  rChk_ok (by decide) (rLk_ok hp) (rLm_ok hp) (nHk v5) (rTab_ok (show rAllC (rCon 158 nDflt (mP' (nCodw v5)) nHn nMxx) nT35' from ⟨⟨nRc v5 h5 0 2 (by decide) (by decide), nRc v5 h5 1 2 (by decide) (by decide), nRc v5 h5 0 3 (by decide) (by decide), nRc v5 h5 1 3 (by decide) (by decide), nRc v5 h5 2 3 (by decide) (by decide), nRc v5 h5 0 4 (by decide) (by decide), nRc v5 h5 1 4 (by decide) (by decide), nRc v5 h5 2 4 (by decide) (by decide), nRc v5 h5 3 4 (by decide) (by decide), trivial⟩, ⟨nR34 v5 h5, trivial⟩, trivial⟩)) nV35'
theorem nR36 (v5 : Value) (h5 : nFv v5) : rCon 158 nDflt (mP' (nCodw v5)) nHn nMxx 125 nK36 :=
  have hp : rAllP (nCodw v5) nMxx nL36 := ⟨⟨rfl, rfl⟩, ⟨rfl, rfl⟩, ⟨rfl, rfl⟩, ⟨rfl, rfl⟩, ⟨rfl, rfl⟩, ⟨rfl, rfl⟩, trivial⟩
  rChk_ok (by decide) (rLk_ok hp) (rLm_ok hp) (nHk v5) (rTab_ok (show rAllC (rCon 158 nDflt (mP' (nCodw v5)) nHn nMxx) nT36' from ⟨⟨nRc v5 h5 0 2 (by decide) (by decide), nRc v5 h5 1 2 (by decide) (by decide), nRc v5 h5 0 3 (by decide) (by decide), nRc v5 h5 1 3 (by decide) (by decide), nRc v5 h5 2 3 (by decide) (by decide), nRc v5 h5 0 4 (by decide) (by decide), nRc v5 h5 1 4 (by decide) (by decide), nRc v5 h5 2 4 (by decide) (by decide), nRc v5 h5 3 4 (by decide) (by decide), trivial⟩, ⟨nR34 v5 h5, trivial⟩, trivial⟩)) nV36'
theorem nR37 (v5 : Value) (h5 : nFv v5) : rCon 158 nDflt (mP' (nCodw v5)) nHn nMxx 125 nK37 :=
  have hp : rAllP (nCodw v5) nMxx nL37 := ⟨⟨rfl, rfl⟩, ⟨rfl, rfl⟩, ⟨rfl, rfl⟩, ⟨rfl, rfl⟩, ⟨rfl, rfl⟩, ⟨rfl, rfl⟩, trivial⟩
  rChk_ok (by decide) (rLk_ok hp) (rLm_ok hp) (nHk v5) (rTab_ok (show rAllC (rCon 158 nDflt (mP' (nCodw v5)) nHn nMxx) nT37' from ⟨⟨nRc v5 h5 0 2 (by decide) (by decide), nRc v5 h5 1 2 (by decide) (by decide), nRc v5 h5 0 3 (by decide) (by decide), nRc v5 h5 1 3 (by decide) (by decide), nRc v5 h5 2 3 (by decide) (by decide), nRc v5 h5 0 4 (by decide) (by decide), nRc v5 h5 1 4 (by decide) (by decide), nRc v5 h5 2 4 (by decide) (by decide), nRc v5 h5 3 4 (by decide) (by decide), trivial⟩, ⟨nR34 v5 h5, trivial⟩, trivial⟩)) nV37'
theorem nR38 (v5 : Value) (h5 : nFv v5) : rCon 158 nDflt (mP' (nCodw v5)) nHn nMxx 125 nK38 :=
  have hp : rAllP (nCodw v5) nMxx nL38 := ⟨⟨rfl, rfl⟩, ⟨rfl, rfl⟩, ⟨rfl, rfl⟩, ⟨rfl, rfl⟩, ⟨rfl, rfl⟩, ⟨rfl, rfl⟩, trivial⟩
  rChk_ok (by decide) (rLk_ok hp) (rLm_ok hp) (nHk v5) (rTab_ok (show rAllC (rCon 158 nDflt (mP' (nCodw v5)) nHn nMxx) nT38' from ⟨⟨nRc v5 h5 0 2 (by decide) (by decide), nRc v5 h5 1 2 (by decide) (by decide), nRc v5 h5 0 3 (by decide) (by decide), nRc v5 h5 1 3 (by decide) (by decide), nRc v5 h5 2 3 (by decide) (by decide), nRc v5 h5 0 4 (by decide) (by decide), nRc v5 h5 1 4 (by decide) (by decide), nRc v5 h5 2 4 (by decide) (by decide), nRc v5 h5 3 4 (by decide) (by decide), trivial⟩, ⟨nR34 v5 h5, trivial⟩, trivial⟩)) nV38'
theorem nR39 (v5 : Value) (h5 : nFv v5) : rCon 158 nDflt (mP' (nCodw v5)) nHn nMxx 125 nK39 :=
  have hp : rAllP (nCodw v5) nMxx nL39 := ⟨⟨rfl, rfl⟩, ⟨rfl, rfl⟩, ⟨rfl, rfl⟩, ⟨rfl, rfl⟩, ⟨rfl, rfl⟩, ⟨rfl, rfl⟩, trivial⟩
  rChk_ok (by decide) (rLk_ok hp) (rLm_ok hp) (nHk v5) (rTab_ok (show rAllC (rCon 158 nDflt (mP' (nCodw v5)) nHn nMxx) nT39' from ⟨⟨nRc v5 h5 0 2 (by decide) (by decide), nRc v5 h5 1 2 (by decide) (by decide), nRc v5 h5 0 3 (by decide) (by decide), nRc v5 h5 1 3 (by decide) (by decide), nRc v5 h5 2 3 (by decide) (by decide), nRc v5 h5 0 4 (by decide) (by decide), nRc v5 h5 1 4 (by decide) (by decide), nRc v5 h5 2 4 (by decide) (by decide), nRc v5 h5 3 4 (by decide) (by decide), trivial⟩, ⟨nR34 v5 h5, trivial⟩, trivial⟩)) nV39'
theorem nR40 (v5 : Value) (h5 : nFv v5) : rCon 158 nDflt (mP' (nCodw v5)) nHn nMxx 125 nK40 :=
  have hp : rAllP (nCodw v5) nMxx nL40 := ⟨⟨rfl, rfl⟩, ⟨rfl, rfl⟩, ⟨rfl, rfl⟩, ⟨rfl, rfl⟩, ⟨rfl, rfl⟩, ⟨rfl, rfl⟩, trivial⟩
  rChk_ok (by decide) (rLk_ok hp) (rLm_ok hp) (nHk v5) (rTab_ok (show rAllC (rCon 158 nDflt (mP' (nCodw v5)) nHn nMxx) nT40' from ⟨⟨nRc v5 h5 0 2 (by decide) (by decide), nRc v5 h5 1 2 (by decide) (by decide), nRc v5 h5 0 3 (by decide) (by decide), nRc v5 h5 1 3 (by decide) (by decide), nRc v5 h5 2 3 (by decide) (by decide), nRc v5 h5 0 4 (by decide) (by decide), nRc v5 h5 1 4 (by decide) (by decide), nRc v5 h5 2 4 (by decide) (by decide), nRc v5 h5 3 4 (by decide) (by decide), trivial⟩, ⟨nR34 v5 h5, trivial⟩, trivial⟩)) nV40'
theorem nR41 (v5 : Value) (h5 : nFv v5) : rCon 158 nDflt (mP' (nCodw v5)) nHn nMxx 125 nK41 :=
  have hp : rAllP (nCodw v5) nMxx nL41 := ⟨⟨rfl, rfl⟩, ⟨rfl, rfl⟩, ⟨rfl, rfl⟩, ⟨rfl, rfl⟩, ⟨rfl, rfl⟩, ⟨rfl, rfl⟩, trivial⟩
  rChk_ok (by decide) (rLk_ok hp) (rLm_ok hp) (nHk v5) (rTab_ok (show rAllC (rCon 158 nDflt (mP' (nCodw v5)) nHn nMxx) nT41' from ⟨⟨nRc v5 h5 0 2 (by decide) (by decide), nRc v5 h5 1 2 (by decide) (by decide), nRc v5 h5 0 3 (by decide) (by decide), nRc v5 h5 1 3 (by decide) (by decide), nRc v5 h5 2 3 (by decide) (by decide), nRc v5 h5 0 4 (by decide) (by decide), nRc v5 h5 1 4 (by decide) (by decide), nRc v5 h5 2 4 (by decide) (by decide), nRc v5 h5 3 4 (by decide) (by decide), trivial⟩, ⟨nR34 v5 h5, trivial⟩, trivial⟩)) nV41'
theorem nR42 (v5 : Value) (h5 : nFv v5) : rCon 158 nDflt (mP' (nCodw v5)) nHn nMxx 125 nK42 :=
  have hp : rAllP (nCodw v5) nMxx nL42 := ⟨⟨rfl, rfl⟩, ⟨rfl, rfl⟩, ⟨rfl, rfl⟩, ⟨rfl, rfl⟩, ⟨rfl, rfl⟩, ⟨rfl, rfl⟩, trivial⟩
  rChk_ok (by decide) (rLk_ok hp) (rLm_ok hp) (nHk v5) (rTab_ok (show rAllC (rCon 158 nDflt (mP' (nCodw v5)) nHn nMxx) nT42' from ⟨⟨nRc v5 h5 0 2 (by decide) (by decide), nRc v5 h5 1 2 (by decide) (by decide), nRc v5 h5 0 3 (by decide) (by decide), nRc v5 h5 1 3 (by decide) (by decide), nRc v5 h5 2 3 (by decide) (by decide), nRc v5 h5 0 4 (by decide) (by decide), nRc v5 h5 1 4 (by decide) (by decide), nRc v5 h5 2 4 (by decide) (by decide), nRc v5 h5 3 4 (by decide) (by decide), trivial⟩, ⟨nR34 v5 h5, trivial⟩, trivial⟩)) nV42'
theorem nR43 (v5 : Value) (h5 : nFv v5) : rCon 158 nDflt (mP' (nCodw v5)) nHn nMxx 125 nK43 :=
  have hp : rAllP (nCodw v5) nMxx nL43 := ⟨⟨rfl, rfl⟩, ⟨rfl, rfl⟩, ⟨rfl, rfl⟩, ⟨rfl, rfl⟩, ⟨rfl, rfl⟩, ⟨rfl, rfl⟩, trivial⟩
  rChk_ok (by decide) (rLk_ok hp) (rLm_ok hp) (nHk v5) (rTab_ok (show rAllC (rCon 158 nDflt (mP' (nCodw v5)) nHn nMxx) nT43' from ⟨⟨nRc v5 h5 0 2 (by decide) (by decide), nRc v5 h5 1 2 (by decide) (by decide), nRc v5 h5 0 3 (by decide) (by decide), nRc v5 h5 1 3 (by decide) (by decide), nRc v5 h5 2 3 (by decide) (by decide), nRc v5 h5 0 4 (by decide) (by decide), nRc v5 h5 1 4 (by decide) (by decide), nRc v5 h5 2 4 (by decide) (by decide), nRc v5 h5 3 4 (by decide) (by decide), trivial⟩, ⟨nR34 v5 h5, trivial⟩, trivial⟩)) nV43'
theorem nR44 (v5 : Value) (h5 : nFv v5) : rCon 158 nDflt (mP' (nCodw v5)) nHn nMxx 125 nK44 :=
  have hp : rAllP (nCodw v5) nMxx nL44 := ⟨⟨rfl, rfl⟩, ⟨rfl, rfl⟩, ⟨rfl, rfl⟩, ⟨rfl, rfl⟩, ⟨rfl, rfl⟩, ⟨rfl, rfl⟩, trivial⟩
  rChk_ok (by decide) (rLk_ok hp) (rLm_ok hp) (nHk v5) (rTab_ok (show rAllC (rCon 158 nDflt (mP' (nCodw v5)) nHn nMxx) nT44' from ⟨⟨nRc v5 h5 0 2 (by decide) (by decide), nRc v5 h5 1 2 (by decide) (by decide), nRc v5 h5 0 3 (by decide) (by decide), nRc v5 h5 1 3 (by decide) (by decide), nRc v5 h5 2 3 (by decide) (by decide), nRc v5 h5 0 4 (by decide) (by decide), nRc v5 h5 1 4 (by decide) (by decide), nRc v5 h5 2 4 (by decide) (by decide), nRc v5 h5 3 4 (by decide) (by decide), trivial⟩, ⟨nR34 v5 h5, trivial⟩, trivial⟩)) nV44'
theorem nR45 (v5 : Value) (h5 : nFv v5) : rCon 158 nDflt (mP' (nCodw v5)) nHn nMxx 125 nK45 :=
  have hp : rAllP (nCodw v5) nMxx nL45 := ⟨⟨rfl, rfl⟩, ⟨rfl, rfl⟩, ⟨rfl, rfl⟩, ⟨rfl, rfl⟩, ⟨rfl, rfl⟩, ⟨rfl, rfl⟩, trivial⟩
  rChk_ok (by decide) (rLk_ok hp) (rLm_ok hp) (nHk v5) (rTab_ok (show rAllC (rCon 158 nDflt (mP' (nCodw v5)) nHn nMxx) nT45' from ⟨⟨nRc v5 h5 0 2 (by decide) (by decide), nRc v5 h5 1 2 (by decide) (by decide), nRc v5 h5 0 3 (by decide) (by decide), nRc v5 h5 1 3 (by decide) (by decide), nRc v5 h5 2 3 (by decide) (by decide), nRc v5 h5 0 4 (by decide) (by decide), nRc v5 h5 1 4 (by decide) (by decide), nRc v5 h5 2 4 (by decide) (by decide), nRc v5 h5 3 4 (by decide) (by decide), trivial⟩, ⟨nR34 v5 h5, trivial⟩, trivial⟩)) nV45'
theorem nR46 (v5 : Value) (h5 : nFv v5) : rCon 158 nDflt (mP' (nCodw v5)) nHn nMxx 125 nK46 :=
  have hp : rAllP (nCodw v5) nMxx nL46 := ⟨⟨rfl, rfl⟩, ⟨rfl, rfl⟩, ⟨rfl, rfl⟩, ⟨rfl, rfl⟩, ⟨rfl, rfl⟩, ⟨rfl, rfl⟩, trivial⟩
  rChk_ok (by decide) (rLk_ok hp) (rLm_ok hp) (nHk v5) (rTab_ok (show rAllC (rCon 158 nDflt (mP' (nCodw v5)) nHn nMxx) nT46' from ⟨⟨nRc v5 h5 0 2 (by decide) (by decide), nRc v5 h5 1 2 (by decide) (by decide), nRc v5 h5 0 3 (by decide) (by decide), nRc v5 h5 1 3 (by decide) (by decide), nRc v5 h5 2 3 (by decide) (by decide), nRc v5 h5 0 4 (by decide) (by decide), nRc v5 h5 1 4 (by decide) (by decide), nRc v5 h5 2 4 (by decide) (by decide), nRc v5 h5 3 4 (by decide) (by decide), trivial⟩, ⟨nR34 v5 h5, trivial⟩, trivial⟩)) nV46'
theorem nR47 (v5 : Value) (h5 : nFv v5) : rCon 158 nDflt (mP' (nCodw v5)) nHn nMxx 125 nK47 :=
  have hp : rAllP (nCodw v5) nMxx nL47 := ⟨⟨rfl, rfl⟩, ⟨rfl, rfl⟩, ⟨rfl, rfl⟩, ⟨rfl, rfl⟩, ⟨rfl, rfl⟩, ⟨rfl, rfl⟩, trivial⟩
  rChk_ok (by decide) (rLk_ok hp) (rLm_ok hp) (nHk v5) (rTab_ok (show rAllC (rCon 158 nDflt (mP' (nCodw v5)) nHn nMxx) nT47' from ⟨⟨nRc v5 h5 0 2 (by decide) (by decide), nRc v5 h5 1 2 (by decide) (by decide), nRc v5 h5 0 3 (by decide) (by decide), nRc v5 h5 1 3 (by decide) (by decide), nRc v5 h5 2 3 (by decide) (by decide), nRc v5 h5 0 4 (by decide) (by decide), nRc v5 h5 1 4 (by decide) (by decide), nRc v5 h5 2 4 (by decide) (by decide), nRc v5 h5 3 4 (by decide) (by decide), trivial⟩, ⟨nR34 v5 h5, trivial⟩, trivial⟩)) nV47'
theorem nR48 (v5 : Value) (h5 : nFv v5) : rCon 158 nDflt (mP' (nCodw v5)) nHn nMxx 125 nK48 :=
  have hp : rAllP (nCodw v5) nMxx nL48 := ⟨⟨rfl, rfl⟩, ⟨rfl, rfl⟩, ⟨rfl, rfl⟩, ⟨rfl, rfl⟩, ⟨rfl, rfl⟩, ⟨rfl, rfl⟩, trivial⟩
  rChk_ok (by decide) (rLk_ok hp) (rLm_ok hp) (nHk v5) (rTab_ok (show rAllC (rCon 158 nDflt (mP' (nCodw v5)) nHn nMxx) nT48' from ⟨⟨nRc v5 h5 0 2 (by decide) (by decide), nRc v5 h5 1 2 (by decide) (by decide), nRc v5 h5 0 3 (by decide) (by decide), nRc v5 h5 1 3 (by decide) (by decide), nRc v5 h5 2 3 (by decide) (by decide), nRc v5 h5 0 4 (by decide) (by decide), nRc v5 h5 1 4 (by decide) (by decide), nRc v5 h5 2 4 (by decide) (by decide), nRc v5 h5 3 4 (by decide) (by decide), trivial⟩, ⟨nR34 v5 h5, trivial⟩, trivial⟩)) nV48'
theorem nR49 (v5 : Value) (h5 : nFv v5) : rCon 158 nDflt (mP' (nCodw v5)) nHn nMxx 125 nK49 :=
  have hp : rAllP (nCodw v5) nMxx nL49 := ⟨⟨rfl, rfl⟩, ⟨rfl, rfl⟩, ⟨rfl, rfl⟩, ⟨rfl, rfl⟩, ⟨rfl, rfl⟩, ⟨rfl, rfl⟩, trivial⟩
  rChk_ok (by decide) (rLk_ok hp) (rLm_ok hp) (nHk v5) (rTab_ok (show rAllC (rCon 158 nDflt (mP' (nCodw v5)) nHn nMxx) nT49' from ⟨⟨nRc v5 h5 0 2 (by decide) (by decide), nRc v5 h5 1 2 (by decide) (by decide), nRc v5 h5 0 3 (by decide) (by decide), nRc v5 h5 1 3 (by decide) (by decide), nRc v5 h5 2 3 (by decide) (by decide), nRc v5 h5 0 4 (by decide) (by decide), nRc v5 h5 1 4 (by decide) (by decide), nRc v5 h5 2 4 (by decide) (by decide), nRc v5 h5 3 4 (by decide) (by decide), trivial⟩, ⟨nR34 v5 h5, trivial⟩, trivial⟩)) nV49'
theorem nR50 (v5 : Value) (h5 : nFv v5) : rCon 158 nDflt (mP' (nCodw v5)) nHn nMxx 125 nK50 :=
  have hp : rAllP (nCodw v5) nMxx nL50 := ⟨⟨rfl, rfl⟩, ⟨rfl, rfl⟩, ⟨rfl, rfl⟩, ⟨rfl, rfl⟩, ⟨rfl, rfl⟩, ⟨rfl, rfl⟩, trivial⟩
  rChk_ok (by decide) (rLk_ok hp) (rLm_ok hp) (nHk v5) (rTab_ok (show rAllC (rCon 158 nDflt (mP' (nCodw v5)) nHn nMxx) nT50' from ⟨⟨nRc v5 h5 0 2 (by decide) (by decide), nRc v5 h5 1 2 (by decide) (by decide), nRc v5 h5 0 3 (by decide) (by decide), nRc v5 h5 1 3 (by decide) (by decide), nRc v5 h5 2 3 (by decide) (by decide), nRc v5 h5 0 4 (by decide) (by decide), nRc v5 h5 1 4 (by decide) (by decide), nRc v5 h5 2 4 (by decide) (by decide), nRc v5 h5 3 4 (by decide) (by decide), trivial⟩, ⟨nR34 v5 h5, trivial⟩, trivial⟩)) nV50'
theorem nR51 (v5 : Value) (h5 : nFv v5) : rCon 158 nDflt (mP' (nCodw v5)) nHn nMxx 125 nK51 :=
  have hp : rAllP (nCodw v5) nMxx nL51 := ⟨⟨rfl, rfl⟩, ⟨rfl, rfl⟩, ⟨rfl, rfl⟩, ⟨rfl, rfl⟩, ⟨rfl, rfl⟩, ⟨rfl, rfl⟩, trivial⟩
  rChk_ok (by decide) (rLk_ok hp) (rLm_ok hp) (nHk v5) (rTab_ok (show rAllC (rCon 158 nDflt (mP' (nCodw v5)) nHn nMxx) nT51' from ⟨⟨nRc v5 h5 0 2 (by decide) (by decide), nRc v5 h5 1 2 (by decide) (by decide), nRc v5 h5 0 3 (by decide) (by decide), nRc v5 h5 1 3 (by decide) (by decide), nRc v5 h5 2 3 (by decide) (by decide), nRc v5 h5 0 4 (by decide) (by decide), nRc v5 h5 1 4 (by decide) (by decide), nRc v5 h5 2 4 (by decide) (by decide), nRc v5 h5 3 4 (by decide) (by decide), trivial⟩, ⟨nR34 v5 h5, trivial⟩, trivial⟩)) nV51'
theorem nR52 (v5 : Value) (h5 : nFv v5) : rCon 158 nDflt (mP' (nCodw v5)) nHn nMxx 125 nK52 :=
  have hp : rAllP (nCodw v5) nMxx nL52 := ⟨⟨rfl, rfl⟩, ⟨rfl, rfl⟩, ⟨rfl, rfl⟩, ⟨rfl, rfl⟩, ⟨rfl, rfl⟩, ⟨rfl, rfl⟩, trivial⟩
  rChk_ok (by decide) (rLk_ok hp) (rLm_ok hp) (nHk v5) (rTab_ok (show rAllC (rCon 158 nDflt (mP' (nCodw v5)) nHn nMxx) nT52' from ⟨⟨nRc v5 h5 0 2 (by decide) (by decide), nRc v5 h5 1 2 (by decide) (by decide), nRc v5 h5 0 3 (by decide) (by decide), nRc v5 h5 1 3 (by decide) (by decide), nRc v5 h5 2 3 (by decide) (by decide), nRc v5 h5 0 4 (by decide) (by decide), nRc v5 h5 1 4 (by decide) (by decide), nRc v5 h5 2 4 (by decide) (by decide), nRc v5 h5 3 4 (by decide) (by decide), trivial⟩, ⟨nR34 v5 h5, trivial⟩, trivial⟩)) nV52'
theorem nR53 (v5 : Value) (h5 : nFv v5) : rCon 158 nDflt (mP' (nCodw v5)) nHn nMxx 125 nK53 :=
  have hp : rAllP (nCodw v5) nMxx nL53 := ⟨⟨rfl, rfl⟩, ⟨rfl, rfl⟩, ⟨rfl, rfl⟩, ⟨rfl, rfl⟩, ⟨rfl, rfl⟩, ⟨rfl, rfl⟩, trivial⟩
  rChk_ok (by decide) (rLk_ok hp) (rLm_ok hp) (nHk v5) (rTab_ok (show rAllC (rCon 158 nDflt (mP' (nCodw v5)) nHn nMxx) nT53' from ⟨⟨nRc v5 h5 0 2 (by decide) (by decide), nRc v5 h5 1 2 (by decide) (by decide), nRc v5 h5 0 3 (by decide) (by decide), nRc v5 h5 1 3 (by decide) (by decide), nRc v5 h5 2 3 (by decide) (by decide), nRc v5 h5 0 4 (by decide) (by decide), nRc v5 h5 1 4 (by decide) (by decide), nRc v5 h5 2 4 (by decide) (by decide), nRc v5 h5 3 4 (by decide) (by decide), trivial⟩, ⟨nR34 v5 h5, trivial⟩, trivial⟩)) nV53'
theorem nR54 (v5 : Value) (h5 : nFv v5) : rCon 158 nDflt (mP' (nCodw v5)) nHn nMxx 125 nK54 :=
  have hp : rAllP (nCodw v5) nMxx nL54 := ⟨⟨rfl, rfl⟩, ⟨rfl, rfl⟩, ⟨rfl, rfl⟩, ⟨rfl, rfl⟩, ⟨rfl, rfl⟩, ⟨rfl, rfl⟩, trivial⟩
  rChk_ok (by decide) (rLk_ok hp) (rLm_ok hp) (nHk v5) (rTab_ok (show rAllC (rCon 158 nDflt (mP' (nCodw v5)) nHn nMxx) nT54' from ⟨⟨nRc v5 h5 0 2 (by decide) (by decide), nRc v5 h5 1 2 (by decide) (by decide), nRc v5 h5 0 3 (by decide) (by decide), nRc v5 h5 1 3 (by decide) (by decide), nRc v5 h5 2 3 (by decide) (by decide), nRc v5 h5 0 4 (by decide) (by decide), nRc v5 h5 1 4 (by decide) (by decide), nRc v5 h5 2 4 (by decide) (by decide), nRc v5 h5 3 4 (by decide) (by decide), trivial⟩, ⟨nR34 v5 h5, trivial⟩, trivial⟩)) nV54'
theorem nR55 (v5 : Value) (h5 : nFv v5) : rCon 158 nDflt (mP' (nCodw v5)) nHn nMxx 125 nK55 :=
  have hp : rAllP (nCodw v5) nMxx nL55 := ⟨⟨rfl, rfl⟩, ⟨rfl, rfl⟩, ⟨rfl, rfl⟩, ⟨rfl, rfl⟩, ⟨rfl, rfl⟩, ⟨rfl, rfl⟩, trivial⟩
  rChk_ok (by decide) (rLk_ok hp) (rLm_ok hp) (nHk v5) (rTab_ok (show rAllC (rCon 158 nDflt (mP' (nCodw v5)) nHn nMxx) nT55' from ⟨⟨nRc v5 h5 0 2 (by decide) (by decide), nRc v5 h5 1 2 (by decide) (by decide), nRc v5 h5 0 3 (by decide) (by decide), nRc v5 h5 1 3 (by decide) (by decide), nRc v5 h5 2 3 (by decide) (by decide), nRc v5 h5 0 4 (by decide) (by decide), nRc v5 h5 1 4 (by decide) (by decide), nRc v5 h5 2 4 (by decide) (by decide), nRc v5 h5 3 4 (by decide) (by decide), trivial⟩, ⟨nR34 v5 h5, trivial⟩, trivial⟩)) nV55'
theorem nR56 (v5 : Value) (h5 : nFv v5) : rCon 158 nDflt (mP' (nCodw v5)) nHn nMxx 125 nK56 :=
  have hp : rAllP (nCodw v5) nMxx nL56 := ⟨⟨rfl, rfl⟩, ⟨rfl, rfl⟩, ⟨rfl, rfl⟩, ⟨rfl, rfl⟩, ⟨rfl, rfl⟩, ⟨rfl, rfl⟩, trivial⟩
  rChk_ok (by decide) (rLk_ok hp) (rLm_ok hp) (nHk v5) (rTab_ok (show rAllC (rCon 158 nDflt (mP' (nCodw v5)) nHn nMxx) nT56' from ⟨⟨nRc v5 h5 0 2 (by decide) (by decide), nRc v5 h5 1 2 (by decide) (by decide), nRc v5 h5 0 3 (by decide) (by decide), nRc v5 h5 1 3 (by decide) (by decide), nRc v5 h5 2 3 (by decide) (by decide), nRc v5 h5 0 4 (by decide) (by decide), nRc v5 h5 1 4 (by decide) (by decide), nRc v5 h5 2 4 (by decide) (by decide), nRc v5 h5 3 4 (by decide) (by decide), trivial⟩, ⟨nR34 v5 h5, trivial⟩, trivial⟩)) nV56'
theorem nR57 (v5 : Value) (h5 : nFv v5) : rCon 158 nDflt (mP' (nCodw v5)) nHn nMxx 125 nK57 :=
  have hp : rAllP (nCodw v5) nMxx nL57 := ⟨⟨rfl, rfl⟩, ⟨rfl, rfl⟩, ⟨rfl, rfl⟩, ⟨rfl, rfl⟩, ⟨rfl, rfl⟩, ⟨rfl, rfl⟩, trivial⟩
  rChk_ok (by decide) (rLk_ok hp) (rLm_ok hp) (nHk v5) (rTab_ok (show rAllC (rCon 158 nDflt (mP' (nCodw v5)) nHn nMxx) nT57' from ⟨⟨nRc v5 h5 0 2 (by decide) (by decide), nRc v5 h5 1 2 (by decide) (by decide), nRc v5 h5 0 3 (by decide) (by decide), nRc v5 h5 1 3 (by decide) (by decide), nRc v5 h5 2 3 (by decide) (by decide), nRc v5 h5 0 4 (by decide) (by decide), nRc v5 h5 1 4 (by decide) (by decide), nRc v5 h5 2 4 (by decide) (by decide), nRc v5 h5 3 4 (by decide) (by decide), trivial⟩, ⟨nR34 v5 h5, trivial⟩, trivial⟩)) nV57'
theorem nR58 (v5 : Value) (h5 : nFv v5) : rCon 158 nDflt (mP' (nCodw v5)) nHn nMxx 125 nK58 :=
  have hp : rAllP (nCodw v5) nMxx nL58 := ⟨⟨rfl, rfl⟩, ⟨rfl, rfl⟩, ⟨rfl, rfl⟩, ⟨rfl, rfl⟩, ⟨rfl, rfl⟩, ⟨rfl, rfl⟩, trivial⟩
  rChk_ok (by decide) (rLk_ok hp) (rLm_ok hp) (nHk v5) (rTab_ok (show rAllC (rCon 158 nDflt (mP' (nCodw v5)) nHn nMxx) nT58' from ⟨⟨nRc v5 h5 0 2 (by decide) (by decide), nRc v5 h5 1 2 (by decide) (by decide), nRc v5 h5 0 3 (by decide) (by decide), nRc v5 h5 1 3 (by decide) (by decide), nRc v5 h5 2 3 (by decide) (by decide), nRc v5 h5 0 4 (by decide) (by decide), nRc v5 h5 1 4 (by decide) (by decide), nRc v5 h5 2 4 (by decide) (by decide), nRc v5 h5 3 4 (by decide) (by decide), trivial⟩, ⟨nR34 v5 h5, trivial⟩, trivial⟩)) nV58'
theorem nR59 (v5 : Value) (h5 : nFv v5) : rCon 158 nDflt (mP' (nCodw v5)) nHn nMxx 125 nK59 :=
  have hp : rAllP (nCodw v5) nMxx nL59 := ⟨⟨rfl, rfl⟩, ⟨rfl, rfl⟩, ⟨rfl, rfl⟩, ⟨rfl, rfl⟩, ⟨rfl, rfl⟩, ⟨rfl, rfl⟩, trivial⟩
  rChk_ok (by decide) (rLk_ok hp) (rLm_ok hp) (nHk v5) (rTab_ok (show rAllC (rCon 158 nDflt (mP' (nCodw v5)) nHn nMxx) nT59' from ⟨⟨nRc v5 h5 0 2 (by decide) (by decide), nRc v5 h5 1 2 (by decide) (by decide), nRc v5 h5 0 3 (by decide) (by decide), nRc v5 h5 1 3 (by decide) (by decide), nRc v5 h5 2 3 (by decide) (by decide), nRc v5 h5 0 4 (by decide) (by decide), nRc v5 h5 1 4 (by decide) (by decide), nRc v5 h5 2 4 (by decide) (by decide), nRc v5 h5 3 4 (by decide) (by decide), trivial⟩, ⟨nR34 v5 h5, trivial⟩, trivial⟩)) nV59'
theorem nR60 (v5 : Value) (h5 : nFv v5) : rCon 158 nDflt (mP' (nCodw v5)) nHn nMxx 125 nK60 :=
  have hp : rAllP (nCodw v5) nMxx nL60 := ⟨⟨rfl, rfl⟩, ⟨rfl, rfl⟩, ⟨rfl, rfl⟩, ⟨rfl, rfl⟩, ⟨rfl, rfl⟩, ⟨rfl, rfl⟩, trivial⟩
  rChk_ok (by decide) (rLk_ok hp) (rLm_ok hp) (nHk v5) (rTab_ok (show rAllC (rCon 158 nDflt (mP' (nCodw v5)) nHn nMxx) nT60' from ⟨⟨nRc v5 h5 0 2 (by decide) (by decide), nRc v5 h5 1 2 (by decide) (by decide), nRc v5 h5 0 3 (by decide) (by decide), nRc v5 h5 1 3 (by decide) (by decide), nRc v5 h5 2 3 (by decide) (by decide), nRc v5 h5 0 4 (by decide) (by decide), nRc v5 h5 1 4 (by decide) (by decide), nRc v5 h5 2 4 (by decide) (by decide), nRc v5 h5 3 4 (by decide) (by decide), trivial⟩, ⟨nR34 v5 h5, trivial⟩, trivial⟩)) nV60'
theorem nR61 (v5 : Value) (h5 : nFv v5) : rCon 158 nDflt (mP' (nCodw v5)) nHn nMxx 125 nK61 :=
  have hp : rAllP (nCodw v5) nMxx nL61 := ⟨⟨rfl, rfl⟩, ⟨rfl, rfl⟩, ⟨rfl, rfl⟩, ⟨rfl, rfl⟩, ⟨rfl, rfl⟩, ⟨rfl, rfl⟩, trivial⟩
  rChk_ok (by decide) (rLk_ok hp) (rLm_ok hp) (nHk v5) (rTab_ok (show rAllC (rCon 158 nDflt (mP' (nCodw v5)) nHn nMxx) nT61' from ⟨⟨nRc v5 h5 0 2 (by decide) (by decide), nRc v5 h5 1 2 (by decide) (by decide), nRc v5 h5 0 3 (by decide) (by decide), nRc v5 h5 1 3 (by decide) (by decide), nRc v5 h5 2 3 (by decide) (by decide), nRc v5 h5 0 4 (by decide) (by decide), nRc v5 h5 1 4 (by decide) (by decide), nRc v5 h5 2 4 (by decide) (by decide), nRc v5 h5 3 4 (by decide) (by decide), trivial⟩, ⟨nR34 v5 h5, trivial⟩, trivial⟩)) nV61'
theorem nR62 (v5 : Value) (h5 : nFv v5) : rCon 158 nDflt (mP' (nCodw v5)) nHn nMxx 125 nK62 :=
  have hp : rAllP (nCodw v5) nMxx nL62 := ⟨⟨rfl, rfl⟩, ⟨rfl, rfl⟩, ⟨rfl, rfl⟩, ⟨rfl, rfl⟩, ⟨rfl, rfl⟩, ⟨rfl, rfl⟩, trivial⟩
  rChk_ok (by decide) (rLk_ok hp) (rLm_ok hp) (nHk v5) (rTab_ok (show rAllC (rCon 158 nDflt (mP' (nCodw v5)) nHn nMxx) nT62' from ⟨⟨nRc v5 h5 0 2 (by decide) (by decide), nRc v5 h5 1 2 (by decide) (by decide), nRc v5 h5 0 3 (by decide) (by decide), nRc v5 h5 1 3 (by decide) (by decide), nRc v5 h5 2 3 (by decide) (by decide), nRc v5 h5 0 4 (by decide) (by decide), nRc v5 h5 1 4 (by decide) (by decide), nRc v5 h5 2 4 (by decide) (by decide), nRc v5 h5 3 4 (by decide) (by decide), trivial⟩, ⟨nR34 v5 h5, trivial⟩, trivial⟩)) nV62'
theorem nR63 (v5 : Value) (h5 : nFv v5) : rCon 158 nDflt (mP' (nCodw v5)) nHn nMxx 125 nK63 :=
  have hp : rAllP (nCodw v5) nMxx nL63 := ⟨⟨rfl, rfl⟩, ⟨rfl, rfl⟩, ⟨rfl, rfl⟩, ⟨rfl, rfl⟩, ⟨rfl, rfl⟩, ⟨rfl, rfl⟩, trivial⟩
  rChk_ok (by decide) (rLk_ok hp) (rLm_ok hp) (nHk v5) (rTab_ok (show rAllC (rCon 158 nDflt (mP' (nCodw v5)) nHn nMxx) nT63' from ⟨⟨nRc v5 h5 0 2 (by decide) (by decide), nRc v5 h5 1 2 (by decide) (by decide), nRc v5 h5 0 3 (by decide) (by decide), nRc v5 h5 1 3 (by decide) (by decide), nRc v5 h5 2 3 (by decide) (by decide), nRc v5 h5 0 4 (by decide) (by decide), nRc v5 h5 1 4 (by decide) (by decide), nRc v5 h5 2 4 (by decide) (by decide), nRc v5 h5 3 4 (by decide) (by decide), trivial⟩, ⟨nR34 v5 h5, trivial⟩, trivial⟩)) nV63'
theorem nR64 (v5 : Value) (h5 : nFv v5) : rCon 158 nDflt (mP' (nCodw v5)) nHn nMxx 125 nK64 :=
  have hp : rAllP (nCodw v5) nMxx nL64 := ⟨⟨rfl, rfl⟩, ⟨rfl, rfl⟩, ⟨rfl, rfl⟩, ⟨rfl, rfl⟩, ⟨rfl, rfl⟩, ⟨rfl, rfl⟩, trivial⟩
  rChk_ok (by decide) (rLk_ok hp) (rLm_ok hp) (nHk v5) (rTab_ok (show rAllC (rCon 158 nDflt (mP' (nCodw v5)) nHn nMxx) nT64' from ⟨⟨nRc v5 h5 0 2 (by decide) (by decide), nRc v5 h5 1 2 (by decide) (by decide), nRc v5 h5 0 3 (by decide) (by decide), nRc v5 h5 1 3 (by decide) (by decide), nRc v5 h5 2 3 (by decide) (by decide), nRc v5 h5 0 4 (by decide) (by decide), nRc v5 h5 1 4 (by decide) (by decide), nRc v5 h5 2 4 (by decide) (by decide), nRc v5 h5 3 4 (by decide) (by decide), trivial⟩, ⟨nR34 v5 h5, trivial⟩, trivial⟩)) nV64'
theorem nR65 (v5 : Value) (h5 : nFv v5) : rCon 158 nDflt (mP' (nCodw v5)) nHn nMxx 125 nK65 :=
  have hp : rAllP (nCodw v5) nMxx nL65 := ⟨⟨rfl, rfl⟩, ⟨rfl, rfl⟩, ⟨rfl, rfl⟩, ⟨rfl, rfl⟩, ⟨rfl, rfl⟩, ⟨rfl, rfl⟩, trivial⟩
  rChk_ok (by decide) (rLk_ok hp) (rLm_ok hp) (nHk v5) (rTab_ok (show rAllC (rCon 158 nDflt (mP' (nCodw v5)) nHn nMxx) nT65' from ⟨⟨nRc v5 h5 0 2 (by decide) (by decide), nRc v5 h5 1 2 (by decide) (by decide), nRc v5 h5 0 3 (by decide) (by decide), nRc v5 h5 1 3 (by decide) (by decide), nRc v5 h5 2 3 (by decide) (by decide), nRc v5 h5 0 4 (by decide) (by decide), nRc v5 h5 1 4 (by decide) (by decide), nRc v5 h5 2 4 (by decide) (by decide), nRc v5 h5 3 4 (by decide) (by decide), trivial⟩, ⟨nR34 v5 h5, trivial⟩, trivial⟩)) nV65'
theorem nR66 (v5 : Value) (h5 : nFv v5) : rCon 158 nDflt (mP' (nCodw v5)) nHn nMxx 125 nK66 :=
  have hp : rAllP (nCodw v5) nMxx nL66 := ⟨⟨rfl, rfl⟩, ⟨rfl, rfl⟩, ⟨rfl, rfl⟩, ⟨rfl, rfl⟩, ⟨rfl, rfl⟩, ⟨rfl, rfl⟩, trivial⟩
  rChk_ok (by decide) (rLk_ok hp) (rLm_ok hp) (nHk v5) (rTab_ok (show rAllC (rCon 158 nDflt (mP' (nCodw v5)) nHn nMxx) nT66' from ⟨⟨nRc v5 h5 0 2 (by decide) (by decide), nRc v5 h5 1 2 (by decide) (by decide), nRc v5 h5 0 3 (by decide) (by decide), nRc v5 h5 1 3 (by decide) (by decide), nRc v5 h5 2 3 (by decide) (by decide), nRc v5 h5 0 4 (by decide) (by decide), nRc v5 h5 1 4 (by decide) (by decide), nRc v5 h5 2 4 (by decide) (by decide), nRc v5 h5 3 4 (by decide) (by decide), trivial⟩, ⟨nR34 v5 h5, trivial⟩, trivial⟩)) nV66'
theorem nR67 (v5 : Value) (h5 : nFv v5) : rCon 158 nDflt (mP' (nCodw v5)) nHn nMxx 125 nK67 :=
  have hp : rAllP (nCodw v5) nMxx nL67 := ⟨⟨rfl, rfl⟩, ⟨rfl, rfl⟩, ⟨rfl, rfl⟩, ⟨rfl, rfl⟩, ⟨rfl, rfl⟩, ⟨rfl, rfl⟩, trivial⟩
  rChk_ok (by decide) (rLk_ok hp) (rLm_ok hp) (nHk v5) (rTab_ok (show rAllC (rCon 158 nDflt (mP' (nCodw v5)) nHn nMxx) nT67' from ⟨⟨nRc v5 h5 0 2 (by decide) (by decide), nRc v5 h5 1 2 (by decide) (by decide), nRc v5 h5 0 3 (by decide) (by decide), nRc v5 h5 1 3 (by decide) (by decide), nRc v5 h5 2 3 (by decide) (by decide), nRc v5 h5 0 4 (by decide) (by decide), nRc v5 h5 1 4 (by decide) (by decide), nRc v5 h5 2 4 (by decide) (by decide), nRc v5 h5 3 4 (by decide) (by decide), trivial⟩, ⟨nR34 v5 h5, trivial⟩, trivial⟩)) nV67'
theorem nR68 (v5 : Value) (h5 : nFv v5) : rCon 158 nDflt (mP' (nCodw v5)) nHn nMxx 125 nK68 :=
  have hp : rAllP (nCodw v5) nMxx nL68 := ⟨⟨rfl, rfl⟩, ⟨rfl, rfl⟩, ⟨rfl, rfl⟩, ⟨rfl, rfl⟩, ⟨rfl, rfl⟩, ⟨rfl, rfl⟩, trivial⟩
  rChk_ok (by decide) (rLk_ok hp) (rLm_ok hp) (nHk v5) (rTab_ok (show rAllC (rCon 158 nDflt (mP' (nCodw v5)) nHn nMxx) nT68' from ⟨⟨nRc v5 h5 0 2 (by decide) (by decide), nRc v5 h5 1 2 (by decide) (by decide), nRc v5 h5 0 3 (by decide) (by decide), nRc v5 h5 1 3 (by decide) (by decide), nRc v5 h5 2 3 (by decide) (by decide), nRc v5 h5 0 4 (by decide) (by decide), nRc v5 h5 1 4 (by decide) (by decide), nRc v5 h5 2 4 (by decide) (by decide), nRc v5 h5 3 4 (by decide) (by decide), trivial⟩, ⟨nR34 v5 h5, trivial⟩, trivial⟩)) nV68'
theorem nR69 (v5 : Value) (h5 : nFv v5) : rCon 158 nDflt (mP' (nCodw v5)) nHn nMxx 125 nK69 :=
  have hp : rAllP (nCodw v5) nMxx nL69 := ⟨⟨rfl, rfl⟩, ⟨rfl, rfl⟩, ⟨rfl, rfl⟩, ⟨rfl, rfl⟩, ⟨rfl, rfl⟩, ⟨rfl, rfl⟩, trivial⟩
  rChk_ok (by decide) (rLk_ok hp) (rLm_ok hp) (nHk v5) (rTab_ok (show rAllC (rCon 158 nDflt (mP' (nCodw v5)) nHn nMxx) nT69' from ⟨⟨nRc v5 h5 0 2 (by decide) (by decide), nRc v5 h5 1 2 (by decide) (by decide), nRc v5 h5 0 3 (by decide) (by decide), nRc v5 h5 1 3 (by decide) (by decide), nRc v5 h5 2 3 (by decide) (by decide), nRc v5 h5 0 4 (by decide) (by decide), nRc v5 h5 1 4 (by decide) (by decide), nRc v5 h5 2 4 (by decide) (by decide), nRc v5 h5 3 4 (by decide) (by decide), trivial⟩, ⟨nR34 v5 h5, trivial⟩, trivial⟩)) nV69'
theorem nR70 (v5 : Value) (h5 : nFv v5) : rCon 158 nDflt (mP' (nCodw v5)) nHn nMxx 125 nK70 :=
  have hp : rAllP (nCodw v5) nMxx nL70 := ⟨⟨rfl, rfl⟩, ⟨rfl, rfl⟩, ⟨rfl, rfl⟩, ⟨rfl, rfl⟩, ⟨rfl, rfl⟩, ⟨rfl, rfl⟩, trivial⟩
  rChk_ok (by decide) (rLk_ok hp) (rLm_ok hp) (nHk v5) (rTab_ok (show rAllC (rCon 158 nDflt (mP' (nCodw v5)) nHn nMxx) nT70' from ⟨⟨nRc v5 h5 0 2 (by decide) (by decide), nRc v5 h5 1 2 (by decide) (by decide), nRc v5 h5 0 3 (by decide) (by decide), nRc v5 h5 1 3 (by decide) (by decide), nRc v5 h5 2 3 (by decide) (by decide), nRc v5 h5 0 4 (by decide) (by decide), nRc v5 h5 1 4 (by decide) (by decide), nRc v5 h5 2 4 (by decide) (by decide), nRc v5 h5 3 4 (by decide) (by decide), trivial⟩, ⟨nR34 v5 h5, trivial⟩, trivial⟩)) nV70'
theorem nR71 (v5 : Value) (h5 : nFv v5) : rCon 158 nDflt (mP' (nCodw v5)) nHn nMxx 125 nK71 :=
  have hp : rAllP (nCodw v5) nMxx nL71 := ⟨⟨rfl, rfl⟩, ⟨rfl, rfl⟩, ⟨rfl, rfl⟩, ⟨rfl, rfl⟩, ⟨rfl, rfl⟩, ⟨rfl, rfl⟩, trivial⟩
  rChk_ok (by decide) (rLk_ok hp) (rLm_ok hp) (nHk v5) (rTab_ok (show rAllC (rCon 158 nDflt (mP' (nCodw v5)) nHn nMxx) nT71' from ⟨⟨nRc v5 h5 0 2 (by decide) (by decide), nRc v5 h5 1 2 (by decide) (by decide), nRc v5 h5 0 3 (by decide) (by decide), nRc v5 h5 1 3 (by decide) (by decide), nRc v5 h5 2 3 (by decide) (by decide), nRc v5 h5 0 4 (by decide) (by decide), nRc v5 h5 1 4 (by decide) (by decide), nRc v5 h5 2 4 (by decide) (by decide), nRc v5 h5 3 4 (by decide) (by decide), trivial⟩, ⟨nR34 v5 h5, trivial⟩, trivial⟩)) nV71'
theorem nR72 (v5 : Value) (h5 : nFv v5) : rCon 158 nDflt (mP' (nCodw v5)) nHn nMxx 125 nK72 :=
  have hp : rAllP (nCodw v5) nMxx nL72 := ⟨⟨rfl, rfl⟩, ⟨rfl, rfl⟩, ⟨rfl, rfl⟩, ⟨rfl, rfl⟩, ⟨rfl, rfl⟩, ⟨rfl, rfl⟩, trivial⟩
  rChk_ok (by decide) (rLk_ok hp) (rLm_ok hp) (nHk v5) (rTab_ok (show rAllC (rCon 158 nDflt (mP' (nCodw v5)) nHn nMxx) nT72' from ⟨⟨nRc v5 h5 0 2 (by decide) (by decide), nRc v5 h5 1 2 (by decide) (by decide), nRc v5 h5 0 3 (by decide) (by decide), nRc v5 h5 1 3 (by decide) (by decide), nRc v5 h5 2 3 (by decide) (by decide), nRc v5 h5 0 4 (by decide) (by decide), nRc v5 h5 1 4 (by decide) (by decide), nRc v5 h5 2 4 (by decide) (by decide), nRc v5 h5 3 4 (by decide) (by decide), trivial⟩, ⟨nR34 v5 h5, trivial⟩, trivial⟩)) nV72'
theorem nR73 (v5 : Value) (h5 : nFv v5) : rCon 158 nDflt (mP' (nCodw v5)) nHn nMxx 125 nK73 :=
  have hp : rAllP (nCodw v5) nMxx nL73 := ⟨⟨rfl, rfl⟩, ⟨rfl, rfl⟩, ⟨rfl, rfl⟩, ⟨rfl, rfl⟩, ⟨rfl, rfl⟩, ⟨rfl, rfl⟩, trivial⟩
  rChk_ok (by decide) (rLk_ok hp) (rLm_ok hp) (nHk v5) (rTab_ok (show rAllC (rCon 158 nDflt (mP' (nCodw v5)) nHn nMxx) nT73' from ⟨⟨nRc v5 h5 0 2 (by decide) (by decide), nRc v5 h5 1 2 (by decide) (by decide), nRc v5 h5 0 3 (by decide) (by decide), nRc v5 h5 1 3 (by decide) (by decide), nRc v5 h5 2 3 (by decide) (by decide), nRc v5 h5 0 4 (by decide) (by decide), nRc v5 h5 1 4 (by decide) (by decide), nRc v5 h5 2 4 (by decide) (by decide), nRc v5 h5 3 4 (by decide) (by decide), trivial⟩, ⟨nR34 v5 h5, trivial⟩, trivial⟩)) nV73'
theorem nR74 (v5 : Value) (h5 : nFv v5) : rCon 158 nDflt (mP' (nCodw v5)) nHn nMxx 125 nK74 :=
  have hp : rAllP (nCodw v5) nMxx nL74 := ⟨⟨rfl, rfl⟩, ⟨rfl, rfl⟩, ⟨rfl, rfl⟩, ⟨rfl, rfl⟩, ⟨rfl, rfl⟩, ⟨rfl, rfl⟩, trivial⟩
  rChk_ok (by decide) (rLk_ok hp) (rLm_ok hp) (nHk v5) (rTab_ok (show rAllC (rCon 158 nDflt (mP' (nCodw v5)) nHn nMxx) nT74' from ⟨⟨nRc v5 h5 0 2 (by decide) (by decide), nRc v5 h5 1 2 (by decide) (by decide), nRc v5 h5 0 3 (by decide) (by decide), nRc v5 h5 1 3 (by decide) (by decide), nRc v5 h5 2 3 (by decide) (by decide), nRc v5 h5 0 4 (by decide) (by decide), nRc v5 h5 1 4 (by decide) (by decide), nRc v5 h5 2 4 (by decide) (by decide), nRc v5 h5 3 4 (by decide) (by decide), trivial⟩, ⟨nR34 v5 h5, trivial⟩, trivial⟩)) nV74'
theorem nR75 (v5 : Value) (h5 : nFv v5) : rCon 158 nDflt (mP' (nCodw v5)) nHn nMxx 125 nK75 :=
  have hp : rAllP (nCodw v5) nMxx nL75 := ⟨⟨rfl, rfl⟩, ⟨rfl, rfl⟩, ⟨rfl, rfl⟩, ⟨rfl, rfl⟩, ⟨rfl, rfl⟩, ⟨rfl, rfl⟩, trivial⟩
  rChk_ok (by decide) (rLk_ok hp) (rLm_ok hp) (nHk v5) (rTab_ok (show rAllC (rCon 158 nDflt (mP' (nCodw v5)) nHn nMxx) nT75' from ⟨⟨nRc v5 h5 0 2 (by decide) (by decide), nRc v5 h5 1 2 (by decide) (by decide), nRc v5 h5 0 3 (by decide) (by decide), nRc v5 h5 1 3 (by decide) (by decide), nRc v5 h5 2 3 (by decide) (by decide), nRc v5 h5 0 4 (by decide) (by decide), nRc v5 h5 1 4 (by decide) (by decide), nRc v5 h5 2 4 (by decide) (by decide), nRc v5 h5 3 4 (by decide) (by decide), trivial⟩, ⟨nR34 v5 h5, trivial⟩, trivial⟩)) nV75'
theorem nR76 (v5 : Value) (h5 : nFv v5) : rCon 158 nDflt (mP' (nCodw v5)) nHn nMxx 125 nK76 :=
  have hp : rAllP (nCodw v5) nMxx nL76 := ⟨⟨rfl, rfl⟩, ⟨rfl, rfl⟩, ⟨rfl, rfl⟩, ⟨rfl, rfl⟩, ⟨rfl, rfl⟩, ⟨rfl, rfl⟩, trivial⟩
  rChk_ok (by decide) (rLk_ok hp) (rLm_ok hp) (nHk v5) (rTab_ok (show rAllC (rCon 158 nDflt (mP' (nCodw v5)) nHn nMxx) nT76' from ⟨⟨nRc v5 h5 0 2 (by decide) (by decide), nRc v5 h5 1 2 (by decide) (by decide), nRc v5 h5 0 3 (by decide) (by decide), nRc v5 h5 1 3 (by decide) (by decide), nRc v5 h5 2 3 (by decide) (by decide), nRc v5 h5 0 4 (by decide) (by decide), nRc v5 h5 1 4 (by decide) (by decide), nRc v5 h5 2 4 (by decide) (by decide), nRc v5 h5 3 4 (by decide) (by decide), trivial⟩, ⟨nR34 v5 h5, trivial⟩, trivial⟩)) nV76'
theorem nR77 (v5 : Value) (h5 : nFv v5) : rCon 158 nDflt (mP' (nCodw v5)) nHn nMxx 125 nK77 :=
  have hp : rAllP (nCodw v5) nMxx nL77 := ⟨⟨rfl, rfl⟩, ⟨rfl, rfl⟩, ⟨rfl, rfl⟩, ⟨rfl, rfl⟩, ⟨rfl, rfl⟩, ⟨rfl, rfl⟩, trivial⟩
  rChk_ok (by decide) (rLk_ok hp) (rLm_ok hp) (nHk v5) (rTab_ok (show rAllC (rCon 158 nDflt (mP' (nCodw v5)) nHn nMxx) nT77' from ⟨⟨nRc v5 h5 0 2 (by decide) (by decide), nRc v5 h5 1 2 (by decide) (by decide), nRc v5 h5 0 3 (by decide) (by decide), nRc v5 h5 1 3 (by decide) (by decide), nRc v5 h5 2 3 (by decide) (by decide), nRc v5 h5 0 4 (by decide) (by decide), nRc v5 h5 1 4 (by decide) (by decide), nRc v5 h5 2 4 (by decide) (by decide), nRc v5 h5 3 4 (by decide) (by decide), trivial⟩, ⟨nR34 v5 h5, trivial⟩, trivial⟩)) nV77'
theorem nR78 (v5 : Value) (h5 : nFv v5) : rCon 158 nDflt (mP' (nCodw v5)) nHn nMxx 125 nK78 :=
  have hp : rAllP (nCodw v5) nMxx nL78 := ⟨⟨rfl, rfl⟩, ⟨rfl, rfl⟩, ⟨rfl, rfl⟩, ⟨rfl, rfl⟩, ⟨rfl, rfl⟩, ⟨rfl, rfl⟩, trivial⟩
  rChk_ok (by decide) (rLk_ok hp) (rLm_ok hp) (nHk v5) (rTab_ok (show rAllC (rCon 158 nDflt (mP' (nCodw v5)) nHn nMxx) nT78' from ⟨⟨nRc v5 h5 0 2 (by decide) (by decide), nRc v5 h5 1 2 (by decide) (by decide), nRc v5 h5 0 3 (by decide) (by decide), nRc v5 h5 1 3 (by decide) (by decide), nRc v5 h5 2 3 (by decide) (by decide), nRc v5 h5 0 4 (by decide) (by decide), nRc v5 h5 1 4 (by decide) (by decide), nRc v5 h5 2 4 (by decide) (by decide), nRc v5 h5 3 4 (by decide) (by decide), trivial⟩, ⟨nR34 v5 h5, trivial⟩, trivial⟩)) nV78'
theorem nR79 (v5 : Value) (h5 : nFv v5) : rCon 158 nDflt (mP' (nCodw v5)) nHn nMxx 125 nK79 :=
  have hp : rAllP (nCodw v5) nMxx nL79 := ⟨⟨rfl, rfl⟩, ⟨rfl, rfl⟩, ⟨rfl, rfl⟩, ⟨rfl, rfl⟩, ⟨rfl, rfl⟩, ⟨rfl, rfl⟩, trivial⟩
  rChk_ok (by decide) (rLk_ok hp) (rLm_ok hp) (nHk v5) (rTab_ok (show rAllC (rCon 158 nDflt (mP' (nCodw v5)) nHn nMxx) nT79' from ⟨⟨nRc v5 h5 0 2 (by decide) (by decide), nRc v5 h5 1 2 (by decide) (by decide), nRc v5 h5 0 3 (by decide) (by decide), nRc v5 h5 1 3 (by decide) (by decide), nRc v5 h5 2 3 (by decide) (by decide), nRc v5 h5 0 4 (by decide) (by decide), nRc v5 h5 1 4 (by decide) (by decide), nRc v5 h5 2 4 (by decide) (by decide), nRc v5 h5 3 4 (by decide) (by decide), trivial⟩, ⟨nR34 v5 h5, trivial⟩, trivial⟩)) nV79'
theorem nR80 (v5 : Value) (h5 : nFv v5) : rCon 158 nDflt (mP' (nCodw v5)) nHn nMxx 125 nK80 :=
  have hp : rAllP (nCodw v5) nMxx nL80 := ⟨⟨rfl, rfl⟩, ⟨rfl, rfl⟩, ⟨rfl, rfl⟩, ⟨rfl, rfl⟩, ⟨rfl, rfl⟩, ⟨rfl, rfl⟩, trivial⟩
  rChk_ok (by decide) (rLk_ok hp) (rLm_ok hp) (nHk v5) (rTab_ok (show rAllC (rCon 158 nDflt (mP' (nCodw v5)) nHn nMxx) nT80' from ⟨⟨nRc v5 h5 0 2 (by decide) (by decide), nRc v5 h5 1 2 (by decide) (by decide), nRc v5 h5 0 3 (by decide) (by decide), nRc v5 h5 1 3 (by decide) (by decide), nRc v5 h5 2 3 (by decide) (by decide), nRc v5 h5 0 4 (by decide) (by decide), nRc v5 h5 1 4 (by decide) (by decide), nRc v5 h5 2 4 (by decide) (by decide), nRc v5 h5 3 4 (by decide) (by decide), trivial⟩, ⟨nR34 v5 h5, trivial⟩, trivial⟩)) nV80'
theorem nR81 (v5 : Value) (h5 : nFv v5) : rCon 158 nDflt (mP' (nCodw v5)) nHn nMxx 125 nK81 :=
  have hp : rAllP (nCodw v5) nMxx nL81 := ⟨⟨rfl, rfl⟩, ⟨rfl, rfl⟩, ⟨rfl, rfl⟩, ⟨rfl, rfl⟩, ⟨rfl, rfl⟩, ⟨rfl, rfl⟩, trivial⟩
  rChk_ok (by decide) (rLk_ok hp) (rLm_ok hp) (nHk v5) (rTab_ok (show rAllC (rCon 158 nDflt (mP' (nCodw v5)) nHn nMxx) nT81' from ⟨⟨nRc v5 h5 0 2 (by decide) (by decide), nRc v5 h5 1 2 (by decide) (by decide), nRc v5 h5 0 3 (by decide) (by decide), nRc v5 h5 1 3 (by decide) (by decide), nRc v5 h5 2 3 (by decide) (by decide), nRc v5 h5 0 4 (by decide) (by decide), nRc v5 h5 1 4 (by decide) (by decide), nRc v5 h5 2 4 (by decide) (by decide), nRc v5 h5 3 4 (by decide) (by decide), trivial⟩, ⟨nR34 v5 h5, trivial⟩, trivial⟩)) nV81'
theorem nR82 (v5 : Value) (h5 : nFv v5) : rCon 158 nDflt (mP' (nCodw v5)) nHn nMxx 125 nK82 :=
  have hp : rAllP (nCodw v5) nMxx nL82 := ⟨⟨rfl, rfl⟩, ⟨rfl, rfl⟩, ⟨rfl, rfl⟩, ⟨rfl, rfl⟩, ⟨rfl, rfl⟩, ⟨rfl, rfl⟩, trivial⟩
  rChk_ok (by decide) (rLk_ok hp) (rLm_ok hp) (nHk v5) (rTab_ok (show rAllC (rCon 158 nDflt (mP' (nCodw v5)) nHn nMxx) nT82' from ⟨⟨nRc v5 h5 0 2 (by decide) (by decide), nRc v5 h5 1 2 (by decide) (by decide), nRc v5 h5 0 3 (by decide) (by decide), nRc v5 h5 1 3 (by decide) (by decide), nRc v5 h5 2 3 (by decide) (by decide), nRc v5 h5 0 4 (by decide) (by decide), nRc v5 h5 1 4 (by decide) (by decide), nRc v5 h5 2 4 (by decide) (by decide), nRc v5 h5 3 4 (by decide) (by decide), trivial⟩, ⟨nR34 v5 h5, trivial⟩, trivial⟩)) nV82'
theorem nR83 (v5 : Value) (h5 : nFv v5) : rCon 158 nDflt (mP' (nCodw v5)) nHn nMxx 125 nK83 :=
  have hp : rAllP (nCodw v5) nMxx nL83 := ⟨⟨rfl, rfl⟩, ⟨rfl, rfl⟩, ⟨rfl, rfl⟩, ⟨rfl, rfl⟩, ⟨rfl, rfl⟩, ⟨rfl, rfl⟩, trivial⟩
  rChk_ok (by decide) (rLk_ok hp) (rLm_ok hp) (nHk v5) (rTab_ok (show rAllC (rCon 158 nDflt (mP' (nCodw v5)) nHn nMxx) nT83' from ⟨⟨nRc v5 h5 0 2 (by decide) (by decide), nRc v5 h5 1 2 (by decide) (by decide), nRc v5 h5 0 3 (by decide) (by decide), nRc v5 h5 1 3 (by decide) (by decide), nRc v5 h5 2 3 (by decide) (by decide), nRc v5 h5 0 4 (by decide) (by decide), nRc v5 h5 1 4 (by decide) (by decide), nRc v5 h5 2 4 (by decide) (by decide), nRc v5 h5 3 4 (by decide) (by decide), trivial⟩, ⟨nR34 v5 h5, trivial⟩, trivial⟩)) nV83'
theorem nR84 (v5 : Value) (h5 : nFv v5) : rCon 158 nDflt (mP' (nCodw v5)) nHn nMxx 125 nK84 :=
  have hp : rAllP (nCodw v5) nMxx nL84 := ⟨⟨rfl, rfl⟩, ⟨rfl, rfl⟩, ⟨rfl, rfl⟩, ⟨rfl, rfl⟩, ⟨rfl, rfl⟩, ⟨rfl, rfl⟩, trivial⟩
  rChk_ok (by decide) (rLk_ok hp) (rLm_ok hp) (nHk v5) (rTab_ok (show rAllC (rCon 158 nDflt (mP' (nCodw v5)) nHn nMxx) nT84' from ⟨⟨nRc v5 h5 0 2 (by decide) (by decide), nRc v5 h5 1 2 (by decide) (by decide), nRc v5 h5 0 3 (by decide) (by decide), nRc v5 h5 1 3 (by decide) (by decide), nRc v5 h5 2 3 (by decide) (by decide), nRc v5 h5 0 4 (by decide) (by decide), nRc v5 h5 1 4 (by decide) (by decide), nRc v5 h5 2 4 (by decide) (by decide), nRc v5 h5 3 4 (by decide) (by decide), trivial⟩, ⟨nR34 v5 h5, trivial⟩, trivial⟩)) nV84'
theorem nR85 (v5 : Value) (h5 : nFv v5) : rCon 158 nDflt (mP' (nCodw v5)) nHn nMxx 84 nK85 :=
  have hp : rAllP (nCodw v5) nMxx nL85 := ⟨⟨rfl, rfl⟩, ⟨rfl, rfl⟩, trivial⟩
  rChkQ_ok (by decide) (rLk_ok hp) (rLm_ok hp) (nHk v5) (rTab_ok (show rAllC (rCon 158 nDflt (mP' (nCodw v5)) nHn nMxx) nT85' from ⟨⟨nR25 v5 h5, trivial⟩, ⟨nR26 v5 h5, trivial⟩, ⟨nR28 v5 h5, trivial⟩, ⟨nR35 v5 h5, nR36 v5 h5, nR37 v5 h5, nR38 v5 h5, nR39 v5 h5, nR40 v5 h5, nR41 v5 h5, nR42 v5 h5, nR43 v5 h5, nR44 v5 h5, nR45 v5 h5, nR46 v5 h5, nR47 v5 h5, nR48 v5 h5, nR49 v5 h5, nR50 v5 h5, nR51 v5 h5, nR52 v5 h5, nR53 v5 h5, nR54 v5 h5, nR55 v5 h5, nR56 v5 h5, nR57 v5 h5, nR58 v5 h5, nR59 v5 h5, nR60 v5 h5, nR61 v5 h5, nR62 v5 h5, nR63 v5 h5, nR64 v5 h5, nR65 v5 h5, nR66 v5 h5, nR67 v5 h5, nR68 v5 h5, nR69 v5 h5, nR70 v5 h5, nR71 v5 h5, nR72 v5 h5, nR73 v5 h5, nR74 v5 h5, nR75 v5 h5, nR76 v5 h5, nR77 v5 h5, nR78 v5 h5, nR79 v5 h5, nR80 v5 h5, nR81 v5 h5, nR82 v5 h5, nR83 v5 h5, nR84 v5 h5, trivial⟩, trivial⟩)) (d := 8) (n := 1500) rfl (by decide) (by decide) (by decide) nU85_a
theorem nR86 (v5 : Value) (h5 : nFv v5) : rCon 158 nDflt (mP' (nCodw v5)) nHn nMxx 131 nK86 :=
  have hp : rAllP (nCodw v5) nMxx nL86 := ⟨⟨rfl, rfl⟩, ⟨rfl, rfl⟩, ⟨rfl, rfl⟩, ⟨rfl, rfl⟩, ⟨rfl, rfl⟩, trivial⟩
  rChk_ok (by decide) (rLk_ok hp) (rLm_ok hp) (nHk v5) (rTab_ok (show rAllC (rCon 158 nDflt (mP' (nCodw v5)) nHn nMxx) nT86' from trivial)) nV86'
theorem nR87 (v5 : Value) (h5 : nFv v5) : rCon 158 nDflt (mP' (nCodw v5)) nHn nMxx 91 nK87 :=
  have hp : rAllP (nCodw v5) nMxx nL87 := ⟨⟨rfl, rfl⟩, ⟨rfl, rfl⟩, trivial⟩
  rChk_ok (by decide) (rLk_ok hp) (rLm_ok hp) (nHk v5) (rTab_ok (show rAllC (rCon 158 nDflt (mP' (nCodw v5)) nHn nMxx) nT87' from ⟨⟨nR86 v5 h5, trivial⟩, trivial⟩)) nV87'
theorem nR88 (v5 : Value) (h5 : nFv v5) : rCon 158 nDflt (mP' (nCodw v5)) nHn nMxx 87 nK88 :=
  have hp : rAllP (nCodw v5) nMxx nL88 := ⟨⟨rfl, rfl⟩, trivial⟩
  rChk_ok (by decide) (rLk_ok hp) (rLm_ok hp) (nHk v5) (rTab_ok (show rAllC (rCon 158 nDflt (mP' (nCodw v5)) nHn nMxx) nT88' from ⟨⟨nR87 v5 h5, trivial⟩, trivial⟩)) nV88'
theorem nR89 (v5 : Value) (h5 : nFv v5) : rCon 158 nDflt (mP' (nCodw v5)) nHn nMxx 83 nK89 :=
  have hp : rAllP (nCodw v5) nMxx nL89 := ⟨⟨rfl, rfl⟩, ⟨rfl, rfl⟩, ⟨rfl, rfl⟩, ⟨rfl, rfl⟩, ⟨rfl, rfl⟩, trivial⟩
  rChk_ok (by decide) (rLk_ok hp) (rLm_ok hp) (nHk v5) (rTab_ok (show rAllC (rCon 158 nDflt (mP' (nCodw v5)) nHn nMxx) nT89' from ⟨⟨nR26 v5 h5, trivial⟩, ⟨nR27 v5 h5, trivial⟩, ⟨nR33 v5 h5, trivial⟩, trivial⟩)) nV89'
theorem nR90 (v5 : Value) (h5 : nFv v5) : rCon 158 nDflt (mP' (nCodw v5)) nHn nMxx 223 nK90 :=
  have hp : rAllP (nCodw v5) nMxx nL90 := ⟨⟨rfl, rfl⟩, trivial⟩
  rChk_ok (by decide) (rLk_ok hp) (rLm_ok hp) (nHk v5) (rTab_ok (show rAllC (rCon 158 nDflt (mP' (nCodw v5)) nHn nMxx) nT90' from trivial)) nV90'
theorem nR91 (v5 : Value) (h5 : nFv v5) : rCon 158 nDflt (mP' (nCodw v5)) nHn nMxx 221 nK91 :=
  have hp : rAllP (nCodw v5) nMxx nL91 := ⟨⟨rfl, rfl⟩, ⟨rfl, rfl⟩, ⟨rfl, rfl⟩, trivial⟩
  rChk_ok (by decide) (rLk_ok hp) (rLm_ok hp) (nHk v5) (rTab_ok (show rAllC (rCon 158 nDflt (mP' (nCodw v5)) nHn nMxx) nT91' from ⟨⟨nR29 v5 h5, trivial⟩, ⟨nR27 v5 h5, trivial⟩, ⟨nR31 v5 h5, nR32 v5 h5, trivial⟩, ⟨nR0 v5 h5, trivial⟩, trivial⟩)) nV91'
theorem nR92 (v5 : Value) (h5 : nFv v5) : rCon 158 nDflt (mP' (nCodw v5)) nHn nMxx 189 nK92 :=
  have hp : rAllP (nCodw v5) nMxx nL92 := ⟨⟨rfl, rfl⟩, trivial⟩
  rChk_ok (by decide) (rLk_ok hp) (rLm_ok hp) (nHk v5) (rTab_ok (show rAllC (rCon 158 nDflt (mP' (nCodw v5)) nHn nMxx) nT92' from ⟨⟨nR29 v5 h5, trivial⟩, ⟨nR91 v5 h5, trivial⟩, ⟨nR30 v5 h5, trivial⟩, ⟨nR90 v5 h5, trivial⟩, trivial⟩)) nV92'
theorem nR93 (v5 : Value) (h5 : nFv v5) : rCon 158 nDflt (mP' (nCodw v5)) nHn nMxx 134 nK93 :=
  have hp : rAllP (nCodw v5) nMxx nL93 := ⟨⟨rfl, rfl⟩, trivial⟩
  rChk_ok (by decide) (rLk_ok hp) (rLm_ok hp) (nHk v5) (rTab_ok (show rAllC (rCon 158 nDflt (mP' (nCodw v5)) nHn nMxx) nT93' from ⟨⟨nR92 v5 h5, trivial⟩, ⟨nR2 v5 h5, trivial⟩, ⟨nR29 v5 h5, trivial⟩, ⟨nR3 v5 h5, trivial⟩, ⟨nR86 v5 h5, trivial⟩, trivial⟩)) nV93'
theorem nR94 (v5 : Value) (h5 : nFv v5) : rCon 158 nDflt (mP' (nCodw v5)) nHn nMxx 188 nK94 :=
  have hp : rAllP (nCodw v5) nMxx nL94 := ⟨⟨rfl, rfl⟩, ⟨rfl, rfl⟩, ⟨rfl, rfl⟩, ⟨rfl, rfl⟩, trivial⟩
  rChk_ok (by decide) (rLk_ok hp) (rLm_ok hp) (nHk v5) (rTab_ok (show rAllC (rCon 158 nDflt (mP' (nCodw v5)) nHn nMxx) nT94' from ⟨⟨nR31 v5 h5, nR32 v5 h5, trivial⟩, ⟨nR33 v5 h5, trivial⟩, trivial⟩)) nV94'
theorem nR95 (v5 : Value) (h5 : nFv v5) : rCon 158 nDflt (mP' (nCodw v5)) nHn nMxx 126 nK95 :=
  have hp : rAllP (nCodw v5) nMxx nL95 := ⟨⟨rfl, rfl⟩, ⟨rfl, rfl⟩, ⟨rfl, rfl⟩, trivial⟩
  rChk_ok (by decide) (rLk_ok hp) (rLm_ok hp) (nHk v5) (rTab_ok (show rAllC (rCon 158 nDflt (mP' (nCodw v5)) nHn nMxx) nT95' from ⟨⟨nR29 v5 h5, trivial⟩, ⟨nR93 v5 h5, trivial⟩, ⟨nR28 v5 h5, trivial⟩, ⟨nR94 v5 h5, trivial⟩, ⟨nR92 v5 h5, trivial⟩, ⟨nR2 v5 h5, trivial⟩, trivial⟩)) nV95'
theorem nR96 (v5 : Value) (h5 : nFv v5) : rCon 158 nDflt (mP' (nCodw v5)) nHn nMxx 129 nK96 :=
  have hp : rAllP (nCodw v5) nMxx nL96 := ⟨⟨rfl, rfl⟩, trivial⟩
  rChk_ok (by decide) (rLk_ok hp) (rLm_ok hp) (nHk v5) (rTab_ok (show rAllC (rCon 158 nDflt (mP' (nCodw v5)) nHn nMxx) nT96' from trivial)) nV96'
theorem nR97 (v5 : Value) (h5 : nFv v5) : rCon 158 nDflt (mP' (nCodw v5)) nHn nMxx 88 nK97 :=
  have hp : rAllP (nCodw v5) nMxx nL97 := ⟨⟨rfl, rfl⟩, trivial⟩
  rChk_ok (by decide) (rLk_ok hp) (rLm_ok hp) (nHk v5) (rTab_ok (show rAllC (rCon 158 nDflt (mP' (nCodw v5)) nHn nMxx) nT97' from trivial)) nV97'
theorem nR98 (v5 : Value) (h5 : nFv v5) : rCon 158 nDflt (mP' (nCodw v5)) nHn nMxx 89 nK98 :=
  have hp : rAllP (nCodw v5) nMxx nL98 := ⟨⟨rfl, rfl⟩, ⟨rfl, rfl⟩, ⟨rfl, rfl⟩, ⟨rfl, rfl⟩, ⟨rfl, rfl⟩, ⟨rfl, rfl⟩, trivial⟩
  rChkQ_ok (by decide) (rLk_ok hp) (rLm_ok hp) (nHk v5) (rTab_ok (show rAllC (rCon 158 nDflt (mP' (nCodw v5)) nHn nMxx) nT98' from ⟨⟨nR95 v5 h5, trivial⟩, ⟨nR29 v5 h5, trivial⟩, ⟨nR92 v5 h5, trivial⟩, ⟨nR96 v5 h5, trivial⟩, ⟨nR86 v5 h5, trivial⟩, ⟨nR4 v5 h5, trivial⟩, trivial⟩)) (d := 10) (n := 15) rfl (by decide) (by decide) (by decide) nU98_a
theorem nR99 (v5 : Value) (h5 : nFv v5) : rCon 158 nDflt (mP' (nCodw v5)) nHn nMxx 90 nK99 :=
  have hp : rAllP (nCodw v5) nMxx nL99 := ⟨⟨rfl, rfl⟩, ⟨rfl, rfl⟩, ⟨rfl, rfl⟩, ⟨rfl, rfl⟩, ⟨rfl, rfl⟩, trivial⟩
  rChk_ok (by decide) (rLk_ok hp) (rLm_ok hp) (nHk v5) (rTab_ok (show rAllC (rCon 158 nDflt (mP' (nCodw v5)) nHn nMxx) nT99' from ⟨⟨nR93 v5 h5, trivial⟩, ⟨nR88 v5 h5, trivial⟩, ⟨nR0 v5 h5, trivial⟩, ⟨nR4 v5 h5, trivial⟩, trivial⟩)) nV99'
theorem nR100 (v5 : Value) (h5 : nFv v5) : rCon 158 nDflt (mP' (nCodw v5)) nHn nMxx 60 nK100 :=
  have hp : rAllP (nCodw v5) nMxx nL100 := ⟨⟨rfl, rfl⟩, ⟨rfl, rfl⟩, trivial⟩
  rChkQ_ok (by decide) (rLk_ok hp) (rLm_ok hp) (nHk v5) (rTab_ok (show rAllC (rCon 158 nDflt (mP' (nCodw v5)) nHn nMxx) nT100' from ⟨⟨nR23 v5 h5, trivial⟩, ⟨nR24 v5 h5, trivial⟩, ⟨nR89 v5 h5, trivial⟩, ⟨nR85 v5 h5, trivial⟩, ⟨nR2 v5 h5, trivial⟩, ⟨nR88 v5 h5, trivial⟩, ⟨nR97 v5 h5, trivial⟩, ⟨nR98 v5 h5, trivial⟩, ⟨nR99 v5 h5, trivial⟩, ⟨nR87 v5 h5, trivial⟩, trivial⟩)) (d := 11) (n := 15) rfl (by decide) (by decide) (by decide) nU100_a
theorem nR101 (v5 : Value) (h5 : nFv v5) : rCon 158 nDflt (mP' (nCodw v5)) nHn nMxx 92 nK101 :=
  have hp : rAllP (nCodw v5) nMxx nL101 := ⟨⟨rfl, rfl⟩, trivial⟩
  rChk_ok (by decide) (rLk_ok hp) (rLm_ok hp) (nHk v5) (rTab_ok (show rAllC (rCon 158 nDflt (mP' (nCodw v5)) nHn nMxx) nT101' from trivial)) nV101'
theorem nR102 (v5 : Value) (h5 : nFv v5) : rCon 158 nDflt (mP' (nCodw v5)) nHn nMxx 93 nK102 :=
  have hp : rAllP (nCodw v5) nMxx nL102 := ⟨⟨rfl, rfl⟩, ⟨rfl, rfl⟩, trivial⟩
  rChk_ok (by decide) (rLk_ok hp) (rLm_ok hp) (nHk v5) (rTab_ok (show rAllC (rCon 158 nDflt (mP' (nCodw v5)) nHn nMxx) nT102' from ⟨⟨nR2 v5 h5, trivial⟩, ⟨nR88 v5 h5, trivial⟩, ⟨nR4 v5 h5, trivial⟩, trivial⟩)) nV102'
theorem nR103 (v5 : Value) (h5 : nFv v5) : rCon 158 nDflt (mP' (nCodw v5)) nHn nMxx 94 nK103 :=
  have hp : rAllP (nCodw v5) nMxx nL103 := ⟨⟨rfl, rfl⟩, ⟨rfl, rfl⟩, trivial⟩
  rChk_ok (by decide) (rLk_ok hp) (rLm_ok hp) (nHk v5) (rTab_ok (show rAllC (rCon 158 nDflt (mP' (nCodw v5)) nHn nMxx) nT103' from ⟨⟨nR2 v5 h5, trivial⟩, ⟨nR87 v5 h5, trivial⟩, ⟨nR4 v5 h5, trivial⟩, trivial⟩)) nV103'
theorem nR104 (v5 : Value) (h5 : nFv v5) : rCon 158 nDflt (mP' (nCodw v5)) nHn nMxx 61 nK104 :=
  have hp : rAllP (nCodw v5) nMxx nL104 := ⟨⟨rfl, rfl⟩, ⟨rfl, rfl⟩, trivial⟩
  rChk_ok (by decide) (rLk_ok hp) (rLm_ok hp) (nHk v5) (rTab_ok (show rAllC (rCon 158 nDflt (mP' (nCodw v5)) nHn nMxx) nT104' from ⟨⟨nR101 v5 h5, trivial⟩, ⟨nR102 v5 h5, trivial⟩, ⟨nR103 v5 h5, trivial⟩, trivial⟩)) nV104'
theorem nR105 (v5 : Value) (h5 : nFv v5) : rCon 158 nDflt (mP' (nCodw v5)) nHn nMxx 62 nK105 :=
  have hp : rAllP (nCodw v5) nMxx nL105 := ⟨⟨rfl, rfl⟩, trivial⟩
  rChk_ok (by decide) (rLk_ok hp) (rLm_ok hp) (nHk v5) (rTab_ok (show rAllC (rCon 158 nDflt (mP' (nCodw v5)) nHn nMxx) nT105' from trivial)) nV105'
theorem nR106 (v5 : Value) (h5 : nFv v5) : rCon 158 nDflt (mP' (nCodw v5)) nHn nMxx 58 nK106 :=
  have hp : rAllP (nCodw v5) nMxx nL106 := ⟨⟨rfl, rfl⟩, ⟨rfl, rfl⟩, trivial⟩
  rChk_ok (by decide) (rLk_ok hp) (rLm_ok hp) (nHk v5) (rTab_ok (show rAllC (rCon 158 nDflt (mP' (nCodw v5)) nHn nMxx) nT106' from trivial)) nV106'
theorem nR107 (v5 : Value) (h5 : nFv v5) : rCon 158 nDflt (mP' (nCodw v5)) nHn nMxx 38 nK107 :=
  have hp : rAllP (nCodw v5) nMxx nL107 := ⟨⟨rfl, rfl⟩, ⟨rfl, rfl⟩, ⟨rfl, rfl⟩, trivial⟩
  rChk_ok (by decide) (rLk_ok hp) (rLm_ok hp) (nHk v5) (rTab_ok (show rAllC (rCon 158 nDflt (mP' (nCodw v5)) nHn nMxx) nT107' from ⟨⟨nR106 v5 h5, trivial⟩, ⟨nR100 v5 h5, trivial⟩, ⟨nR104 v5 h5, trivial⟩, ⟨nR105 v5 h5, trivial⟩, trivial⟩)) nV107'
theorem nR108 (v5 : Value) (h5 : nFv v5) : rCon 158 nDflt (mP' (nCodw v5)) nHn nMxx 73 nK108 :=
  have hp : rAllP (nCodw v5) nMxx nL108 := ⟨⟨rfl, rfl⟩, trivial⟩
  rChk_ok (by decide) (rLk_ok hp) (rLm_ok hp) (nHk v5) (rTab_ok (show rAllC (rCon 158 nDflt (mP' (nCodw v5)) nHn nMxx) nT108' from trivial)) nV108'
theorem nR109 (v5 : Value) (h5 : nFv v5) : rCon 158 nDflt (mP' (nCodw v5)) nHn nMxx 74 nK109 :=
  have hp : rAllP (nCodw v5) nMxx nL109 := ⟨⟨rfl, rfl⟩, ⟨rfl, rfl⟩, trivial⟩
  rChk_ok (by decide) (rLk_ok hp) (rLm_ok hp) (nHk v5) (rTab_ok (show rAllC (rCon 158 nDflt (mP' (nCodw v5)) nHn nMxx) nT109' from ⟨⟨nR108 v5 h5, trivial⟩, trivial⟩)) nV109'
theorem nR110 (v5 : Value) (h5 : nFv v5) : rCon 158 nDflt (mP' (nCodw v5)) nHn nMxx 146 nK110 :=
  have hp : rAllP (nCodw v5) nMxx nL110 := ⟨⟨rfl, rfl⟩, trivial⟩
  rChk_ok (by decide) (rLk_ok hp) (rLm_ok hp) (nHk v5) (rTab_ok (show rAllC (rCon 158 nDflt (mP' (nCodw v5)) nHn nMxx) nT110' from trivial)) nV110'
theorem nR111 (v5 : Value) (h5 : nFv v5) : rCon 158 nDflt (mP' (nCodw v5)) nHn nMxx 101 nK111 :=
  have hp : rAllP (nCodw v5) nMxx nL111 := ⟨⟨rfl, rfl⟩, trivial⟩
  rChk_ok (by decide) (rLk_ok hp) (rLm_ok hp) (nHk v5) (rTab_ok (show rAllC (rCon 158 nDflt (mP' (nCodw v5)) nHn nMxx) nT111' from ⟨⟨nR110 v5 h5, trivial⟩, trivial⟩)) nV111'
theorem nR112 (v5 : Value) (h5 : nFv v5) : rCon 158 nDflt (mP' (nCodw v5)) nHn nMxx 168 nK112 :=
  have hp : rAllP (nCodw v5) nMxx nL112 := ⟨⟨rfl, rfl⟩, trivial⟩
  rChk_ok (by decide) (rLk_ok hp) (rLm_ok hp) (nHk v5) (rTab_ok (show rAllC (rCon 158 nDflt (mP' (nCodw v5)) nHn nMxx) nT112' from trivial)) nV112'
theorem nR113 (v5 : Value) (h5 : nFv v5) : rCon 158 nDflt (mP' (nCodw v5)) nHn nMxx 46 nK113 :=
  have hp : rAllP (nCodw v5) nMxx nL113 := ⟨⟨rfl, rfl⟩, ⟨rfl, rfl⟩, trivial⟩
  rChk_ok (by decide) (rLk_ok hp) (rLm_ok hp) (nHk v5) (rTab_ok (show rAllC (rCon 158 nDflt (mP' (nCodw v5)) nHn nMxx) nT113' from trivial)) nV113'
theorem nR114 (v5 : Value) (h5 : nFv v5) : rCon 158 nDflt (mP' (nCodw v5)) nHn nMxx 181 nK114 :=
  have hp : rAllP (nCodw v5) nMxx nL114 := ⟨⟨rfl, rfl⟩, trivial⟩
  rChk_ok (by decide) (rLk_ok hp) (rLm_ok hp) (nHk v5) (rTab_ok (show rAllC (rCon 158 nDflt (mP' (nCodw v5)) nHn nMxx) nT114' from trivial)) nV114'
theorem nR115 (v5 : Value) (h5 : nFv v5) : rCon 158 nDflt (mP' (nCodw v5)) nHn nMxx 177 nK115 :=
  have hp : rAllP (nCodw v5) nMxx nL115 := ⟨⟨rfl, rfl⟩, trivial⟩
  rChk_ok (by decide) (rLk_ok hp) (rLm_ok hp) (nHk v5) (rTab_ok (show rAllC (rCon 158 nDflt (mP' (nCodw v5)) nHn nMxx) nT115' from ⟨⟨nR109 v5 h5, trivial⟩, ⟨nR108 v5 h5, trivial⟩, ⟨nR110 v5 h5, trivial⟩, trivial⟩)) nV115'
theorem nR116 (v5 : Value) (h5 : nFv v5) : rCon 158 nDflt (mP' (nCodw v5)) nHn nMxx 171 nK116 :=
  have hp : rAllP (nCodw v5) nMxx nL116 := ⟨⟨rfl, rfl⟩, ⟨rfl, rfl⟩, trivial⟩
  rChk_ok (by decide) (rLk_ok hp) (rLm_ok hp) (nHk v5) (rTab_ok (show rAllC (rCon 158 nDflt (mP' (nCodw v5)) nHn nMxx) nT116' from ⟨⟨nR108 v5 h5, trivial⟩, ⟨nR110 v5 h5, trivial⟩, trivial⟩)) nV116'
theorem nR117 (v5 : Value) (h5 : nFv v5) : rCon 158 nDflt (mP' (nCodw v5)) nHn nMxx 172 nK117 :=
  have hp : rAllP (nCodw v5) nMxx nL117 := ⟨⟨rfl, rfl⟩, ⟨rfl, rfl⟩, ⟨rfl, rfl⟩, ⟨rfl, rfl⟩, trivial⟩
  rChk_ok (by decide) (rLk_ok hp) (rLm_ok hp) (nHk v5) (rTab_ok (show rAllC (rCon 158 nDflt (mP' (nCodw v5)) nHn nMxx) nT117' from ⟨⟨nR108 v5 h5, trivial⟩, ⟨nR110 v5 h5, trivial⟩, trivial⟩)) nV117'
theorem nR118 (v5 : Value) (h5 : nFv v5) : rCon 158 nDflt (mP' (nCodw v5)) nHn nMxx 169 nK118 :=
  have hp : rAllP (nCodw v5) nMxx nL118 := ⟨⟨rfl, rfl⟩, ⟨rfl, rfl⟩, ⟨rfl, rfl⟩, ⟨rfl, rfl⟩, trivial⟩
  rChk_ok (by decide) (rLk_ok hp) (rLm_ok hp) (nHk v5) (rTab_ok (show rAllC (rCon 158 nDflt (mP' (nCodw v5)) nHn nMxx) nT118' from ⟨⟨nR108 v5 h5, trivial⟩, ⟨nR110 v5 h5, trivial⟩, trivial⟩)) nV118'
theorem nR119 (v5 : Value) (h5 : nFv v5) : rCon 158 nDflt (mP' (nCodw v5)) nHn nMxx 170 nK119 :=
  have hp : rAllP (nCodw v5) nMxx nL119 := ⟨⟨rfl, rfl⟩, ⟨rfl, rfl⟩, ⟨rfl, rfl⟩, ⟨rfl, rfl⟩, trivial⟩
  rChk_ok (by decide) (rLk_ok hp) (rLm_ok hp) (nHk v5) (rTab_ok (show rAllC (rCon 158 nDflt (mP' (nCodw v5)) nHn nMxx) nT119' from ⟨⟨nR109 v5 h5, trivial⟩, ⟨nR115 v5 h5, trivial⟩, ⟨nR108 v5 h5, trivial⟩, ⟨nR110 v5 h5, trivial⟩, trivial⟩)) nV119'
theorem nR120 (v5 : Value) (h5 : nFv v5) : rCon 158 nDflt (mP' (nCodw v5)) nHn nMxx 173 nK120 :=
  have hp : rAllP (nCodw v5) nMxx nL120 := ⟨⟨rfl, rfl⟩, trivial⟩
  rChk_ok (by decide) (rLk_ok hp) (rLm_ok hp) (nHk v5) (rTab_ok (show rAllC (rCon 158 nDflt (mP' (nCodw v5)) nHn nMxx) nT120' from ⟨⟨nR118 v5 h5, trivial⟩, ⟨nR109 v5 h5, trivial⟩, trivial⟩)) nV120'
theorem nR121 (v5 : Value) (h5 : nFv v5) : rCon 158 nDflt (mP' (nCodw v5)) nHn nMxx 114 nK121 :=
  have hp : rAllP (nCodw v5) nMxx nL121 := ⟨⟨rfl, rfl⟩, ⟨rfl, rfl⟩, trivial⟩
  rChk_ok (by decide) (rLk_ok hp) (rLm_ok hp) (nHk v5) (rTab_ok (show rAllC (rCon 158 nDflt (mP' (nCodw v5)) nHn nMxx) nT121' from ⟨⟨nR113 v5 h5, trivial⟩, ⟨nR110 v5 h5, trivial⟩, trivial⟩)) nV121'
theorem nR122 (v5 : Value) (h5 : nFv v5) : rCon 158 nDflt (mP' (nCodw v5)) nHn nMxx 109 nK122 :=
  have hp : rAllP (nCodw v5) nMxx nL122 := ⟨⟨rfl, rfl⟩, ⟨rfl, rfl⟩, trivial⟩
  rChk_ok (by decide) (rLk_ok hp) (rLm_ok hp) (nHk v5) (rTab_ok (show rAllC (rCon 158 nDflt (mP' (nCodw v5)) nHn nMxx) nT122' from ⟨⟨nR112 v5 h5, trivial⟩, ⟨nR113 v5 h5, trivial⟩, ⟨nR118 v5 h5, trivial⟩, ⟨nR119 v5 h5, trivial⟩, ⟨nR116 v5 h5, trivial⟩, ⟨nR117 v5 h5, trivial⟩, ⟨nR120 v5 h5, trivial⟩, trivial⟩)) nV122'
theorem nR123 (v5 : Value) (h5 : nFv v5) : rCon 158 nDflt (mP' (nCodw v5)) nHn nMxx 110 nK123 :=
  have hp : rAllP (nCodw v5) nMxx nL123 := ⟨⟨rfl, rfl⟩, ⟨rfl, rfl⟩, ⟨rfl, rfl⟩, ⟨rfl, rfl⟩, ⟨rfl, rfl⟩, trivial⟩
  rChk_ok (by decide) (rLk_ok hp) (rLm_ok hp) (nHk v5) (rTab_ok (show rAllC (rCon 158 nDflt (mP' (nCodw v5)) nHn nMxx) nT123' from ⟨⟨nR108 v5 h5, trivial⟩, ⟨nR110 v5 h5, trivial⟩, trivial⟩)) nV123'
theorem nR124 (v5 : Value) (h5 : nFv v5) : rCon 158 nDflt (mP' (nCodw v5)) nHn nMxx 111 nK124 :=
  have hp : rAllP (nCodw v5) nMxx nL124 := ⟨⟨rfl, rfl⟩, ⟨rfl, rfl⟩, ⟨rfl, rfl⟩, trivial⟩
  rChk_ok (by decide) (rLk_ok hp) (rLm_ok hp) (nHk v5) (rTab_ok (show rAllC (rCon 158 nDflt (mP' (nCodw v5)) nHn nMxx) nT124' from ⟨⟨nR108 v5 h5, trivial⟩, ⟨nR110 v5 h5, trivial⟩, trivial⟩)) nV124'
theorem nR125 (v5 : Value) (h5 : nFv v5) : rCon 158 nDflt (mP' (nCodw v5)) nHn nMxx 112 nK125 :=
  have hp : rAllP (nCodw v5) nMxx nL125 := ⟨⟨rfl, rfl⟩, ⟨rfl, rfl⟩, trivial⟩
  rChkQ_ok (by decide) (rLk_ok hp) (rLm_ok hp) (nHk v5) (rTab_ok (show rAllC (rCon 158 nDflt (mP' (nCodw v5)) nHn nMxx) nT125' from ⟨⟨nR109 v5 h5, trivial⟩, ⟨nR113 v5 h5, trivial⟩, ⟨nR115 v5 h5, trivial⟩, trivial⟩)) (d := 5) (n := 2) rfl (by decide) (by decide) (by decide) nU125_a
theorem nR126 (v5 : Value) (h5 : nFv v5) : rCon 158 nDflt (mP' (nCodw v5)) nHn nMxx 179 nK126 :=
  have hp : rAllP (nCodw v5) nMxx nL126 := ⟨⟨rfl, rfl⟩, ⟨rfl, rfl⟩, ⟨rfl, rfl⟩, trivial⟩
  rChk_ok (by decide) (rLk_ok hp) (rLm_ok hp) (nHk v5) (rTab_ok (show rAllC (rCon 158 nDflt (mP' (nCodw v5)) nHn nMxx) nT126' from ⟨⟨nR113 v5 h5, trivial⟩, trivial⟩)) nV126'
theorem nR127 (v5 : Value) (h5 : nFv v5) : rCon 158 nDflt (mP' (nCodw v5)) nHn nMxx 180 nK127 :=
  have hp : rAllP (nCodw v5) nMxx nL127 := ⟨⟨rfl, rfl⟩, ⟨rfl, rfl⟩, ⟨rfl, rfl⟩, trivial⟩
  rChk_ok (by decide) (rLk_ok hp) (rLm_ok hp) (nHk v5) (rTab_ok (show rAllC (rCon 158 nDflt (mP' (nCodw v5)) nHn nMxx) nT127' from ⟨⟨nR113 v5 h5, trivial⟩, trivial⟩)) nV127'
theorem nR128 (v5 : Value) (h5 : nFv v5) : rCon 158 nDflt (mP' (nCodw v5)) nHn nMxx 115 nK128 :=
  have hp : rAllP (nCodw v5) nMxx nL128 := ⟨⟨rfl, rfl⟩, ⟨rfl, rfl⟩, ⟨rfl, rfl⟩, ⟨rfl, rfl⟩, trivial⟩
  rChk_ok (by decide) (rLk_ok hp) (rLm_ok hp) (nHk v5) (rTab_ok (show rAllC (rCon 158 nDflt (mP' (nCodw v5)) nHn nMxx) nT128' from ⟨⟨nR126 v5 h5, trivial⟩, ⟨nR127 v5 h5, trivial⟩, trivial⟩)) nV128'
theorem nR129 (v5 : Value) (h5 : nFv v5) : rCon 158 nDflt (mP' (nCodw v5)) nHn nMxx 116 nK129 :=
  have hp : rAllP (nCodw v5) nMxx nL129 := ⟨⟨rfl, rfl⟩, ⟨rfl, rfl⟩, trivial⟩
  rChk_ok (by decide) (rLk_ok hp) (rLm_ok hp) (nHk v5) (rTab_ok (show rAllC (rCon 158 nDflt (mP' (nCodw v5)) nHn nMxx) nT129' from ⟨⟨nR121 v5 h5, trivial⟩, trivial⟩)) nV129'
theorem nR130 (v5 : Value) (h5 : nFv v5) : rCon 158 nDflt (mP' (nCodw v5)) nHn nMxx 117 nK130 :=
  have hp : rAllP (nCodw v5) nMxx nL130 := ⟨⟨rfl, rfl⟩, ⟨rfl, rfl⟩, trivial⟩
  rChk_ok (by decide) (rLk_ok hp) (rLm_ok hp) (nHk v5) (rTab_ok (show rAllC (rCon 158 nDflt (mP' (nCodw v5)) nHn nMxx) nT130' from ⟨⟨nR109 v5 h5, trivial⟩, ⟨nR114 v5 h5, trivial⟩, ⟨nR121 v5 h5, trivial⟩, ⟨nR115 v5 h5, trivial⟩, ⟨nR110 v5 h5, trivial⟩, ⟨nR116 v5 h5, trivial⟩, trivial⟩)) nV130'
theorem nR131 (v5 : Value) (h5 : nFv v5) : rCon 158 nDflt (mP' (nCodw v5)) nHn nMxx 75 nK131 :=
  have hp : rAllP (nCodw v5) nMxx nL131 := ⟨⟨rfl, rfl⟩, ⟨rfl, rfl⟩, ⟨rfl, rfl⟩, ⟨rfl, rfl⟩, ⟨rfl, rfl⟩, trivial⟩
  rChk_ok (by decide) (rLk_ok hp) (rLm_ok hp) (nHk v5) (rTab_ok (show rAllC (rCon 158 nDflt (mP' (nCodw v5)) nHn nMxx) nT131' from ⟨⟨nR122 v5 h5, trivial⟩, ⟨nR123 v5 h5, trivial⟩, ⟨nR124 v5 h5, trivial⟩, ⟨nR125 v5 h5, trivial⟩, ⟨nR121 v5 h5, trivial⟩, ⟨nR128 v5 h5, trivial⟩, ⟨nR129 v5 h5, trivial⟩, ⟨nR130 v5 h5, trivial⟩, trivial⟩)) nV131'
theorem nR132 (v5 : Value) (h5 : nFv v5) : rCon 158 nDflt (mP' (nCodw v5)) nHn nMxx 44 nK132 :=
  have hp : rAllP (nCodw v5) nMxx nL132 := ⟨⟨rfl, rfl⟩, ⟨rfl, rfl⟩, ⟨rfl, rfl⟩, ⟨rfl, rfl⟩, ⟨rfl, rfl⟩, trivial⟩
  rChkQ_ok (by decide) (rLk_ok hp) (rLm_ok hp) (nHk v5) (rTab_ok (show rAllC (rCon 158 nDflt (mP' (nCodw v5)) nHn nMxx) nT132' from ⟨⟨nR113 v5 h5, trivial⟩, ⟨nR108 v5 h5, trivial⟩, ⟨nR109 v5 h5, trivial⟩, ⟨nR131 v5 h5, trivial⟩, trivial⟩)) (d := 8) (n := 50) rfl (by decide) (by decide) (by decide) nU132_a
theorem nR133 (v5 : Value) (h5 : nFv v5) : rCon 158 nDflt (mP' (nCodw v5)) nHn nMxx 14 nK133 :=
  have hp : rAllP (nCodw v5) nMxx nL133 := ⟨⟨rfl, rfl⟩, ⟨rfl, rfl⟩, ⟨rfl, rfl⟩, trivial⟩
  rChk_ok (by decide) (rLk_ok hp) (rLm_ok hp) (nHk v5) (rTab_ok (show rAllC (rCon 158 nDflt (mP' (nCodw v5)) nHn nMxx) nT133' from ⟨⟨nR132 v5 h5, trivial⟩, trivial⟩)) nV133'
theorem nR134 (v5 : Value) (h5 : nFv v5) : rCon 158 nDflt (mP' (nCodw v5)) nHn nMxx 64 nK134 :=
  have hp : rAllP (nCodw v5) nMxx nL134 := ⟨⟨rfl, rfl⟩, trivial⟩
  rChk_ok (by decide) (rLk_ok hp) (rLm_ok hp) (nHk v5) (rTab_ok (show rAllC (rCon 158 nDflt (mP' (nCodw v5)) nHn nMxx) nT134' from trivial)) nV134'
theorem nR135 (v5 : Value) (h5 : nFv v5) : rCon 158 nDflt (mP' (nCodw v5)) nHn nMxx 65 nK135 :=
  have hp : rAllP (nCodw v5) nMxx nL135 := ⟨⟨rfl, rfl⟩, trivial⟩
  rChk_ok (by decide) (rLk_ok hp) (rLm_ok hp) (nHk v5) (rTab_ok (show rAllC (rCon 158 nDflt (mP' (nCodw v5)) nHn nMxx) nT135' from trivial)) nV135'
theorem nR136 (v5 : Value) (h5 : nFv v5) : rCon 158 nDflt (mP' (nCodw v5)) nHn nMxx 66 nK136 :=
  have hp : rAllP (nCodw v5) nMxx nL136 := ⟨⟨rfl, rfl⟩, ⟨rfl, rfl⟩, ⟨rfl, rfl⟩, ⟨rfl, rfl⟩, trivial⟩
  rChk_ok (by decide) (rLk_ok hp) (rLm_ok hp) (nHk v5) (rTab_ok (show rAllC (rCon 158 nDflt (mP' (nCodw v5)) nHn nMxx) nT136' from trivial)) nV136'
theorem nR137 (v5 : Value) (h5 : nFv v5) : rCon 158 nDflt (mP' (nCodw v5)) nHn nMxx 66 nK137 :=
  have hp : rAllP (nCodw v5) nMxx nL137 := ⟨⟨rfl, rfl⟩, ⟨rfl, rfl⟩, ⟨rfl, rfl⟩, ⟨rfl, rfl⟩, trivial⟩
  rChk_ok (by decide) (rLk_ok hp) (rLm_ok hp) (nHk v5) (rTab_ok (show rAllC (rCon 158 nDflt (mP' (nCodw v5)) nHn nMxx) nT137' from trivial)) nV137'
theorem nR138 (v5 : Value) (h5 : nFv v5) : rCon 158 nDflt (mP' (nCodw v5)) nHn nMxx 140 nK138 :=
  have hp : rAllP (nCodw v5) nMxx nL138 := ⟨⟨rfl, rfl⟩, trivial⟩
  rChk_ok (by decide) (rLk_ok hp) (rLm_ok hp) (nHk v5) (rTab_ok (show rAllC (rCon 158 nDflt (mP' (nCodw v5)) nHn nMxx) nT138' from trivial)) nV138'
theorem nR139 (v5 : Value) (h5 : nFv v5) : rCon 158 nDflt (mP' (nCodw v5)) nHn nMxx 97 nK139 :=
  have hp : rAllP (nCodw v5) nMxx nL139 := ⟨⟨rfl, rfl⟩, ⟨rfl, rfl⟩, ⟨rfl, rfl⟩, trivial⟩
  rChk_ok (by decide) (rLk_ok hp) (rLm_ok hp) (nHk v5) (rTab_ok (show rAllC (rCon 158 nDflt (mP' (nCodw v5)) nHn nMxx) nT139' from trivial)) nV139'
theorem nR140 (v5 : Value) (h5 : nFv v5) : rCon 158 nDflt (mP' (nCodw v5)) nHn nMxx 99 nK140 :=
  have hp : rAllP (nCodw v5) nMxx nL140 := ⟨⟨rfl, rfl⟩, ⟨rfl, rfl⟩, ⟨rfl, rfl⟩, trivial⟩
  rChk_ok (by decide) (rLk_ok hp) (rLm_ok hp) (nHk v5) (rTab_ok (show rAllC (rCon 158 nDflt (mP' (nCodw v5)) nHn nMxx) nT140' from ⟨⟨nR139 v5 h5, trivial⟩, trivial⟩)) nV140'
theorem nR141 (v5 : Value) (h5 : nFv v5) : rCon 158 nDflt (mP' (nCodw v5)) nHn nMxx 145 nK141 :=
  have hp : rAllP (nCodw v5) nMxx nL141 := ⟨⟨rfl, rfl⟩, trivial⟩
  rChk_ok (by decide) (rLk_ok hp) (rLm_ok hp) (nHk v5) (rTab_ok (show rAllC (rCon 158 nDflt (mP' (nCodw v5)) nHn nMxx) nT141' from trivial)) nV141'
theorem nR142 (v5 : Value) (h5 : nFv v5) : rCon 158 nDflt (mP' (nCodw v5)) nHn nMxx 100 nK142 :=
  have hp : rAllP (nCodw v5) nMxx nL142 := ⟨⟨rfl, rfl⟩, ⟨rfl, rfl⟩, trivial⟩
  rChk_ok (by decide) (rLk_ok hp) (rLm_ok hp) (nHk v5) (rTab_ok (show rAllC (rCon 158 nDflt (mP' (nCodw v5)) nHn nMxx) nT142' from ⟨⟨nR138 v5 h5, trivial⟩, ⟨nR141 v5 h5, trivial⟩, trivial⟩)) nV142'
theorem nR143 (v5 : Value) (h5 : nFv v5) : rCon 158 nDflt (mP' (nCodw v5)) nHn nMxx 195 nK143 :=
  have hp : rAllP (nCodw v5) nMxx nL143 := ⟨⟨rfl, rfl⟩, trivial⟩
  rChk_ok (by decide) (rLk_ok hp) (rLm_ok hp) (nHk v5) (rTab_ok (show rAllC (rCon 158 nDflt (mP' (nCodw v5)) nHn nMxx) nT143' from trivial)) nV143'
theorem nR144 (v5 : Value) (h5 : nFv v5) : rCon 158 nDflt (mP' (nCodw v5)) nHn nMxx 195 nK144 :=
  have hp : rAllP (nCodw v5) nMxx nL144 := ⟨⟨rfl, rfl⟩, trivial⟩
  rChk_ok (by decide) (rLk_ok hp) (rLm_ok hp) (nHk v5) (rTab_ok (show rAllC (rCon 158 nDflt (mP' (nCodw v5)) nHn nMxx) nT144' from trivial)) nV144'
theorem nR145 (v5 : Value) (h5 : nFv v5) : rCon 158 nDflt (mP' (nCodw v5)) nHn nMxx 141 nK145 :=
  have hp : rAllP (nCodw v5) nMxx nL145 := ⟨⟨rfl, rfl⟩, trivial⟩
  rChk_ok (by decide) (rLk_ok hp) (rLm_ok hp) (nHk v5) (rTab_ok (show rAllC (rCon 158 nDflt (mP' (nCodw v5)) nHn nMxx) nT145' from trivial)) nV145'
theorem nR146 (v5 : Value) (h5 : nFv v5) : rCon 158 nDflt (mP' (nCodw v5)) nHn nMxx 142 nK146 :=
  have hp : rAllP (nCodw v5) nMxx nL146 := ⟨⟨rfl, rfl⟩, trivial⟩
  rChk_ok (by decide) (rLk_ok hp) (rLm_ok hp) (nHk v5) (rTab_ok (show rAllC (rCon 158 nDflt (mP' (nCodw v5)) nHn nMxx) nT146' from trivial)) nV146'
theorem nR147 (v5 : Value) (h5 : nFv v5) : rCon 158 nDflt (mP' (nCodw v5)) nHn nMxx 143 nK147 :=
  have hp : rAllP (nCodw v5) nMxx nL147 := ⟨⟨rfl, rfl⟩, ⟨rfl, rfl⟩, trivial⟩
  rChk_ok (by decide) (rLk_ok hp) (rLm_ok hp) (nHk v5) (rTab_ok (show rAllC (rCon 158 nDflt (mP' (nCodw v5)) nHn nMxx) nT147' from trivial)) nV147'
theorem nR148 (v5 : Value) (h5 : nFv v5) : rCon 158 nDflt (mP' (nCodw v5)) nHn nMxx 144 nK148 :=
  have hp : rAllP (nCodw v5) nMxx nL148 := ⟨⟨rfl, rfl⟩, trivial⟩
  rChk_ok (by decide) (rLk_ok hp) (rLm_ok hp) (nHk v5) (rTab_ok (show rAllC (rCon 158 nDflt (mP' (nCodw v5)) nHn nMxx) nT148' from trivial)) nV148'
theorem nR149 (v5 : Value) (h5 : nFv v5) : rCon 158 nDflt (mP' (nCodw v5)) nHn nMxx 194 nK149 :=
  have hp : rAllP (nCodw v5) nMxx nL149 := ⟨⟨rfl, rfl⟩, ⟨rfl, rfl⟩, ⟨rfl, rfl⟩, ⟨rfl, rfl⟩, ⟨rfl, rfl⟩, ⟨rfl, rfl⟩, trivial⟩
  rChk_ok (by decide) (rLk_ok hp) (rLm_ok hp) (nHk v5) (rTab_ok (show rAllC (rCon 158 nDflt (mP' (nCodw v5)) nHn nMxx) nT149' from ⟨⟨nR136 v5 h5, nR137 v5 h5, trivial⟩, ⟨nR139 v5 h5, trivial⟩, ⟨nR109 v5 h5, trivial⟩, ⟨nR140 v5 h5, trivial⟩, ⟨nR138 v5 h5, trivial⟩, ⟨nR141 v5 h5, trivial⟩, trivial⟩)) nV149'
theorem nR150 (v5 : Value) (h5 : nFv v5) : rCon 158 nDflt (mP' (nCodw v5)) nHn nMxx 149 nK150 :=
  have hp : rAllP (nCodw v5) nMxx nL150 := ⟨⟨rfl, rfl⟩, ⟨rfl, rfl⟩, ⟨rfl, rfl⟩, ⟨rfl, rfl⟩, trivial⟩
  rChkQ_ok (by decide) (rLk_ok hp) (rLm_ok hp) (nHk v5) (rTab_ok (show rAllC (rCon 158 nDflt (mP' (nCodw v5)) nHn nMxx) nT150' from ⟨⟨nR149 v5 h5, trivial⟩, ⟨nR143 v5 h5, nR144 v5 h5, trivial⟩, trivial⟩)) (d := 7) (n := 10) rfl (by decide) (by decide) (by decide) nU150_a
theorem nR151 (v5 : Value) (h5 : nFv v5) : rCon 158 nDflt (mP' (nCodw v5)) nHn nMxx 152 nK151 :=
  have hp : rAllP (nCodw v5) nMxx nL151 := ⟨⟨rfl, rfl⟩, ⟨rfl, rfl⟩, ⟨rfl, rfl⟩, ⟨rfl, rfl⟩, trivial⟩
  rChk_ok (by decide) (rLk_ok hp) (rLm_ok hp) (nHk v5) (rTab_ok (show rAllC (rCon 158 nDflt (mP' (nCodw v5)) nHn nMxx) nT151' from ⟨⟨nR150 v5 h5, trivial⟩, ⟨nR112 v5 h5, trivial⟩, ⟨nR111 v5 h5, trivial⟩, ⟨nR117 v5 h5, trivial⟩, trivial⟩)) nV151'
theorem nR152 (v5 : Value) (h5 : nFv v5) : rCon 158 nDflt (mP' (nCodw v5)) nHn nMxx 105 nK152 :=
  have hp : rAllP (nCodw v5) nMxx nL152 := ⟨⟨rfl, rfl⟩, ⟨rfl, rfl⟩, ⟨rfl, rfl⟩, trivial⟩
  rChkQ_ok (by decide) (rLk_ok hp) (rLm_ok hp) (nHk v5) (rTab_ok (show rAllC (rCon 158 nDflt (mP' (nCodw v5)) nHn nMxx) nT152' from ⟨⟨nR108 v5 h5, trivial⟩, ⟨nR110 v5 h5, trivial⟩, trivial⟩)) (d := 3) (n := 2) rfl (by decide) (by decide) (by decide) nU152_a
theorem nR153 (v5 : Value) (h5 : nFv v5) : rCon 158 nDflt (mP' (nCodw v5)) nHn nMxx 105 nK153 :=
  have hp : rAllP (nCodw v5) nMxx nL153 := ⟨⟨rfl, rfl⟩, ⟨rfl, rfl⟩, ⟨rfl, rfl⟩, trivial⟩
  rChkQ_ok (by decide) (rLk_ok hp) (rLm_ok hp) (nHk v5) (rTab_ok (show rAllC (rCon 158 nDflt (mP' (nCodw v5)) nHn nMxx) nT153' from ⟨⟨nR108 v5 h5, trivial⟩, ⟨nR110 v5 h5, trivial⟩, trivial⟩)) (d := 3) (n := 2) rfl (by decide) (by decide) (by decide) nU153_a
theorem nR154 (v5 : Value) (h5 : nFv v5) : rCon 158 nDflt (mP' (nCodw v5)) nHn nMxx 102 nK154 :=
  have hp : rAllP (nCodw v5) nMxx nL154 := ⟨⟨rfl, rfl⟩, trivial⟩
  rChk_ok (by decide) (rLk_ok hp) (rLm_ok hp) (nHk v5) (rTab_ok (show rAllC (rCon 158 nDflt (mP' (nCodw v5)) nHn nMxx) nT154' from ⟨⟨nR152 v5 h5, nR153 v5 h5, trivial⟩, trivial⟩)) nV154'
theorem nR155 (v5 : Value) (h5 : nFv v5) : rCon 158 nDflt (mP' (nCodw v5)) nHn nMxx 147 nK155 :=
  have hp : rAllP (nCodw v5) nMxx nL155 := ⟨⟨rfl, rfl⟩, ⟨rfl, rfl⟩, ⟨rfl, rfl⟩, ⟨rfl, rfl⟩, ⟨rfl, rfl⟩, trivial⟩
  rChkQ_ok (by decide) (rLk_ok hp) (rLm_ok hp) (nHk v5) (rTab_ok (show rAllC (rCon 158 nDflt (mP' (nCodw v5)) nHn nMxx) nT155' from ⟨⟨nR151 v5 h5, trivial⟩, ⟨nR136 v5 h5, nR137 v5 h5, trivial⟩, ⟨nR139 v5 h5, trivial⟩, ⟨nR140 v5 h5, trivial⟩, ⟨nR138 v5 h5, trivial⟩, ⟨nR141 v5 h5, trivial⟩, ⟨nR142 v5 h5, trivial⟩, ⟨nR150 v5 h5, trivial⟩, trivial⟩)) (d := 9) (n := 20) rfl (by decide) (by decide) (by decide) nU155_a
theorem nR156 (v5 : Value) (h5 : nFv v5) : rCon 158 nDflt (mP' (nCodw v5)) nHn nMxx 103 nK156 :=
  have hp : rAllP (nCodw v5) nMxx nL156 := ⟨⟨rfl, rfl⟩, ⟨rfl, rfl⟩, ⟨rfl, rfl⟩, ⟨rfl, rfl⟩, ⟨rfl, rfl⟩, ⟨rfl, rfl⟩, trivial⟩
  rChkQ_ok (by decide) (rLk_ok hp) (rLm_ok hp) (nHk v5) (rTab_ok (show rAllC (rCon 158 nDflt (mP' (nCodw v5)) nHn nMxx) nT156' from ⟨⟨nR155 v5 h5, trivial⟩, ⟨nR150 v5 h5, trivial⟩, ⟨nR111 v5 h5, trivial⟩, ⟨nR108 v5 h5, trivial⟩, ⟨nR110 v5 h5, trivial⟩, ⟨nR113 v5 h5, trivial⟩, trivial⟩)) (d := 10) (n := 10) rfl (by decide) (by decide) (by decide) nU156_a
theorem nR157 (v5 : Value) (h5 : nFv v5) : rCon 158 nDflt (mP' (nCodw v5)) nHn nMxx 153 nK157 :=
  have hp : rAllP (nCodw v5) nMxx nL157 := ⟨⟨rfl, rfl⟩, ⟨rfl, rfl⟩, ⟨rfl, rfl⟩, trivial⟩
  rChk_ok (by decide) (rLk_ok hp) (rLm_ok hp) (nHk v5) (rTab_ok (show rAllC (rCon 158 nDflt (mP' (nCodw v5)) nHn nMxx) nT157' from ⟨⟨nR111 v5 h5, trivial⟩, ⟨nR154 v5 h5, trivial⟩, ⟨nR113 v5 h5, trivial⟩, ⟨nR152 v5 h5, nR153 v5 h5, trivial⟩, trivial⟩)) nV157'
theorem nR158 (v5 : Value) (h5 : nFv v5) : rCon 158 nDflt (mP' (nCodw v5)) nHn nMxx 104 nK158 :=
  have hp : rAllP (nCodw v5) nMxx nL158 := ⟨⟨rfl, rfl⟩, ⟨rfl, rfl⟩, ⟨rfl, rfl⟩, trivial⟩
  rChk_ok (by decide) (rLk_ok hp) (rLm_ok hp) (nHk v5) (rTab_ok (show rAllC (rCon 158 nDflt (mP' (nCodw v5)) nHn nMxx) nT158' from ⟨⟨nR151 v5 h5, trivial⟩, ⟨nR109 v5 h5, trivial⟩, ⟨nR113 v5 h5, trivial⟩, ⟨nR157 v5 h5, trivial⟩, trivial⟩)) nV158'
theorem nR159 (v5 : Value) (h5 : nFv v5) : rCon 158 nDflt (mP' (nCodw v5)) nHn nMxx 98 nK159 :=
  have hp : rAllP (nCodw v5) nMxx nL159 := ⟨⟨rfl, rfl⟩, trivial⟩
  rChkQ_ok (by decide) (rLk_ok hp) (rLm_ok hp) (nHk v5) (rTab_ok (show rAllC (rCon 158 nDflt (mP' (nCodw v5)) nHn nMxx) nT159' from ⟨⟨nR138 v5 h5, trivial⟩, ⟨nR145 v5 h5, trivial⟩, ⟨nR146 v5 h5, trivial⟩, ⟨nR147 v5 h5, trivial⟩, ⟨nR148 v5 h5, trivial⟩, trivial⟩)) (d := 3) (n := 40) rfl (by decide) (by decide) (by decide) nU159_a
theorem nR160 (v5 : Value) (h5 : nFv v5) : rCon 158 nDflt (mP' (nCodw v5)) nHn nMxx 67 nK160 :=
  have hp : rAllP (nCodw v5) nMxx nL160 := ⟨⟨rfl, rfl⟩, ⟨rfl, rfl⟩, trivial⟩
  rChkQ_ok (by decide) (rLk_ok hp) (rLm_ok hp) (nHk v5) (rTab_ok (show rAllC (rCon 158 nDflt (mP' (nCodw v5)) nHn nMxx) nT160' from ⟨⟨nR139 v5 h5, trivial⟩, ⟨nR159 v5 h5, trivial⟩, ⟨nR140 v5 h5, trivial⟩, ⟨nR136 v5 h5, nR137 v5 h5, trivial⟩, ⟨nR142 v5 h5, trivial⟩, ⟨nR111 v5 h5, trivial⟩, ⟨nR154 v5 h5, trivial⟩, ⟨nR156 v5 h5, trivial⟩, ⟨nR158 v5 h5, trivial⟩, ⟨nR152 v5 h5, nR153 v5 h5, trivial⟩, trivial⟩)) (d := 11) (n := 15) rfl (by decide) (by decide) (by decide) nU160_a
theorem nR161 (v5 : Value) (h5 : nFv v5) : rCon 158 nDflt (mP' (nCodw v5)) nHn nMxx 41 nK161 :=
  have hp : rAllP (nCodw v5) nMxx nL161 := ⟨⟨rfl, rfl⟩, ⟨rfl, rfl⟩, trivial⟩
  rChk_ok (by decide) (rLk_ok hp) (rLm_ok hp) (nHk v5) (rTab_ok (show rAllC (rCon 158 nDflt (mP' (nCodw v5)) nHn nMxx) nT161' from ⟨⟨nR134 v5 h5, trivial⟩, ⟨nR135 v5 h5, trivial⟩, ⟨nR136 v5 h5, nR137 v5 h5, trivial⟩, ⟨nR160 v5 h5, trivial⟩, trivial⟩)) nV161'
theorem nR162 (v5 : Value) (h5 : nFv v5) : rCon 158 nDflt (mP' (nCodw v5)) nHn nMxx 39 nK162 :=
  have hp : rAllP (nCodw v5) nMxx nL162 := ⟨⟨rfl, rfl⟩, trivial⟩
  rChk_ok (by decide) (rLk_ok hp) (rLm_ok hp) (nHk v5) (rTab_ok (show rAllC (rCon 158 nDflt (mP' (nCodw v5)) nHn nMxx) nT162' from trivial)) nV162'
theorem nR163 (v5 : Value) (h5 : nFv v5) : rCon 158 nDflt (mP' (nCodw v5)) nHn nMxx 8 nK163 :=
  have hp : rAllP (nCodw v5) nMxx nL163 := ⟨⟨rfl, rfl⟩, ⟨rfl, rfl⟩, ⟨rfl, rfl⟩, trivial⟩
  rChk_ok (by decide) (rLk_ok hp) (rLm_ok hp) (nHk v5) (rTab_ok (show rAllC (rCon 158 nDflt (mP' (nCodw v5)) nHn nMxx) nT163' from ⟨⟨nR162 v5 h5, trivial⟩, ⟨nR161 v5 h5, trivial⟩, trivial⟩)) nV163'
