/-! THE KERNEL'S CHECKS OF THE CONTRACTS: printed by program -/
set_option maxRecDepth 100000 in
theorem nV12_0 : rPcs nF12 (rPiece 158 (rLk nL12) nHn (rLm nL12) (rHl nH12') nJ0 nOr0 (rTab nT12') 3000 4 160 nK12) 0 61 = true := by decide +kernel
set_option maxRecDepth 100000 in
theorem nV159_0 : rPcs nF159 (rPiece 158 (rLk nL159) nHn (rLm nL159) (rHl nH159') nJ0 nOr0 (rTab nT159') 3000 3 98 nK159) 0 10 = true := by decide +kernel
set_option maxRecDepth 100000 in
theorem nV156_c : rCov nF156 3 = true := by decide +kernel
def nL74 : List (Nat × Nat × List (Option mI)) := [(125, 7, nC125), (183, 1, nC183), (217, 1, nC217), (184, 2, nC184), (218, 1, nC218), (219, 2, nC219)]
def nT74' : List (Nat × List rCo) := [(226, [nKc 0 2, nKc 1 2, nKc 0 3, nKc 1 3, nKc 2 3, nKc 0 4, nKc 1 4, nKc 2 4, nKc 3 4]), (185, [nK34])]
def nH74' : List (Nat × Nat × rHt) := []
set_option maxRecDepth 100000 in
theorem nV74' : rChk 158 (rLk nL74) nHn (rLm nL74) (rHl nH74') nJ0 nOr0 (rTab nT74') 3000 125 nK74 = true := by decide +kernel
def nL137 : List (Nat × Nat × List (Option mI)) := [(66, 3, nC66), (96, 1, nC96), (139, 1, nC139), (36, 3, nC36)]
def nT137' : List (Nat × List rCo) := []
def nH137' : List (Nat × Nat × rHt) := [(66, 0, .inr (.inl ((0, 183, 22), [240], (0, 0, 0)))), (66, 2, .inl ([(2, 2, 0, 0, 0, 4, 183022), (0, 190, 2, 0, 239, 0, 0), (0, 190, 3, -2147483648, 2147483647, 0, 0), (0, 190, 4, 0, 239, 0, 0), (0, 190, 5, -2147483648, 2147483647, 0, 0)], [0, 1], (0, 1), (0, 0, 0))), (66, 28, .inr (.inl ((2, 2, 0), [240], (0, 0, 0))))]
set_option maxRecDepth 100000 in
theorem nV137' : rChk 158 (rLk nL137) nHn (rLm nL137) (rHl nH137') nJ0 nOr0 (rTab nT137') 3000 66 nK137 = true := by decide +kernel
def nL55 : List (Nat × Nat × List (Option mI)) := [(125, 7, nC125), (183, 1, nC183), (217, 1, nC217), (184, 2, nC184), (218, 1, nC218), (219, 2, nC219)]
def nT55' : List (Nat × List rCo) := [(226, [nKc 0 2, nKc 1 2, nKc 0 3, nKc 1 3, nKc 2 3, nKc 0 4, nKc 1 4, nKc 2 4, nKc 3 4]), (185, [nK34])]
def nH55' : List (Nat × Nat × rHt) := []
set_option maxRecDepth 100000 in
theorem nV55' : rChk 158 (rLk nL55) nHn (rLm nL55) (rHl nH55') nJ0 nOr0 (rTab nT55') 3000 125 nK55 = true := by decide +kernel
def nL53 : List (Nat × Nat × List (Option mI)) := [(125, 7, nC125), (183, 1, nC183), (217, 1, nC217), (184, 2, nC184), (218, 1, nC218), (219, 2, nC219)]
def nT53' : List (Nat × List rCo) := [(226, [nKc 0 2, nKc 1 2, nKc 0 3, nKc 1 3, nKc 2 3, nKc 0 4, nKc 1 4, nKc 2 4, nKc 3 4]), (185, [nK34])]
def nH53' : List (Nat × Nat × rHt) := []
set_option maxRecDepth 100000 in
theorem nV53' : rChk 158 (rLk nL53) nHn (rLm nL53) (rHl nH53') nJ0 nOr0 (rTab nT53') 3000 125 nK53 = true := by decide +kernel
def nL18 : List (Nat × Nat × List (Option mI)) := [(166, 2, nC166)]
def nT18' : List (Nat × List rCo) := [(198, [nK6]), (207, [nK7])]
def nH18' : List (Nat × Nat × rHt) := []
set_option maxRecDepth 100000 in
theorem nV18' : rChk 158 (rLk nL18) nHn (rLm nL18) (rHl nH18') nJ0 nOr0 (rTab nT18') 3000 166 nK18 = true := by decide +kernel
def nL32 : List (Nat × Nat × List (Option mI)) := [(68, 4, nC68)]
def nT32' : List (Nat × List rCo) := []
def nH32' : List (Nat × Nat × rHt) := [(68, 2, .inl ([(2, 3, 0, 0, 30, 0, 0)], [0, 1], (0, 1), (0, 0, 0)))]
set_option maxRecDepth 100000 in
theorem nV32' : rChk 158 (rLk nL32) nHn (rLm nL32) (rHl nH32') nJ0 nOr0 (rTab nT32') 3000 68 nK32 = true := by decide +kernel
