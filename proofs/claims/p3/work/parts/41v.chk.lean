/-! THE KERNEL'S CHECKS OF THE CONTRACTS: printed by program -/
set_option maxRecDepth 100000 in
theorem nV27_1 : rPcs nF27 (rPiece 158 (rLk nL27) nHn (rLm nL27) (rHl nH27') nJ0 nOr0 (rTab nT27') 3000 1 120 nK27) 2 1 = true := by decide +kernel
set_option maxRecDepth 100000 in
theorem nV100_1 : rPcs nF100 (rPiece 158 (rLk nL100) nHn (rLm nL100) (rHl nH100') nJ0 nOr0 (rTab nT100') 3000 11 60 nK100) 8 2 = true := by decide +kernel
set_option maxRecDepth 100000 in
theorem nV155_c : rCov nF155 26 = true := by decide +kernel
def nL90 : List (Nat × Nat × List (Option mI)) := [(223, 7, nC223)]
def nT90' : List (Nat × List rCo) := []
def nH90' : List (Nat × Nat × rHt) := [(223, 0, .inr (.inl ((2, 2, 0), [47, 48], (0, 0, 0))))]
set_option maxRecDepth 100000 in
theorem nV90' : rChk 158 (rLk nL90) nHn (rLm nL90) (rHl nH90') nJ0 nOr0 (rTab nT90') 3000 223 nK90 = true := by decide +kernel
def nL79 : List (Nat × Nat × List (Option mI)) := [(125, 7, nC125), (183, 1, nC183), (217, 1, nC217), (184, 2, nC184), (218, 1, nC218), (219, 2, nC219)]
def nT79' : List (Nat × List rCo) := [(226, [nKc 0 2, nKc 1 2, nKc 0 3, nKc 1 3, nKc 2 3, nKc 0 4, nKc 1 4, nKc 2 4, nKc 3 4]), (185, [nK34])]
def nH79' : List (Nat × Nat × rHt) := []
set_option maxRecDepth 100000 in
theorem nV79' : rChk 158 (rLk nL79) nHn (rLm nL79) (rHl nH79') nJ0 nOr0 (rTab nT79') 3000 125 nK79 = true := by decide +kernel
def nL49 : List (Nat × Nat × List (Option mI)) := [(125, 7, nC125), (183, 1, nC183), (217, 1, nC217), (184, 2, nC184), (218, 1, nC218), (219, 2, nC219)]
def nT49' : List (Nat × List rCo) := [(226, [nKc 0 2, nKc 1 2, nKc 0 3, nKc 1 3, nKc 2 3, nKc 0 4, nKc 1 4, nKc 2 4, nKc 3 4]), (185, [nK34])]
def nH49' : List (Nat × Nat × rHt) := []
set_option maxRecDepth 100000 in
theorem nV49' : rChk 158 (rLk nL49) nHn (rLm nL49) (rHl nH49') nJ0 nOr0 (rTab nT49') 3000 125 nK49 = true := by decide +kernel
def nL54 : List (Nat × Nat × List (Option mI)) := [(125, 7, nC125), (183, 1, nC183), (217, 1, nC217), (184, 2, nC184), (218, 1, nC218), (219, 2, nC219)]
def nT54' : List (Nat × List rCo) := [(226, [nKc 0 2, nKc 1 2, nKc 0 3, nKc 1 3, nKc 2 3, nKc 0 4, nKc 1 4, nKc 2 4, nKc 3 4]), (185, [nK34])]
def nH54' : List (Nat × Nat × rHt) := []
set_option maxRecDepth 100000 in
theorem nV54' : rChk 158 (rLk nL54) nHn (rLm nL54) (rHl nH54') nJ0 nOr0 (rTab nT54') 3000 125 nK54 = true := by decide +kernel
def nL64 : List (Nat × Nat × List (Option mI)) := [(125, 7, nC125), (183, 1, nC183), (217, 1, nC217), (184, 2, nC184), (218, 1, nC218), (219, 2, nC219)]
def nT64' : List (Nat × List rCo) := [(226, [nKc 0 2, nKc 1 2, nKc 0 3, nKc 1 3, nKc 2 3, nKc 0 4, nKc 1 4, nKc 2 4, nKc 3 4]), (185, [nK34])]
def nH64' : List (Nat × Nat × rHt) := []
set_option maxRecDepth 100000 in
theorem nV64' : rChk 158 (rLk nL64) nHn (rLm nL64) (rHl nH64') nJ0 nOr0 (rTab nT64') 3000 125 nK64 = true := by decide +kernel
def nL1 : List (Nat × Nat × List (Option mI)) := [(154, 3, nC154), (138, 1, nC138), (190, 2, nC190), (191, 1, nC191), (130, 2, nC130)]
def nT1' : List (Nat × List rCo) := []
def nH1' : List (Nat × Nat × rHt) := []
set_option maxRecDepth 100000 in
theorem nV1' : rChk 158 (rLk nL1) nHn (rLm nL1) (rHl nH1') nJ0 nOr0 (rTab nT1') 3000 154 nK1 = true := by decide +kernel
