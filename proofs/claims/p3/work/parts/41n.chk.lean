/-! THE KERNEL'S CHECKS OF THE CONTRACTS: printed by program -/
set_option maxRecDepth 100000 in
theorem nV152_0 : rPcs nF152 (rPiece 158 (rLk nL152) nHn (rLm nL152) (rHl nH152') nJ0 nOr0 (rTab nT152') 3000 3 105 nK152) 0 39 = true := by decide +kernel
set_option maxRecDepth 100000 in
theorem nV159_1 : rPcs nF159 (rPiece 158 (rLk nL159) nHn (rLm nL159) (rHl nH159') nJ0 nOr0 (rTab nT159') 3000 3 98 nK159) 10 2 = true := by decide +kernel
def nL161 : List (Nat × Nat × List (Option mI)) := [(41, 8, nC41), (40, 1, nC40)]
def nT161' : List (Nat × List rCo) := [(64, [nK134]), (65, [nK135]), (66, [nK136, nK137]), (67, [nK160])]
def nH161' : List (Nat × Nat × rHt) := []
set_option maxRecDepth 100000 in
theorem nV161' : rChk 158 (rLk nL161) nHn (rLm nL161) (rHl nH161') nJ0 nOr0 (rTab nT161') 3000 41 nK161 = true := by decide +kernel
def nL94 : List (Nat × Nat × List (Option mI)) := [(188, 2, nC188), (121, 1, nC121), (122, 1, nC122), (123, 2, nC123)]
def nT94' : List (Nat × List rCo) := [(68, [nK31, nK32]), (182, [nK33])]
def nH94' : List (Nat × Nat × rHt) := []
set_option maxRecDepth 100000 in
theorem nV94' : rChk 158 (rLk nL94) nHn (rLm nL94) (rHl nH94') nJ0 nOr0 (rTab nT94') 3000 188 nK94 = true := by decide +kernel
def nL63 : List (Nat × Nat × List (Option mI)) := [(125, 7, nC125), (183, 1, nC183), (217, 1, nC217), (184, 2, nC184), (218, 1, nC218), (219, 2, nC219)]
def nT63' : List (Nat × List rCo) := [(226, [nKc 0 2, nKc 1 2, nKc 0 3, nKc 1 3, nKc 2 3, nKc 0 4, nKc 1 4, nKc 2 4, nKc 3 4]), (185, [nK34])]
def nH63' : List (Nat × Nat × rHt) := []
set_option maxRecDepth 100000 in
theorem nV63' : rChk 158 (rLk nL63) nHn (rLm nL63) (rHl nH63') nJ0 nOr0 (rTab nT63') 3000 125 nK63 = true := by decide +kernel
def nL61 : List (Nat × Nat × List (Option mI)) := [(125, 7, nC125), (183, 1, nC183), (217, 1, nC217), (184, 2, nC184), (218, 1, nC218), (219, 2, nC219)]
def nT61' : List (Nat × List rCo) := [(226, [nKc 0 2, nKc 1 2, nKc 0 3, nKc 1 3, nKc 2 3, nKc 0 4, nKc 1 4, nKc 2 4, nKc 3 4]), (185, [nK34])]
def nH61' : List (Nat × Nat × rHt) := []
set_option maxRecDepth 100000 in
theorem nV61' : rChk 158 (rLk nL61) nHn (rLm nL61) (rHl nH61') nJ0 nOr0 (rTab nT61') 3000 125 nK61 = true := by decide +kernel
def nL142 : List (Nat × Nat × List (Option mI)) := [(100, 4, nC100), (40, 1, nC40)]
def nT142' : List (Nat × List rCo) := [(140, [nK138]), (145, [nK141])]
def nH142' : List (Nat × Nat × rHt) := []
set_option maxRecDepth 100000 in
theorem nV142' : rChk 158 (rLk nL142) nHn (rLm nL142) (rHl nH142') nJ0 nOr0 (rTab nT142') 3000 100 nK142 = true := by decide +kernel
def nL7 : List (Nat × Nat × List (Option mI)) := [(207, 4, nC207), (138, 1, nC138), (191, 1, nC191), (130, 2, nC130)]
def nT7' : List (Nat × List rCo) := []
def nH7' : List (Nat × Nat × rHt) := []
set_option maxRecDepth 100000 in
theorem nV7' : rChk 158 (rLk nL7) nHn (rLm nL7) (rHl nH7') nJ0 nOr0 (rTab nT7') 3000 207 nK7 = true := by decide +kernel
def nL2 : List (Nat × Nat × List (Option mI)) := [(86, 2, nC86)]
def nT2' : List (Nat × List rCo) := []
def nH2' : List (Nat × Nat × rHt) := []
set_option maxRecDepth 100000 in
theorem nV2' : rChk 158 (rLk nL2) nHn (rLm nL2) (rHl nH2') nJ0 nOr0 (rTab nT2') 3000 86 nK2 = true := by decide +kernel
