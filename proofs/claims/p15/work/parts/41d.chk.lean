/-! THE KERNEL'S CHECKS OF THE CONTRACTS: printed by program -/
set_option maxRecDepth 100000 in
theorem nU85_0 : rPcs nF85 (rPiece 158 (rLk nL85) nHn (rLm nL85) (rHl nH85') nJ0 nOr0 (rTab nT85') 3000 8 84 nK85) 0 26 = true := by decide +kernel
set_option maxRecDepth 100000 in
theorem nU85_c : rCov nF85 101 = true := by decide +kernel
set_option maxRecDepth 100000 in
theorem nU159_c : rCov nF159 16 = true := by decide +kernel
def nL130 : List (Nat × Nat × List (Option mI)) := [(117, 6, nC117), (113, 2, nC113)]
def nT130' : List (Nat × List rCo) := [(74, [nK109]), (181, [nK114]), (114, [nK121]), (177, [nK115]), (146, [nK110]), (171, [nK116])]
def nH130' : List (Nat × Nat × rHt) := []
set_option maxRecDepth 100000 in
theorem nV130' : rChk 158 (rLk nL130) nHn (rLm nL130) (rHl nH130') nJ0 nOr0 (rTab nT130') 3000 117 nK130 = true := by decide +kernel
def nL137 : List (Nat × Nat × List (Option mI)) := [(66, 3, nC66), (96, 1, nC96), (139, 1, nC139), (36, 3, nC36)]
def nT137' : List (Nat × List rCo) := []
def nH137' : List (Nat × Nat × rHt) := [(66, 0, .inr (.inl ((0, 183, 22), [240], (0, 0, 0)))), (66, 2, .inl ([(2, 2, 0, 0, 0, 4, 183022), (0, 190, 2, 0, 239, 0, 0), (0, 190, 3, -2147483648, 2147483647, 0, 0), (0, 190, 4, 0, 239, 0, 0), (0, 190, 5, -2147483648, 2147483647, 0, 0)], [0, 1], (0, 1), (0, 0, 0))), (66, 28, .inr (.inl ((2, 2, 0), [240], (0, 0, 0))))]
set_option maxRecDepth 100000 in
theorem nV137' : rChk 158 (rLk nL137) nHn (rLm nL137) (rHl nH137') nJ0 nOr0 (rTab nT137') 3000 66 nK137 = true := by decide +kernel
def nL46 : List (Nat × Nat × List (Option mI)) := [(125, 7, nC125), (183, 1, nC183), (217, 1, nC217), (184, 2, nC184), (218, 1, nC218), (219, 2, nC219)]
def nT46' : List (Nat × List rCo) := [(226, [nKc 0 2, nKc 1 2, nKc 0 3, nKc 1 3, nKc 2 3, nKc 0 4, nKc 1 4, nKc 2 4, nKc 3 4]), (185, [nK34])]
def nH46' : List (Nat × Nat × rHt) := []
set_option maxRecDepth 100000 in
theorem nV46' : rChk 158 (rLk nL46) nHn (rLm nL46) (rHl nH46') nJ0 nOr0 (rTab nT46') 3000 125 nK46 = true := by decide +kernel
def nL84 : List (Nat × Nat × List (Option mI)) := [(125, 7, nC125), (183, 1, nC183), (217, 1, nC217), (184, 2, nC184), (218, 1, nC218), (219, 2, nC219)]
def nT84' : List (Nat × List rCo) := [(226, [nKc 0 2, nKc 1 2, nKc 0 3, nKc 1 3, nKc 2 3, nKc 0 4, nKc 1 4, nKc 2 4, nKc 3 4]), (185, [nK34])]
def nH84' : List (Nat × Nat × rHt) := []
set_option maxRecDepth 100000 in
theorem nV84' : rChk 158 (rLk nL84) nHn (rLm nL84) (rHl nH84') nJ0 nOr0 (rTab nT84') 3000 125 nK84 = true := by decide +kernel
def nL40 : List (Nat × Nat × List (Option mI)) := [(125, 7, nC125), (183, 1, nC183), (217, 1, nC217), (184, 2, nC184), (218, 1, nC218), (219, 2, nC219)]
def nT40' : List (Nat × List rCo) := [(226, [nKc 0 2, nKc 1 2, nKc 0 3, nKc 1 3, nKc 2 3, nKc 0 4, nKc 1 4, nKc 2 4, nKc 3 4]), (185, [nK34])]
def nH40' : List (Nat × Nat × rHt) := []
set_option maxRecDepth 100000 in
theorem nV40' : rChk 158 (rLk nL40) nHn (rLm nL40) (rHl nH40') nJ0 nOr0 (rTab nT40') 3000 125 nK40 = true := by decide +kernel
def nL103 : List (Nat × Nat × List (Option mI)) := [(94, 2, nC94), (132, 2, nC132)]
def nT103' : List (Nat × List rCo) := [(86, [nK2]), (91, [nK87]), (76, [nK4])]
def nH103' : List (Nat × Nat × rHt) := [(94, 2, .inl ([(2, 1, 0, 0, 20, 0, 0), (0, 169, 8, -2147483648, 2147483647, 0, 0)], [0], (0, 1), (0, 0, 0)))]
set_option maxRecDepth 100000 in
theorem nV103' : rChk 158 (rLk nL103) nHn (rLm nL103) (rHl nH103') nJ0 nOr0 (rTab nT103') 3000 94 nK103 = true := by decide +kernel
def nL114 : List (Nat × Nat × List (Option mI)) := [(181, 3, nC181)]
def nT114' : List (Nat × List rCo) := []
def nH114' : List (Nat × Nat × rHt) := []
set_option maxRecDepth 100000 in
theorem nV114' : rChk 158 (rLk nL114) nHn (rLm nL114) (rHl nH114') nJ0 nOr0 (rTab nT114') 3000 181 nK114 = true := by decide +kernel
def nL108 : List (Nat × Nat × List (Option mI)) := [(73, 1, nC73)]
def nT108' : List (Nat × List rCo) := []
def nH108' : List (Nat × Nat × rHt) := []
set_option maxRecDepth 100000 in
theorem nV108' : rChk 158 (rLk nL108) nHn (rLm nL108) (rHl nH108') nJ0 nOr0 (rTab nT108') 3000 73 nK108 = true := by decide +kernel
