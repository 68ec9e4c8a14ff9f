/-! THE KERNEL'S CHECKS OF THE CONTRACTS: printed by program -/
set_option maxRecDepth 100000 in
theorem nV132_0 : rPcs nF132 (rPiece 158 (rLk nL132) nHn (rLm nL132) (rHl nH132') nJ0 nOr0 (rTab nT132') 3000 8 44 nK132) 0 11 = true := by decide +kernel
set_option maxRecDepth 100000 in
theorem nV155_6 : rPcs nF155 (rPiece 158 (rLk nL155) nHn (rLm nL155) (rHl nH155') nJ0 nOr0 (rTab nT155') 3000 9 147 nK155) 13 3 = true := by decide +kernel
def nL149 : List (Nat × Nat × List (Option mI)) := [(194, 5, nC194), (148, 1, nC148), (196, 3, nC196), (40, 1, nC40), (139, 1, nC139), (36, 3, nC36)]
def nT149' : List (Nat × List rCo) := [(66, [nK136, nK137]), (97, [nK139]), (74, [nK109]), (99, [nK140]), (140, [nK138]), (145, [nK141])]
def nH149' : List (Nat × Nat × rHt) := [(194, 68, .inl ([(2, 3, 0, 0, 240, 0, 0), (2, 2, 0, 0, 1, 0, 0), (0, 190, 2, 0, 239, 0, 0), (0, 190, 3, -2147483648, 2147483647, 0, 0), (0, 190, 4, 0, 239, 0, 0), (0, 190, 5, -2147483648, 2147483647, 0, 0)], [0, 1], (0, 1), (0, 0, 0))), (194, 113, .inl ([(2, 4, 0, 0, 240, 0, 0), (2, 3, 0, -2147483648, 2147483647, 0, 0), (0, 190, 2, 0, 239, 0, 0), (0, 190, 3, -2147483648, 2147483647, 0, 0), (0, 190, 4, 0, 239, 0, 0), (0, 190, 5, -2147483648, 2147483647, 0, 0)], [0, 1], (0, 1), (0, 0, 0)))]
set_option maxRecDepth 100000 in
theorem nV149' : rChk 158 (rLk nL149) nHn (rLm nL149) (rHl nH149') nJ0 nOr0 (rTab nT149') 3000 194 nK149 = true := by decide +kernel
def nL51 : List (Nat × Nat × List (Option mI)) := [(125, 7, nC125), (183, 1, nC183), (217, 1, nC217), (184, 2, nC184), (218, 1, nC218), (219, 2, nC219)]
def nT51' : List (Nat × List rCo) := [(226, [nKc 0 2, nKc 1 2, nKc 0 3, nKc 1 3, nKc 2 3, nKc 0 4, nKc 1 4, nKc 2 4, nKc 3 4]), (185, [nK34])]
def nH51' : List (Nat × Nat × rHt) := []
set_option maxRecDepth 100000 in
theorem nV51' : rChk 158 (rLk nL51) nHn (rLm nL51) (rHl nH51') nJ0 nOr0 (rTab nT51') 3000 125 nK51 = true := by decide +kernel
def nL77 : List (Nat × Nat × List (Option mI)) := [(125, 7, nC125), (183, 1, nC183), (217, 1, nC217), (184, 2, nC184), (218, 1, nC218), (219, 2, nC219)]
def nT77' : List (Nat × List rCo) := [(226, [nKc 0 2, nKc 1 2, nKc 0 3, nKc 1 3, nKc 2 3, nKc 0 4, nKc 1 4, nKc 2 4, nKc 3 4]), (185, [nK34])]
def nH77' : List (Nat × Nat × rHt) := []
set_option maxRecDepth 100000 in
theorem nV77' : rChk 158 (rLk nL77) nHn (rLm nL77) (rHl nH77') nJ0 nOr0 (rTab nT77') 3000 125 nK77 = true := by decide +kernel
def nL36 : List (Nat × Nat × List (Option mI)) := [(125, 7, nC125), (183, 1, nC183), (217, 1, nC217), (184, 2, nC184), (218, 1, nC218), (219, 2, nC219)]
def nT36' : List (Nat × List rCo) := [(226, [nKc 0 2, nKc 1 2, nKc 0 3, nKc 1 3, nKc 2 3, nKc 0 4, nKc 1 4, nKc 2 4, nKc 3 4]), (185, [nK34])]
def nH36' : List (Nat × Nat × rHt) := []
set_option maxRecDepth 100000 in
theorem nV36' : rChk 158 (rLk nL36) nHn (rLm nL36) (rHl nH36') nJ0 nOr0 (rTab nT36') 3000 125 nK36 = true := by decide +kernel
def nL62 : List (Nat × Nat × List (Option mI)) := [(125, 7, nC125), (183, 1, nC183), (217, 1, nC217), (184, 2, nC184), (218, 1, nC218), (219, 2, nC219)]
def nT62' : List (Nat × List rCo) := [(226, [nKc 0 2, nKc 1 2, nKc 0 3, nKc 1 3, nKc 2 3, nKc 0 4, nKc 1 4, nKc 2 4, nKc 3 4]), (185, [nK34])]
def nH62' : List (Nat × Nat × rHt) := []
set_option maxRecDepth 100000 in
theorem nV62' : rChk 158 (rLk nL62) nHn (rLm nL62) (rHl nH62') nJ0 nOr0 (rTab nT62') 3000 125 nK62 = true := by decide +kernel
def nL3 : List (Nat × Nat × List (Option mI)) := [(192, 2, nC192)]
def nT3' : List (Nat × List rCo) := []
def nH3' : List (Nat × Nat × rHt) := []
set_option maxRecDepth 100000 in
theorem nV3' : rChk 158 (rLk nL3) nHn (rLm nL3) (rHl nH3') nJ0 nOr0 (rTab nT3') 3000 192 nK3 = true := by decide +kernel
def nL1 : List (Nat × Nat × List (Option mI)) := [(154, 3, nC154), (138, 1, nC138), (190, 2, nC190), (191, 1, nC191), (130, 2, nC130)]
def nT1' : List (Nat × List rCo) := []
def nH1' : List (Nat × Nat × rHt) := []
set_option maxRecDepth 100000 in
theorem nV1' : rChk 158 (rLk nL1) nHn (rLm nL1) (rHl nH1') nJ0 nOr0 (rTab nT1') 3000 154 nK1 = true := by decide +kernel
set_option maxRecDepth 100000 in
theorem nV152_c : rCov nF152 61 = true := by decide +kernel
def nL25 : List (Nat × Nat × List (Option mI)) := [(124, 1, nC124)]
def nT25' : List (Nat × List rCo) := []
def nH25' : List (Nat × Nat × rHt) := [(124, 0, .inl ([(0, 167, 2, 0, 240, 0, 0)], [0], (0, 1), (0, 0, 0)))]
set_option maxRecDepth 100000 in
theorem nV25' : rChk 158 (rLk nL25) nHn (rLm nL25) (rHl nH25') nJ0 nOr0 (rTab nT25') 3000 124 nK25 = true := by decide +kernel
def nL97 : List (Nat × Nat × List (Option mI)) := [(88, 1, nC88)]
def nT97' : List (Nat × List rCo) := []
def nH97' : List (Nat × Nat × rHt) := []
set_option maxRecDepth 100000 in
theorem nV97' : rChk 158 (rLk nL97) nHn (rLm nL97) (rHl nH97') nJ0 nOr0 (rTab nT97') 3000 88 nK97 = true := by decide +kernel
