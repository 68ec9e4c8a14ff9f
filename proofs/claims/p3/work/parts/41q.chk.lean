/-! THE KERNEL'S CHECKS OF THE CONTRACTS: printed by program -/
set_option maxRecDepth 100000 in
theorem nV125_1 : rPcs nF125 (rPiece 158 (rLk nL125) nHn (rLm nL125) (rHl nH125') nJ0 nOr0 (rTab nT125') 3000 5 112 nK125) 33 31 = true := by decide +kernel
set_option maxRecDepth 100000 in
theorem nV155_8 : rPcs nF155 (rPiece 158 (rLk nL155) nHn (rLm nL155) (rHl nH155') nJ0 nOr0 (rTab nT155') 3000 9 147 nK155) 17 1 = true := by decide +kernel
def nL6 : List (Nat × Nat × List (Option mI)) := [(198, 11, nC198), (191, 1, nC191), (130, 2, nC130)]
def nT6' : List (Nat × List rCo) := [(136, [nK0])]
def nH6' : List (Nat × Nat × rHt) := []
set_option maxRecDepth 100000 in
theorem nV6' : rChk 158 (rLk nL6) nHn (rLm nL6) (rHl nH6') nJ0 nOr0 (rTab nT6') 3000 198 nK6 = true := by decide +kernel
def nL163 : List (Nat × Nat × List (Option mI)) := [(8, 4, nC8), (40, 1, nC40), (37, 2, nC37)]
def nT163' : List (Nat × List rCo) := [(39, [nK162]), (41, [nK161])]
def nH163' : List (Nat × Nat × rHt) := [(8, 13, .inl ([(2, 2, 0, 0, 241, 0, 0), (2, 1, 0, 0, 242, 2, 1), (0, 183, 21, 0, 250, 0, 0), (0, 183, 22, 0, 240, 0, 0), (0, 183, 24, -2147483648, 2147483647, 0, 0), (0, 183, 25, -2147483648, 2147483647, 0, 0), (0, 183, 29, 0, 30, 0, 0), (0, 183, 33, 0, 20, 0, 0), (0, 183, 37, 0, 60, 0, 0), (6, 201, 0, 8, 0, 3, 0), (0, 201, 1, -2147483648, 2147483647, 0, 0), (0, 183, 26, 0, 1, 0, 0), (0, 190, 0, 0, 239, 0, 0), (0, 190, 1, -2147483648, 2147483647, 0, 0), (0, 190, 2, 0, 239, 0, 0), (0, 190, 3, -2147483648, 2147483647, 0, 0), (0, 190, 4, 0, 239, 0, 0), (0, 190, 5, -2147483648, 2147483647, 0, 0)], [0], (0, 1), (0, 0, 0))), (8, 27, .inr (.inl ((2, 2, 0), [241], (0, 0, 0)))), (8, 32, .inl ([(2, 3, 0, 0, 0, 4, 183018), (0, 190, 2, 0, 239, 0, 0), (0, 190, 3, -2147483648, 2147483647, 0, 0), (0, 190, 4, 0, 239, 0, 0), (0, 190, 5, -2147483648, 2147483647, 0, 0)], [0, 1, 2], (0, 1), (0, 0, 0))), (8, 116, .inl ([(2, 3, 0, 0, 200, 0, 0)], [0], (0, 1), (0, 0, 0))), (8, 160, .inl ([(2, 3, 0, 0, 30, 0, 0)], [0], (0, 1), (0, 0, 0)))]
set_option maxRecDepth 100000 in
theorem nV163' : rChk 158 (rLk nL163) nHn (rLm nL163) (rHl nH163') nJ0 nOr0 (rTab nT163') 3000 8 nK163 = true := by decide +kernel
def nL70 : List (Nat × Nat × List (Option mI)) := [(125, 7, nC125), (183, 1, nC183), (217, 1, nC217), (184, 2, nC184), (218, 1, nC218), (219, 2, nC219)]
def nT70' : List (Nat × List rCo) := [(226, [nKc 0 2, nKc 1 2, nKc 0 3, nKc 1 3, nKc 2 3, nKc 0 4, nKc 1 4, nKc 2 4, nKc 3 4]), (185, [nK34])]
def nH70' : List (Nat × Nat × rHt) := []
set_option maxRecDepth 100000 in
theorem nV70' : rChk 158 (rLk nL70) nHn (rLm nL70) (rHl nH70') nJ0 nOr0 (rTab nT70') 3000 125 nK70 = true := by decide +kernel
def nL81 : List (Nat × Nat × List (Option mI)) := [(125, 7, nC125), (183, 1, nC183), (217, 1, nC217), (184, 2, nC184), (218, 1, nC218), (219, 2, nC219)]
def nT81' : List (Nat × List rCo) := [(226, [nKc 0 2, nKc 1 2, nKc 0 3, nKc 1 3, nKc 2 3, nKc 0 4, nKc 1 4, nKc 2 4, nKc 3 4]), (185, [nK34])]
def nH81' : List (Nat × Nat × rHt) := []
set_option maxRecDepth 100000 in
theorem nV81' : rChk 158 (rLk nL81) nHn (rLm nL81) (rHl nH81') nJ0 nOr0 (rTab nT81') 3000 125 nK81 = true := by decide +kernel
def nL56 : List (Nat × Nat × List (Option mI)) := [(125, 7, nC125), (183, 1, nC183), (217, 1, nC217), (184, 2, nC184), (218, 1, nC218), (219, 2, nC219)]
def nT56' : List (Nat × List rCo) := [(226, [nKc 0 2, nKc 1 2, nKc 0 3, nKc 1 3, nKc 2 3, nKc 0 4, nKc 1 4, nKc 2 4, nKc 3 4]), (185, [nK34])]
def nH56' : List (Nat × Nat × rHt) := []
set_option maxRecDepth 100000 in
theorem nV56' : rChk 158 (rLk nL56) nHn (rLm nL56) (rHl nH56') nJ0 nOr0 (rTab nT56') 3000 125 nK56 = true := by decide +kernel
def nL57 : List (Nat × Nat × List (Option mI)) := [(125, 7, nC125), (183, 1, nC183), (217, 1, nC217), (184, 2, nC184), (218, 1, nC218), (219, 2, nC219)]
def nT57' : List (Nat × List rCo) := [(226, [nKc 0 2, nKc 1 2, nKc 0 3, nKc 1 3, nKc 2 3, nKc 0 4, nKc 1 4, nKc 2 4, nKc 3 4]), (185, [nK34])]
def nH57' : List (Nat × Nat × rHt) := []
set_option maxRecDepth 100000 in
theorem nV57' : rChk 158 (rLk nL57) nHn (rLm nL57) (rHl nH57') nJ0 nOr0 (rTab nT57') 3000 125 nK57 = true := by decide +kernel
def nL5 : List (Nat × Nat × List (Option mI)) := [(212, 2, nC212)]
def nT5' : List (Nat × List rCo) := []
def nH5' : List (Nat × Nat × rHt) := []
set_option maxRecDepth 100000 in
theorem nV5' : rChk 158 (rLk nL5) nHn (rLm nL5) (rHl nH5') nJ0 nOr0 (rTab nT5') 3000 212 nK5 = true := by decide +kernel
