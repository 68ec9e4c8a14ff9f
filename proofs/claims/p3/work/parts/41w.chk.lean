/-! THE KERNEL'S CHECKS OF THE CONTRACTS: printed by program -/
set_option maxRecDepth 100000 in
theorem nV155_4 : rPcs nF155 (rPiece 158 (rLk nL155) nHn (rLm nL155) (rHl nH155') nJ0 nOr0 (rTab nT155') 3000 9 147 nK155) 8 4 = true := by decide +kernel
set_option maxRecDepth 100000 in
theorem nV155_6 : rPcs nF155 (rPiece 158 (rLk nL155) nHn (rLm nL155) (rHl nH155') nJ0 nOr0 (rTab nT155') 3000 9 147 nK155) 13 3 = true := by decide +kernel
def nL149 : List (Nat × Nat × List (Option mI)) := [(194, 5, nC194), (148, 1, nC148), (196, 3, nC196), (40, 1, nC40), (139, 1, nC139), (36, 3, nC36)]
def nT149' : List (Nat × List rCo) := [(66, [nK136, nK137]), (97, [nK139]), (74, [nK109]), (99, [nK140]), (140, [nK138]), (145, [nK141])]
def nH149' : List (Nat × Nat × rHt) := [(194, 68, .inl ([(2, 3, 0, 0, 240, 0, 0), (2, 2, 0, 0, 1, 0, 0), (0, 190, 2, 0, 239, 0, 0), (0, 190, 3, -2147483648, 2147483647, 0, 0), (0, 190, 4, 0, 239, 0, 0), (0, 190, 5, -2147483648, 2147483647, 0, 0)], [0, 1], (0, 1), (0, 0, 0))), (194, 113, .inl ([(2, 4, 0, 0, 240, 0, 0), (2, 3, 0, -2147483648, 2147483647, 0, 0), (0, 190, 2, 0, 239, 0, 0), (0, 190, 3, -2147483648, 2147483647, 0, 0), (0, 190, 4, 0, 239, 0, 0), (0, 190, 5, -2147483648, 2147483647, 0, 0)], [0, 1], (0, 1), (0, 0, 0)))]
set_option maxRecDepth 100000 in
theorem nV149' : rChk 158 (rLk nL149) nHn (rLm nL149) (rHl nH149') nJ0 nOr0 (rTab nT149') 3000 194 nK149 = true := by decide +kernel
set_option maxRecDepth 100000 in
theorem nV159_3 : rPcs nF159 (rPiece 158 (rLk nL159) nHn (rLm nL159) (rHl nH159') nJ0 nOr0 (rTab nT159') 3000 3 98 nK159) 15 1 = true := by decide +kernel
def nL51 : List (Nat × Nat × List (Option mI)) := [(125, 7, nC125), (183, 1, nC183), (217, 1, nC217), (184, 2, nC184), (218, 1, nC218), (219, 2, nC219)]
def nT51' : List (Nat × List rCo) := [(226, [nKc 0 2, nKc 1 2, nKc 0 3, nKc 1 3, nKc 2 3, nKc 0 4, nKc 1 4, nKc 2 4, nKc 3 4]), (185, [nK34])]
def nH51' : List (Nat × Nat × rHt) := []
set_option maxRecDepth 100000 in
theorem nV51' : rChk 158 (rLk nL51) nHn (rLm nL51) (rHl nH51') nJ0 nOr0 (rTab nT51') 3000 125 nK51 = true := by decide +kernel
def nL34 : List (Nat × Nat × List (Option mI)) := [(185, 2, nC185), (220, 3, nC220), (218, 1, nC218), (183, 1, nC183), (217, 1, nC217), (227, 4, nC227), (233, 1, nC233), (234, 6, nC234)]
def nT34' : List (Nat × List rCo) := []
def nH34' : List (Nat × Nat × rHt) := []
set_option maxRecDepth 100000 in
theorem nV34' : rChk 158 (rLk nL34) nHn (rLm nL34) (rHl nH34') nJ0 nOr0 (rTab nT34') 3000 185 nK34 = true := by decide +kernel
def nL48 : List (Nat × Nat × List (Option mI)) := [(125, 7, nC125), (183, 1, nC183), (217, 1, nC217), (184, 2, nC184), (218, 1, nC218), (219, 2, nC219)]
def nT48' : List (Nat × List rCo) := [(226, [nKc 0 2, nKc 1 2, nKc 0 3, nKc 1 3, nKc 2 3, nKc 0 4, nKc 1 4, nKc 2 4, nKc 3 4]), (185, [nK34])]
def nH48' : List (Nat × Nat × rHt) := []
set_option maxRecDepth 100000 in
theorem nV48' : rChk 158 (rLk nL48) nHn (rLm nL48) (rHl nH48') nJ0 nOr0 (rTab nT48') 3000 125 nK48 = true := by decide +kernel
def nL120 : List (Nat × Nat × List (Option mI)) := [(173, 6, nC173)]
def nT120' : List (Nat × List rCo) := [(169, [nK118]), (74, [nK109])]
def nH120' : List (Nat × Nat × rHt) := []
set_option maxRecDepth 100000 in
theorem nV120' : rChk 158 (rLk nL120) nHn (rLm nL120) (rHl nH120') nJ0 nOr0 (rTab nT120') 3000 173 nK120 = true := by decide +kernel
def nL3 : List (Nat × Nat × List (Option mI)) := [(192, 2, nC192)]
def nT3' : List (Nat × List rCo) := []
def nH3' : List (Nat × Nat × rHt) := []
set_option maxRecDepth 100000 in
theorem nV3' : rChk 158 (rLk nL3) nHn (rLm nL3) (rHl nH3') nJ0 nOr0 (rTab nT3') 3000 192 nK3 = true := by decide +kernel
