/-! THE KERNEL'S CHECKS OF THE CONTRACTS: printed by program -/
set_option maxRecDepth 100000 in
theorem nV85_1 : rPcs nF85 (rPiece 158 (rLk nL85) nHn (rLm nL85) (rHl nH85') nJ0 nOr0 (rTab nT85') 3000 8 84 nK85) 20 20 = true := by decide +kernel
set_option maxRecDepth 100000 in
theorem nV132_0 : rPcs nF132 (rPiece 158 (rLk nL132) nHn (rLm nL132) (rHl nH132') nJ0 nOr0 (rTab nT132') 3000 8 44 nK132) 0 3 = true := by decide +kernel
def nL89 : List (Nat × Nat × List (Option mI)) := [(83, 1, nC83), (119, 1, nC119), (121, 1, nC121), (122, 1, nC122), (123, 2, nC123)]
def nT89' : List (Nat × List rCo) := [(118, [nK26]), (120, [nK27]), (182, [nK33])]
def nH89' : List (Nat × Nat × rHt) := []
set_option maxRecDepth 100000 in
theorem nV89' : rChk 158 (rLk nL89) nHn (rLm nL89) (rHl nH89') nJ0 nOr0 (rTab nT89') 3000 83 nK89 = true := by decide +kernel
def nL129 : List (Nat × Nat × List (Option mI)) := [(116, 4, nC116), (113, 2, nC113)]
def nT129' : List (Nat × List rCo) := [(114, [nK121])]
def nH129' : List (Nat × Nat × rHt) := []
set_option maxRecDepth 100000 in
theorem nV129' : rChk 158 (rLk nL129) nHn (rLm nL129) (rHl nH129') nJ0 nOr0 (rTab nT129') 3000 116 nK129 = true := by decide +kernel
def nL140 : List (Nat × Nat × List (Option mI)) := [(99, 5, nC99), (139, 1, nC139), (36, 3, nC36)]
def nT140' : List (Nat × List rCo) := [(97, [nK139])]
def nH140' : List (Nat × Nat × rHt) := [(99, 5, .inl ([(2, 4, 0, 0, 240, 0, 0), (2, 3, 0, 0, 1, 0, 0), (0, 190, 2, 0, 239, 0, 0), (0, 190, 3, -2147483648, 2147483647, 0, 0), (0, 190, 4, 0, 239, 0, 0), (0, 190, 5, -2147483648, 2147483647, 0, 0)], [0, 1, 2], (0, 1), (0, 0, 0)))]
set_option maxRecDepth 100000 in
theorem nV140' : rChk 158 (rLk nL140) nHn (rLm nL140) (rHl nH140') nJ0 nOr0 (rTab nT140') 3000 99 nK140 = true := by decide +kernel
def nL84 : List (Nat × Nat × List (Option mI)) := [(125, 7, nC125), (183, 1, nC183), (217, 1, nC217), (184, 2, nC184), (218, 1, nC218), (219, 2, nC219)]
def nT84' : List (Nat × List rCo) := [(226, [nKc 0 2, nKc 1 2, nKc 0 3, nKc 1 3, nKc 2 3, nKc 0 4, nKc 1 4, nKc 2 4, nKc 3 4]), (185, [nK34])]
def nH84' : List (Nat × Nat × rHt) := []
set_option maxRecDepth 100000 in
theorem nV84' : rChk 158 (rLk nL84) nHn (rLm nL84) (rHl nH84') nJ0 nOr0 (rTab nT84') 3000 125 nK84 = true := by decide +kernel
def nL60 : List (Nat × Nat × List (Option mI)) := [(125, 7, nC125), (183, 1, nC183), (217, 1, nC217), (184, 2, nC184), (218, 1, nC218), (219, 2, nC219)]
def nT60' : List (Nat × List rCo) := [(226, [nKc 0 2, nKc 1 2, nKc 0 3, nKc 1 3, nKc 2 3, nKc 0 4, nKc 1 4, nKc 2 4, nKc 3 4]), (185, [nK34])]
def nH60' : List (Nat × Nat × rHt) := []
set_option maxRecDepth 100000 in
theorem nV60' : rChk 158 (rLk nL60) nHn (rLm nL60) (rHl nH60') nJ0 nOr0 (rTab nT60') 3000 125 nK60 = true := by decide +kernel
def nL65 : List (Nat × Nat × List (Option mI)) := [(125, 7, nC125), (183, 1, nC183), (217, 1, nC217), (184, 2, nC184), (218, 1, nC218), (219, 2, nC219)]
def nT65' : List (Nat × List rCo) := [(226, [nKc 0 2, nKc 1 2, nKc 0 3, nKc 1 3, nKc 2 3, nKc 0 4, nKc 1 4, nKc 2 4, nKc 3 4]), (185, [nK34])]
def nH65' : List (Nat × Nat × rHt) := []
set_option maxRecDepth 100000 in
theorem nV65' : rChk 158 (rLk nL65) nHn (rLm nL65) (rHl nH65') nJ0 nOr0 (rTab nT65') 3000 125 nK65 = true := by decide +kernel
def nL88 : List (Nat × Nat × List (Option mI)) := [(87, 3, nC87)]
def nT88' : List (Nat × List rCo) := [(91, [nK87])]
def nH88' : List (Nat × Nat × rHt) := []
set_option maxRecDepth 100000 in
theorem nV88' : rChk 158 (rLk nL88) nHn (rLm nL88) (rHl nH88') nJ0 nOr0 (rTab nT88') 3000 87 nK88 = true := by decide +kernel
