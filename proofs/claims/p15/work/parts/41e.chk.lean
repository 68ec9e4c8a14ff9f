/-! THE KERNEL'S CHECKS OF THE CONTRACTS: printed by program -/
set_option maxRecDepth 100000 in
theorem nU85_1 : rPcs nF85 (rPiece 158 (rLk nL85) nHn (rLm nL85) (rHl nH85') nJ0 nOr0 (rTab nT85') 3000 8 84 nK85) 26 26 = true := by decide +kernel
set_option maxRecDepth 100000 in
theorem nU159_2 : rPcs nF159 (rPiece 158 (rLk nL159) nHn (rLm nL159) (rHl nH159') nJ0 nOr0 (rTab nT159') 3000 3 98 nK159) 12 1 = true := by decide +kernel
set_option maxRecDepth 100000 in
theorem nU98_c : rCov nF98 8 = true := by decide +kernel
def nL79 : List (Nat × Nat × List (Option mI)) := [(125, 7, nC125), (183, 1, nC183), (217, 1, nC217), (184, 2, nC184), (218, 1, nC218), (219, 2, nC219)]
def nT79' : List (Nat × List rCo) := [(226, [nKc 0 2, nKc 1 2, nKc 0 3, nKc 1 3, nKc 2 3, nKc 0 4, nKc 1 4, nKc 2 4, nKc 3 4]), (185, [nK34])]
def nH79' : List (Nat × Nat × rHt) := []
set_option maxRecDepth 100000 in
theorem nV79' : rChk 158 (rLk nL79) nHn (rLm nL79) (rHl nH79') nJ0 nOr0 (rTab nT79') 3000 125 nK79 = true := by decide +kernel
def nL136 : List (Nat × Nat × List (Option mI)) := [(66, 3, nC66), (96, 1, nC96), (139, 1, nC139), (36, 3, nC36)]
def nT136' : List (Nat × List rCo) := []
def nH136' : List (Nat × Nat × rHt) := [(66, 0, .inr (.inl ((0, 183, 22), [240], (0, 0, 0)))), (66, 2, .inl ([(2, 2, 0, 0, 0, 4, 183022), (0, 190, 2, 0, 239, 0, 0), (0, 190, 3, -2147483648, 2147483647, 0, 0), (0, 190, 4, 0, 239, 0, 0), (0, 190, 5, -2147483648, 2147483647, 0, 0)], [0, 1], (0, 1), (0, 0, 0))), (66, 28, .inr (.inl ((2, 2, 0), [240], (0, 0, 0))))]
set_option maxRecDepth 100000 in
theorem nV136' : rChk 158 (rLk nL136) nHn (rLm nL136) (rHl nH136') nJ0 nOr0 (rTab nT136') 3000 66 nK136 = true := by decide +kernel
def nL69 : List (Nat × Nat × List (Option mI)) := [(125, 7, nC125), (183, 1, nC183), (217, 1, nC217), (184, 2, nC184), (218, 1, nC218), (219, 2, nC219)]
def nT69' : List (Nat × List rCo) := [(226, [nKc 0 2, nKc 1 2, nKc 0 3, nKc 1 3, nKc 2 3, nKc 0 4, nKc 1 4, nKc 2 4, nKc 3 4]), (185, [nK34])]
def nH69' : List (Nat × Nat × rHt) := []
set_option maxRecDepth 100000 in
theorem nV69' : rChk 158 (rLk nL69) nHn (rLm nL69) (rHl nH69') nJ0 nOr0 (rTab nT69') 3000 125 nK69 = true := by decide +kernel
def nL44 : List (Nat × Nat × List (Option mI)) := [(125, 7, nC125), (183, 1, nC183), (217, 1, nC217), (184, 2, nC184), (218, 1, nC218), (219, 2, nC219)]
def nT44' : List (Nat × List rCo) := [(226, [nKc 0 2, nKc 1 2, nKc 0 3, nKc 1 3, nKc 2 3, nKc 0 4, nKc 1 4, nKc 2 4, nKc 3 4]), (185, [nK34])]
def nH44' : List (Nat × Nat × rHt) := []
set_option maxRecDepth 100000 in
theorem nV44' : rChk 158 (rLk nL44) nHn (rLm nL44) (rHl nH44') nJ0 nOr0 (rTab nT44') 3000 125 nK44 = true := by decide +kernel
def nL120 : List (Nat × Nat × List (Option mI)) := [(173, 6, nC173)]
def nT120' : List (Nat × List rCo) := [(169, [nK118]), (74, [nK109])]
def nH120' : List (Nat × Nat × rHt) := []
set_option maxRecDepth 100000 in
theorem nV120' : rChk 158 (rLk nL120) nHn (rLm nL120) (rHl nH120') nJ0 nOr0 (rTab nT120') 3000 173 nK120 = true := by decide +kernel
def nL88 : List (Nat × Nat × List (Option mI)) := [(87, 3, nC87)]
def nT88' : List (Nat × List rCo) := [(91, [nK87])]
def nH88' : List (Nat × Nat × rHt) := []
set_option maxRecDepth 100000 in
theorem nV88' : rChk 158 (rLk nL88) nHn (rLm nL88) (rHl nH88') nJ0 nOr0 (rTab nT88') 3000 87 nK88 = true := by decide +kernel
