/-! THE KERNEL'S CHECKS OF THE CONTRACTS: printed by program -/
set_option maxRecDepth 100000 in
theorem nU12_0 : rPcs nF12 (rPiece 158 (rLk nL12) nHn (rLm nL12) (rHl nH12') nJ0 nOr0 (rTab nT12') 3000 4 160 nK12) 0 58 = true := by decide +kernel
set_option maxRecDepth 100000 in
theorem nU98_1 : rPcs nF98 (rPiece 158 (rLk nL98) nHn (rLm nL98) (rHl nH98') nJ0 nOr0 (rTab nT98') 3000 10 89 nK98) 5 3 = true := by decide +kernel
set_option maxRecDepth 100000 in
theorem nU160_c : rCov nF160 3 = true := by decide +kernel
set_option maxRecDepth 100000 in
theorem nU12_1 : rPcs nF12 (rPiece 158 (rLk nL12) nHn (rLm nL12) (rHl nH12') nJ0 nOr0 (rTab nT12') 3000 4 160 nK12) 58 6 = true := by decide +kernel
def nL158 : List (Nat × Nat × List (Option mI)) := [(104, 4, nC104), (40, 1, nC40), (151, 3, nC151)]
def nT158' : List (Nat × List rCo) := [(152, [nK151]), (74, [nK109]), (46, [nK113]), (153, [nK157])]
def nH158' : List (Nat × Nat × rHt) := []
set_option maxRecDepth 100000 in
theorem nV158' : rChk 158 (rLk nL158) nHn (rLm nL158) (rHl nH158') nJ0 nOr0 (rTab nT158') 3000 104 nK158 = true := by decide +kernel
def nL70 : List (Nat × Nat × List (Option mI)) := [(125, 7, nC125), (183, 1, nC183), (217, 1, nC217), (184, 2, nC184), (218, 1, nC218), (219, 2, nC219)]
def nT70' : List (Nat × List rCo) := [(226, [nKc 0 2, nKc 1 2, nKc 0 3, nKc 1 3, nKc 2 3, nKc 0 4, nKc 1 4, nKc 2 4, nKc 3 4]), (185, [nK34])]
def nH70' : List (Nat × Nat × rHt) := []
set_option maxRecDepth 100000 in
theorem nV70' : rChk 158 (rLk nL70) nHn (rLm nL70) (rHl nH70') nJ0 nOr0 (rTab nT70') 3000 125 nK70 = true := by decide +kernel
def nL62 : List (Nat × Nat × List (Option mI)) := [(125, 7, nC125), (183, 1, nC183), (217, 1, nC217), (184, 2, nC184), (218, 1, nC218), (219, 2, nC219)]
def nT62' : List (Nat × List rCo) := [(226, [nKc 0 2, nKc 1 2, nKc 0 3, nKc 1 3, nKc 2 3, nKc 0 4, nKc 1 4, nKc 2 4, nKc 3 4]), (185, [nK34])]
def nH62' : List (Nat × Nat × rHt) := []
set_option maxRecDepth 100000 in
theorem nV62' : rChk 158 (rLk nL62) nHn (rLm nL62) (rHl nH62') nJ0 nOr0 (rTab nT62') 3000 125 nK62 = true := by decide +kernel
def nL43 : List (Nat × Nat × List (Option mI)) := [(125, 7, nC125), (183, 1, nC183), (217, 1, nC217), (184, 2, nC184), (218, 1, nC218), (219, 2, nC219)]
def nT43' : List (Nat × List rCo) := [(226, [nKc 0 2, nKc 1 2, nKc 0 3, nKc 1 3, nKc 2 3, nKc 0 4, nKc 1 4, nKc 2 4, nKc 3 4]), (185, [nK34])]
def nH43' : List (Nat × Nat × rHt) := []
set_option maxRecDepth 100000 in
theorem nV43' : rChk 158 (rLk nL43) nHn (rLm nL43) (rHl nH43') nJ0 nOr0 (rTab nT43') 3000 125 nK43 = true := by decide +kernel
def nL102 : List (Nat × Nat × List (Option mI)) := [(93, 2, nC93), (132, 2, nC132)]
def nT102' : List (Nat × List rCo) := [(86, [nK2]), (87, [nK88]), (76, [nK4])]
def nH102' : List (Nat × Nat × rHt) := [(93, 2, .inl ([(2, 1, 0, 0, 30, 0, 0), (0, 169, 8, -2147483648, 2147483647, 0, 0)], [0], (0, 1), (0, 0, 0)))]
set_option maxRecDepth 100000 in
theorem nV102' : rChk 158 (rLk nL102) nHn (rLm nL102) (rHl nH102') nJ0 nOr0 (rTab nT102') 3000 93 nK102 = true := by decide +kernel
def nL26 : List (Nat × Nat × List (Option mI)) := [(118, 1, nC118)]
def nT26' : List (Nat × List rCo) := []
def nH26' : List (Nat × Nat × rHt) := [(118, 8, .inl ([(0, 167, 5, 0, 240, 0, 0)], [0], (0, 1), (0, 0, 0)))]
set_option maxRecDepth 100000 in
theorem nV26' : rChk 158 (rLk nL26) nHn (rLm nL26) (rHl nH26') nJ0 nOr0 (rTab nT26') 3000 118 nK26 = true := by decide +kernel
