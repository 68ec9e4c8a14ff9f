/-! THE KERNEL'S CHECKS OF THE CONTRACTS: printed by program -/
set_option maxRecDepth 100000 in
theorem nV125_2 : rPcs nF125 (rPiece 158 (rLk nL125) nHn (rLm nL125) (rHl nH125') nJ0 nOr0 (rTab nT125') 3000 5 112 nK125) 37 18 = true := by decide +kernel
set_option maxRecDepth 100000 in
theorem nV159_0 : rPcs nF159 (rPiece 158 (rLk nL159) nHn (rLm nL159) (rHl nH159') nJ0 nOr0 (rTab nT159') 3000 3 98 nK159) 0 10 = true := by decide +kernel
def nL145 : List (Nat × Nat × List (Option mI)) := [(141, 2, nC141)]
def nT145' : List (Nat × List rCo) := []
def nH145' : List (Nat × Nat × rHt) := []
set_option maxRecDepth 100000 in
theorem nV145' : rChk 158 (rLk nL145) nHn (rLm nL145) (rHl nH145') nJ0 nOr0 (rTab nT145') 3000 141 nK145 = true := by decide +kernel
def nL151 : List (Nat × Nat × List (Option mI)) := [(152, 5, nC152), (148, 1, nC148), (150, 2, nC150), (40, 1, nC40)]
def nT151' : List (Nat × List rCo) := [(149, [nK150]), (168, [nK112]), (101, [nK111]), (172, [nK117])]
def nH151' : List (Nat × Nat × rHt) := [(152, 4, .inl ([(0, 183, 21, 0, 240, 1, 0), (2, 1, 0, -2147483648, 2147483647, 0, 0), (2, 2, 0, 0, 1, 0, 0), (0, 190, 2, 0, 239, 0, 0), (0, 190, 3, -2147483648, 2147483647, 0, 0), (0, 190, 4, 0, 239, 0, 0), (0, 190, 5, -2147483648, 2147483647, 0, 0)], [0], (0, 1), (0, 0, 0)))]
set_option maxRecDepth 100000 in
theorem nV151' : rChk 158 (rLk nL151) nHn (rLm nL151) (rHl nH151') nJ0 nOr0 (rTab nT151') 3000 152 nK151 = true := by decide +kernel
def nL82 : List (Nat × Nat × List (Option mI)) := [(125, 7, nC125), (183, 1, nC183), (217, 1, nC217), (184, 2, nC184), (218, 1, nC218), (219, 2, nC219)]
def nT82' : List (Nat × List rCo) := [(226, [nKc 0 2, nKc 1 2, nKc 0 3, nKc 1 3, nKc 2 3, nKc 0 4, nKc 1 4, nKc 2 4, nKc 3 4]), (185, [nK34])]
def nH82' : List (Nat × Nat × rHt) := []
set_option maxRecDepth 100000 in
theorem nV82' : rChk 158 (rLk nL82) nHn (rLm nL82) (rHl nH82') nJ0 nOr0 (rTab nT82') 3000 125 nK82 = true := by decide +kernel
def nL54 : List (Nat × Nat × List (Option mI)) := [(125, 7, nC125), (183, 1, nC183), (217, 1, nC217), (184, 2, nC184), (218, 1, nC218), (219, 2, nC219)]
def nT54' : List (Nat × List rCo) := [(226, [nKc 0 2, nKc 1 2, nKc 0 3, nKc 1 3, nKc 2 3, nKc 0 4, nKc 1 4, nKc 2 4, nKc 3 4]), (185, [nK34])]
def nH54' : List (Nat × Nat × rHt) := []
set_option maxRecDepth 100000 in
theorem nV54' : rChk 158 (rLk nL54) nHn (rLm nL54) (rHl nH54') nJ0 nOr0 (rTab nT54') 3000 125 nK54 = true := by decide +kernel
def nL57 : List (Nat × Nat × List (Option mI)) := [(125, 7, nC125), (183, 1, nC183), (217, 1, nC217), (184, 2, nC184), (218, 1, nC218), (219, 2, nC219)]
def nT57' : List (Nat × List rCo) := [(226, [nKc 0 2, nKc 1 2, nKc 0 3, nKc 1 3, nKc 2 3, nKc 0 4, nKc 1 4, nKc 2 4, nKc 3 4]), (185, [nK34])]
def nH57' : List (Nat × Nat × rHt) := []
set_option maxRecDepth 100000 in
theorem nV57' : rChk 158 (rLk nL57) nHn (rLm nL57) (rHl nH57') nJ0 nOr0 (rTab nT57') 3000 125 nK57 = true := by decide +kernel
def nL158 : List (Nat × Nat × List (Option mI)) := [(104, 4, nC104), (40, 1, nC40), (151, 3, nC151)]
def nT158' : List (Nat × List rCo) := [(152, [nK151]), (74, [nK109]), (46, [nK113]), (153, [nK157])]
def nH158' : List (Nat × Nat × rHt) := []
set_option maxRecDepth 100000 in
theorem nV158' : rChk 158 (rLk nL158) nHn (rLm nL158) (rHl nH158') nJ0 nOr0 (rTab nT158') 3000 104 nK158 = true := by decide +kernel
def nL147 : List (Nat × Nat × List (Option mI)) := [(143, 1, nC143), (36, 3, nC36)]
def nT147' : List (Nat × List rCo) := []
def nH147' : List (Nat × Nat × rHt) := []
set_option maxRecDepth 100000 in
theorem nV147' : rChk 158 (rLk nL147) nHn (rLm nL147) (rHl nH147') nJ0 nOr0 (rTab nT147') 3000 143 nK147 = true := by decide +kernel
set_option maxRecDepth 100000 in
theorem nV132_c : rCov nF132 17 = true := by decide +kernel
def nL105 : List (Nat × Nat × List (Option mI)) := [(62, 3, nC62)]
def nT105' : List (Nat × List rCo) := []
def nH105' : List (Nat × Nat × rHt) := [(62, 2, .inl ([(2, 2, 0, 0, 200, 0, 0)], [0, 1], (0, 1), (0, 0, 0)))]
set_option maxRecDepth 100000 in
theorem nV105' : rChk 158 (rLk nL105) nHn (rLm nL105) (rHl nH105') nJ0 nOr0 (rTab nT105') 3000 62 nK105 = true := by decide +kernel
