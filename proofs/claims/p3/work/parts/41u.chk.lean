/-! THE KERNEL'S CHECKS OF THE CONTRACTS: printed by program -/
set_option maxRecDepth 100000 in
theorem nV159_4 : rPcs nF159 (rPiece 158 (rLk nL159) nHn (rLm nL159) (rHl nH159') nJ0 nOr0 (rTab nT159') 3000 3 98 nK159) 13 3 = true := by decide +kernel
set_option maxRecDepth 100000 in
theorem nV159_3 : rPcs nF159 (rPiece 158 (rLk nL159) nHn (rLm nL159) (rHl nH159') nJ0 nOr0 (rTab nT159') 3000 3 98 nK159) 12 1 = true := by decide +kernel
set_option maxRecDepth 100000 in
theorem nV150_0 : rPcs nF150 (rPiece 158 (rLk nL150) nHn (rLm nL150) (rHl nH150') nJ0 nOr0 (rTab nT150') 3000 7 149 nK150) 0 1 = true := by decide +kernel
def nL126 : List (Nat × Nat × List (Option mI)) := [(179, 4, nC179), (113, 2, nC113), (176, 4, nC176)]
def nT126' : List (Nat × List rCo) := [(46, [nK113])]
def nH126' : List (Nat × Nat × rHt) := [(179, 152, .inl ([(2, 3, 0, 0, 20, 0, 0)], [0, 1, 2], (0, 1), (0, 0, 0)))]
set_option maxRecDepth 100000 in
theorem nV126' : rChk 158 (rLk nL126) nHn (rLm nL126) (rHl nH126') nJ0 nOr0 (rTab nT126') 3000 179 nK126 = true := by decide +kernel
def nL63 : List (Nat × Nat × List (Option mI)) := [(125, 7, nC125), (183, 1, nC183), (217, 1, nC217), (184, 2, nC184), (218, 1, nC218), (219, 2, nC219)]
def nT63' : List (Nat × List rCo) := [(226, [nKc 0 2, nKc 1 2, nKc 0 3, nKc 1 3, nKc 2 3, nKc 0 4, nKc 1 4, nKc 2 4, nKc 3 4]), (185, [nK34])]
def nH63' : List (Nat × Nat × rHt) := []
set_option maxRecDepth 100000 in
theorem nV63' : rChk 158 (rLk nL63) nHn (rLm nL63) (rHl nH63') nJ0 nOr0 (rTab nT63') 3000 125 nK63 = true := by decide +kernel
def nL53 : List (Nat × Nat × List (Option mI)) := [(125, 7, nC125), (183, 1, nC183), (217, 1, nC217), (184, 2, nC184), (218, 1, nC218), (219, 2, nC219)]
def nT53' : List (Nat × List rCo) := [(226, [nKc 0 2, nKc 1 2, nKc 0 3, nKc 1 3, nKc 2 3, nKc 0 4, nKc 1 4, nKc 2 4, nKc 3 4]), (185, [nK34])]
def nH53' : List (Nat × Nat × rHt) := []
set_option maxRecDepth 100000 in
theorem nV53' : rChk 158 (rLk nL53) nHn (rLm nL53) (rHl nH53') nJ0 nOr0 (rTab nT53') 3000 125 nK53 = true := by decide +kernel
def nL137 : List (Nat × Nat × List (Option mI)) := [(66, 3, nC66), (96, 1, nC96), (139, 1, nC139), (36, 3, nC36)]
def nT137' : List (Nat × List rCo) := []
def nH137' : List (Nat × Nat × rHt) := [(66, 0, .inr (.inl ((0, 183, 22), [240], (0, 0, 0)))), (66, 2, .inl ([(2, 2, 0, 0, 0, 4, 183022), (0, 190, 2, 0, 239, 0, 0), (0, 190, 3, -2147483648, 2147483647, 0, 0), (0, 190, 4, 0, 239, 0, 0), (0, 190, 5, -2147483648, 2147483647, 0, 0)], [0, 1], (0, 1), (0, 0, 0))), (66, 28, .inr (.inl ((2, 2, 0), [240], (0, 0, 0))))]
set_option maxRecDepth 100000 in
theorem nV137' : rChk 158 (rLk nL137) nHn (rLm nL137) (rHl nH137') nJ0 nOr0 (rTab nT137') 3000 66 nK137 = true := by decide +kernel
set_option maxRecDepth 100000 in
theorem nV152_2 : rPcs nF152 (rPiece 158 (rLk nL152) nHn (rLm nL152) (rHl nH152') nJ0 nOr0 (rTab nT152') 3000 3 105 nK152) 59 2 = true := by decide +kernel
def nL18 : List (Nat × Nat × List (Option mI)) := [(166, 2, nC166)]
def nT18' : List (Nat × List rCo) := [(198, [nK6]), (207, [nK7])]
def nH18' : List (Nat × Nat × rHt) := []
set_option maxRecDepth 100000 in
theorem nV18' : rChk 158 (rLk nL18) nHn (rLm nL18) (rHl nH18') nJ0 nOr0 (rTab nT18') 3000 166 nK18 = true := by decide +kernel
set_option maxRecDepth 100000 in
theorem nV153_c : rCov nF153 60 = true := by decide +kernel
def nL4 : List (Nat × Nat × List (Option mI)) := [(76, 1, nC76)]
def nT4' : List (Nat × List rCo) := []
def nH4' : List (Nat × Nat × rHt) := []
set_option maxRecDepth 100000 in
theorem nV4' : rChk 158 (rLk nL4) nHn (rLm nL4) (rHl nH4') nJ0 nOr0 (rTab nT4') 3000 76 nK4 = true := by decide +kernel
