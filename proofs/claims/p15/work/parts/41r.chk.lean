/-! THE KERNEL'S CHECKS OF THE CONTRACTS: printed by program -/
set_option maxRecDepth 100000 in
theorem nU27_0 : rPcs nF27 (rPiece 158 (rLk nL27) nHn (rLm nL27) (rHl nH27') nJ0 nOr0 (rTab nT27') 3000 1 120 nK27) 0 2 = true := by decide +kernel
set_option maxRecDepth 100000 in
theorem nU155_5 : rPcs nF155 (rPiece 158 (rLk nL155) nHn (rLm nL155) (rHl nH155') nJ0 nOr0 (rTab nT155') 3000 9 147 nK155) 12 1 = true := by decide +kernel
set_option maxRecDepth 100000 in
theorem nU152_c : rCov nF152 61 = true := by decide +kernel
def nL95 : List (Nat × Nat × List (Option mI)) := [(126, 4, nC126), (186, 1, nC186), (187, 2, nC187)]
def nT95' : List (Nat × List rCo) := [(127, [nK29]), (134, [nK93]), (120, [nK28]), (188, [nK94]), (189, [nK92]), (86, [nK2])]
def nH95' : List (Nat × Nat × rHt) := []
set_option maxRecDepth 100000 in
theorem nV95' : rChk 158 (rLk nL95) nHn (rLm nL95) (rHl nH95') nJ0 nOr0 (rTab nT95') 3000 126 nK95 = true := by decide +kernel
def nL74 : List (Nat × Nat × List (Option mI)) := [(125, 7, nC125), (183, 1, nC183), (217, 1, nC217), (184, 2, nC184), (218, 1, nC218), (219, 2, nC219)]
def nT74' : List (Nat × List rCo) := [(226, [nKc 0 2, nKc 1 2, nKc 0 3, nKc 1 3, nKc 2 3, nKc 0 4, nKc 1 4, nKc 2 4, nKc 3 4]), (185, [nK34])]
def nH74' : List (Nat × Nat × rHt) := []
set_option maxRecDepth 100000 in
theorem nV74' : rChk 158 (rLk nL74) nHn (rLm nL74) (rHl nH74') nJ0 nOr0 (rTab nT74') 3000 125 nK74 = true := by decide +kernel
def nL63 : List (Nat × Nat × List (Option mI)) := [(125, 7, nC125), (183, 1, nC183), (217, 1, nC217), (184, 2, nC184), (218, 1, nC218), (219, 2, nC219)]
def nT63' : List (Nat × List rCo) := [(226, [nKc 0 2, nKc 1 2, nKc 0 3, nKc 1 3, nKc 2 3, nKc 0 4, nKc 1 4, nKc 2 4, nKc 3 4]), (185, [nK34])]
def nH63' : List (Nat × Nat × rHt) := []
set_option maxRecDepth 100000 in
theorem nV63' : rChk 158 (rLk nL63) nHn (rLm nL63) (rHl nH63') nJ0 nOr0 (rTab nT63') 3000 125 nK63 = true := by decide +kernel
def nL11 : List (Nat × Nat × List (Option mI)) := [(159, 8, nC159), (138, 1, nC138), (203, 1, nC203), (204, 3, nC204), (191, 1, nC191), (130, 2, nC130), (205, 3, nC205)]
def nT11' : List (Nat × List rCo) := []
def nH11' : List (Nat × Nat × rHt) := []
set_option maxRecDepth 100000 in
theorem nV11' : rChk 158 (rLk nL11) nHn (rLm nL11) (rHl nH11') nJ0 nOr0 (rTab nT11') 3000 159 nK11 = true := by decide +kernel
def nL148 : List (Nat × Nat × List (Option mI)) := [(144, 2, nC144)]
def nT148' : List (Nat × List rCo) := []
def nH148' : List (Nat × Nat × rHt) := []
set_option maxRecDepth 100000 in
theorem nV148' : rChk 158 (rLk nL148) nHn (rLm nL148) (rHl nH148') nJ0 nOr0 (rTab nT148') 3000 144 nK148 = true := by decide +kernel
def nL138 : List (Nat × Nat × List (Option mI)) := [(140, 6, nC140)]
def nT138' : List (Nat × List rCo) := []
def nH138' : List (Nat × Nat × rHt) := [(140, 5, .inl ([(2, 5, 0, 0, 240, 0, 0), (3, 3, 0, -9223372036854775808, 9223372036854775807, 0, 0), (0, 190, 2, 0, 239, 0, 0), (0, 190, 3, -2147483648, 2147483647, 0, 0), (0, 190, 4, 0, 239, 0, 0), (0, 190, 5, -2147483648, 2147483647, 0, 0)], [0, 1, 2], (0, 1), (0, 0, 0)))]
set_option maxRecDepth 100000 in
theorem nV138' : rChk 158 (rLk nL138) nHn (rLm nL138) (rHl nH138') nJ0 nOr0 (rTab nT138') 3000 140 nK138 = true := by decide +kernel
def nL7 : List (Nat × Nat × List (Option mI)) := [(207, 4, nC207), (138, 1, nC138), (191, 1, nC191), (130, 2, nC130)]
def nT7' : List (Nat × List rCo) := []
def nH7' : List (Nat × Nat × rHt) := []
set_option maxRecDepth 100000 in
theorem nV7' : rChk 158 (rLk nL7) nHn (rLm nL7) (rHl nH7') nJ0 nOr0 (rTab nT7') 3000 207 nK7 = true := by decide +kernel
def nL143 : List (Nat × Nat × List (Option mI)) := [(195, 1, nC195)]
def nT143' : List (Nat × List rCo) := []
def nH143' : List (Nat × Nat × rHt) := []
set_option maxRecDepth 100000 in
theorem nV143' : rChk 158 (rLk nL143) nHn (rLm nL143) (rHl nH143') nJ0 nOr0 (rTab nT143') 3000 195 nK143 = true := by decide +kernel
