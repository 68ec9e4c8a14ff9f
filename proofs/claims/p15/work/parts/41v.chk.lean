/-! THE KERNEL'S CHECKS OF THE CONTRACTS: printed by program -/
set_option maxRecDepth 100000 in
theorem nU155_1 : rPcs nF155 (rPiece 158 (rLk nL155) nHn (rLm nL155) (rHl nH155') nJ0 nOr0 (rTab nT155') 3000 9 147 nK155) 3 3 = true := by decide +kernel
set_option maxRecDepth 100000 in
theorem nU159_1 : rPcs nF159 (rPiece 158 (rLk nL159) nHn (rLm nL159) (rHl nH159') nJ0 nOr0 (rTab nT159') 3000 3 98 nK159) 10 2 = true := by decide +kernel
set_option maxRecDepth 100000 in
theorem nU150_2 : rPcs nF150 (rPiece 158 (rLk nL150) nHn (rLm nL150) (rHl nH150') nJ0 nOr0 (rTab nT150') 3000 7 149 nK150) 2 1 = true := by decide +kernel
def nL94 : List (Nat × Nat × List (Option mI)) := [(188, 2, nC188), (121, 1, nC121), (122, 1, nC122), (123, 2, nC123)]
def nT94' : List (Nat × List rCo) := [(68, [nK31, nK32]), (182, [nK33])]
def nH94' : List (Nat × Nat × rHt) := []
set_option maxRecDepth 100000 in
theorem nV94' : rChk 158 (rLk nL94) nHn (rLm nL94) (rHl nH94') nJ0 nOr0 (rTab nT94') 3000 188 nK94 = true := by decide +kernel
def nL80 : List (Nat × Nat × List (Option mI)) := [(125, 7, nC125), (183, 1, nC183), (217, 1, nC217), (184, 2, nC184), (218, 1, nC218), (219, 2, nC219)]
def nT80' : List (Nat × List rCo) := [(226, [nKc 0 2, nKc 1 2, nKc 0 3, nKc 1 3, nKc 2 3, nKc 0 4, nKc 1 4, nKc 2 4, nKc 3 4]), (185, [nK34])]
def nH80' : List (Nat × Nat × rHt) := []
set_option maxRecDepth 100000 in
theorem nV80' : rChk 158 (rLk nL80) nHn (rLm nL80) (rHl nH80') nJ0 nOr0 (rTab nT80') 3000 125 nK80 = true := by decide +kernel
def nL133 : List (Nat × Nat × List (Option mI)) := [(14, 3, nC14), (36, 3, nC36), (37, 2, nC37)]
def nT133' : List (Nat × List rCo) := [(44, [nK132])]
def nH133' : List (Nat × Nat × rHt) := [(14, 37, .inl ([(2, 2, 0, 0, 500, 0, 0), (0, 183, 0, -2147483648, 2147483647, 0, 0), (0, 183, 3, 0, 1, 0, 0), (0, 183, 4, 0, 1, 0, 0), (0, 183, 5, -2147483648, 2147483647, 0, 0), (0, 183, 6, -2147483648, 2147483647, 0, 0), (0, 183, 7, -2147483648, 2147483647, 0, 0), (0, 183, 8, -2147483648, 2147483647, 0, 0), (0, 183, 9, -2147483648, 2147483647, 0, 0), (0, 183, 10, -2147483648, 2147483647, 0, 0), (0, 183, 12, 0, 6, 0, 0), (0, 183, 13, 0, 6, 0, 0), (0, 183, 15, -2147483648, 2147483647, 0, 0)], [0, 1], (0, 1), (0, 0, 0)))]
set_option maxRecDepth 100000 in
theorem nV133' : rChk 158 (rLk nL133) nHn (rLm nL133) (rHl nH133') nJ0 nOr0 (rTab nT133') 3000 14 nK133 = true := by decide +kernel
def nL68 : List (Nat × Nat × List (Option mI)) := [(125, 7, nC125), (183, 1, nC183), (217, 1, nC217), (184, 2, nC184), (218, 1, nC218), (219, 2, nC219)]
def nT68' : List (Nat × List rCo) := [(226, [nKc 0 2, nKc 1 2, nKc 0 3, nKc 1 3, nKc 2 3, nKc 0 4, nKc 1 4, nKc 2 4, nKc 3 4]), (185, [nK34])]
def nH68' : List (Nat × Nat × rHt) := []
set_option maxRecDepth 100000 in
theorem nV68' : rChk 158 (rLk nL68) nHn (rLm nL68) (rHl nH68') nJ0 nOr0 (rTab nT68') 3000 125 nK68 = true := by decide +kernel
def nL47 : List (Nat × Nat × List (Option mI)) := [(125, 7, nC125), (183, 1, nC183), (217, 1, nC217), (184, 2, nC184), (218, 1, nC218), (219, 2, nC219)]
def nT47' : List (Nat × List rCo) := [(226, [nKc 0 2, nKc 1 2, nKc 0 3, nKc 1 3, nKc 2 3, nKc 0 4, nKc 1 4, nKc 2 4, nKc 3 4]), (185, [nK34])]
def nH47' : List (Nat × Nat × rHt) := []
set_option maxRecDepth 100000 in
theorem nV47' : rChk 158 (rLk nL47) nHn (rLm nL47) (rHl nH47') nJ0 nOr0 (rTab nT47') 3000 125 nK47 = true := by decide +kernel
def nL8 : List (Nat × Nat × List (Option mI)) := [(106, 4, nC106), (138, 1, nC138)]
def nT8' : List (Nat × List rCo) := [(154, [nK1]), (136, [nK0]), (86, [nK2])]
def nH8' : List (Nat × Nat × rHt) := []
set_option maxRecDepth 100000 in
theorem nV8' : rChk 158 (rLk nL8) nHn (rLm nL8) (rHl nH8') nJ0 nOr0 (rTab nT8') 3000 106 nK8 = true := by decide +kernel
def nL17 : List (Nat × Nat × List (Option mI)) := [(165, 1, nC165), (209, 3, nC209), (210, 1, nC210)]
def nT17' : List (Nat × List rCo) := [(136, [nK0]), (212, [nK5]), (76, [nK4]), (86, [nK2])]
def nH17' : List (Nat × Nat × rHt) := []
set_option maxRecDepth 100000 in
theorem nV17' : rChk 158 (rLk nL17) nHn (rLm nL17) (rHl nH17') nJ0 nOr0 (rTab nT17') 3000 165 nK17 = true := by decide +kernel
def nL111 : List (Nat × Nat × List (Option mI)) := [(101, 1, nC101)]
def nT111' : List (Nat × List rCo) := [(146, [nK110])]
def nH111' : List (Nat × Nat × rHt) := []
set_option maxRecDepth 100000 in
theorem nV111' : rChk 158 (rLk nL111) nHn (rLm nL111) (rHl nH111') nJ0 nOr0 (rTab nT111') 3000 101 nK111 = true := by decide +kernel
