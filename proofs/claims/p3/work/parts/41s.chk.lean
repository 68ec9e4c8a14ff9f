/-! THE KERNEL'S CHECKS OF THE CONTRACTS: printed by program -/
set_option maxRecDepth 100000 in
theorem nV85_5 : rPcs nF85 (rPiece 158 (rLk nL85) nHn (rLm nL85) (rHl nH85') nJ0 nOr0 (rTab nT85') 3000 8 84 nK85) 100 1 = true := by decide +kernel
set_option maxRecDepth 100000 in
theorem nV155_5 : rPcs nF155 (rPiece 158 (rLk nL155) nHn (rLm nL155) (rHl nH155') nJ0 nOr0 (rTab nT155') 3000 9 147 nK155) 12 1 = true := by decide +kernel
def nL131 : List (Nat × Nat × List (Option mI)) := [(75, 5, nC75), (36, 3, nC36), (71, 1, nC71), (113, 2, nC113), (72, 2, nC72)]
def nT131' : List (Nat × List rCo) := [(109, [nK122]), (110, [nK123]), (111, [nK124]), (112, [nK125]), (114, [nK121]), (115, [nK128]), (116, [nK129]), (117, [nK130])]
def nH131' : List (Nat × Nat × rHt) := []
set_option maxRecDepth 100000 in
theorem nV131' : rChk 158 (rLk nL131) nHn (rLm nL131) (rHl nH131') nJ0 nOr0 (rTab nT131') 3000 75 nK131 = true := by decide +kernel
def nL130 : List (Nat × Nat × List (Option mI)) := [(117, 6, nC117), (113, 2, nC113)]
def nT130' : List (Nat × List rCo) := [(74, [nK109]), (181, [nK114]), (114, [nK121]), (177, [nK115]), (146, [nK110]), (171, [nK116])]
def nH130' : List (Nat × Nat × rHt) := []
set_option maxRecDepth 100000 in
theorem nV130' : rChk 158 (rLk nL130) nHn (rLm nL130) (rHl nH130') nJ0 nOr0 (rTab nT130') 3000 117 nK130 = true := by decide +kernel
def nL76 : List (Nat × Nat × List (Option mI)) := [(125, 7, nC125), (183, 1, nC183), (217, 1, nC217), (184, 2, nC184), (218, 1, nC218), (219, 2, nC219)]
def nT76' : List (Nat × List rCo) := [(226, [nKc 0 2, nKc 1 2, nKc 0 3, nKc 1 3, nKc 2 3, nKc 0 4, nKc 1 4, nKc 2 4, nKc 3 4]), (185, [nK34])]
def nH76' : List (Nat × Nat × rHt) := []
set_option maxRecDepth 100000 in
theorem nV76' : rChk 158 (rLk nL76) nHn (rLm nL76) (rHl nH76') nJ0 nOr0 (rTab nT76') 3000 125 nK76 = true := by decide +kernel
def nL41 : List (Nat × Nat × List (Option mI)) := [(125, 7, nC125), (183, 1, nC183), (217, 1, nC217), (184, 2, nC184), (218, 1, nC218), (219, 2, nC219)]
def nT41' : List (Nat × List rCo) := [(226, [nKc 0 2, nKc 1 2, nKc 0 3, nKc 1 3, nKc 2 3, nKc 0 4, nKc 1 4, nKc 2 4, nKc 3 4]), (185, [nK34])]
def nH41' : List (Nat × Nat × rHt) := []
set_option maxRecDepth 100000 in
theorem nV41' : rChk 158 (rLk nL41) nHn (rLm nL41) (rHl nH41') nJ0 nOr0 (rTab nT41') 3000 125 nK41 = true := by decide +kernel
def nL35 : List (Nat × Nat × List (Option mI)) := [(125, 7, nC125), (183, 1, nC183), (217, 1, nC217), (184, 2, nC184), (218, 1, nC218), (219, 2, nC219)]
def nT35' : List (Nat × List rCo) := [(226, [nKc 0 2, nKc 1 2, nKc 0 3, nKc 1 3, nKc 2 3, nKc 0 4, nKc 1 4, nKc 2 4, nKc 3 4]), (185, [nK34])]
def nH35' : List (Nat × Nat × rHt) := []
set_option maxRecDepth 100000 in
theorem nV35' : rChk 158 (rLk nL35) nHn (rLm nL35) (rHl nH35') nJ0 nOr0 (rTab nT35') 3000 125 nK35 = true := by decide +kernel
def nL138 : List (Nat × Nat × List (Option mI)) := [(140, 6, nC140)]
def nT138' : List (Nat × List rCo) := []
def nH138' : List (Nat × Nat × rHt) := [(140, 5, .inl ([(2, 5, 0, 0, 240, 0, 0), (3, 3, 0, -9223372036854775808, 9223372036854775807, 0, 0), (0, 190, 2, 0, 239, 0, 0), (0, 190, 3, -2147483648, 2147483647, 0, 0), (0, 190, 4, 0, 239, 0, 0), (0, 190, 5, -2147483648, 2147483647, 0, 0)], [0, 1, 2], (0, 1), (0, 0, 0)))]
set_option maxRecDepth 100000 in
theorem nV138' : rChk 158 (rLk nL138) nHn (rLm nL138) (rHl nH138') nJ0 nOr0 (rTab nT138') 3000 140 nK138 = true := by decide +kernel
def nL134 : List (Nat × Nat × List (Option mI)) := [(64, 4, nC64)]
def nT134' : List (Nat × List rCo) := []
def nH134' : List (Nat × Nat × rHt) := [(64, 2, .inl ([(2, 3, 0, 0, 240, 1, 0), (0, 190, 2, 0, 239, 0, 0), (0, 190, 3, -2147483648, 2147483647, 0, 0), (0, 190, 4, 0, 239, 0, 0), (0, 190, 5, -2147483648, 2147483647, 0, 0)], [0, 1, 2], (0, 1), (0, 0, 0)))]
set_option maxRecDepth 100000 in
theorem nV134' : rChk 158 (rLk nL134) nHn (rLm nL134) (rHl nH134') nJ0 nOr0 (rTab nT134') 3000 64 nK134 = true := by decide +kernel
def nL29 : List (Nat × Nat × List (Option mI)) := [(127, 2, nC127)]
def nT29' : List (Nat × List rCo) := []
def nH29' : List (Nat × Nat × rHt) := []
set_option maxRecDepth 100000 in
theorem nV29' : rChk 158 (rLk nL29) nHn (rLm nL29) (rHl nH29') nJ0 nOr0 (rTab nT29') 3000 127 nK29 = true := by decide +kernel
