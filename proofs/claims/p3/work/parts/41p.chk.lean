/-! THE KERNEL'S CHECKS OF THE CONTRACTS: printed by program -/
set_option maxRecDepth 100000 in
theorem nV125_0 : rPcs nF125 (rPiece 158 (rLk nL125) nHn (rLm nL125) (rHl nH125') nJ0 nOr0 (rTab nT125') 3000 5 112 nK125) 0 33 = true := by decide +kernel
set_option maxRecDepth 100000 in
theorem nV27_0 : rPcs nF27 (rPiece 158 (rLk nL27) nHn (rLm nL27) (rHl nH27') nJ0 nOr0 (rTab nT27') 3000 1 120 nK27) 0 2 = true := by decide +kernel
def nL15 : List (Nat × Nat × List (Option mI)) := [(163, 3, nC163), (155, 1, nC155), (208, 5, nC208), (224, 5, nC224), (228, 3, nC228), (229, 4, nC229), (206, 2, nC206), (230, 2, nC230), (231, 2, nC231), (156, 3, nC156), (209, 3, nC209), (210, 1, nC210)]
def nT15' : List (Nat × List rCo) := [(76, [nK4]), (86, [nK2])]
def nH15' : List (Nat × Nat × rHt) := []
set_option maxRecDepth 100000 in
theorem nV15' : rChk 158 (rLk nL15) nHn (rLm nL15) (rHl nH15') nJ0 nOr0 (rTab nT15') 3000 163 nK15 = true := by decide +kernel
def nL146 : List (Nat × Nat × List (Option mI)) := [(142, 2, nC142)]
def nT146' : List (Nat × List rCo) := []
def nH146' : List (Nat × Nat × rHt) := []
set_option maxRecDepth 100000 in
theorem nV146' : rChk 158 (rLk nL146) nHn (rLm nL146) (rHl nH146') nJ0 nOr0 (rTab nT146') 3000 142 nK146 = true := by decide +kernel
def nL82 : List (Nat × Nat × List (Option mI)) := [(125, 7, nC125), (183, 1, nC183), (217, 1, nC217), (184, 2, nC184), (218, 1, nC218), (219, 2, nC219)]
def nT82' : List (Nat × List rCo) := [(226, [nKc 0 2, nKc 1 2, nKc 0 3, nKc 1 3, nKc 2 3, nKc 0 4, nKc 1 4, nKc 2 4, nKc 3 4]), (185, [nK34])]
def nH82' : List (Nat × Nat × rHt) := []
set_option maxRecDepth 100000 in
theorem nV82' : rChk 158 (rLk nL82) nHn (rLm nL82) (rHl nH82') nJ0 nOr0 (rTab nT82') 3000 125 nK82 = true := by decide +kernel
def nL22 : List (Nat × Nat × List (Option mI)) := [(43, 4, nC43)]
def nT22' : List (Nat × List rCo) := [(69, [nK21])]
def nH22' : List (Nat × Nat × rHt) := [(43, 52, .inl ([(2, 3, 0, 0, 500, 0, 0), (0, 160, 8, 0, 501, 2, 1), (0, 160, 5, 0, 6, 0, 0), (0, 160, 6, 0, 5, 0, 0), (0, 160, 7, 0, 6, 0, 0), (0, 165, 3, 0, 1, 0, 0), (0, 165, 4, -2147483648, 2147483647, 0, 0), (0, 165, 5, -2147483648, 2147483647, 0, 0), (0, 165, 6, -2147483648, 2147483647, 0, 0), (0, 165, 7, -2147483648, 2147483647, 0, 0), (0, 165, 8, -2147483648, 2147483647, 0, 0), (0, 165, 9, -2147483648, 2147483647, 0, 0), (0, 165, 10, -2147483648, 2147483647, 0, 0), (0, 165, 11, -2147483648, 2147483647, 0, 0), (0, 165, 12, -2147483648, 2147483647, 0, 0), (0, 165, 13, -2147483648, 2147483647, 0, 0), (0, 165, 14, -2147483648, 2147483647, 0, 0)], [0, 1, 2], (0, 1), (0, 0, 0)))]
set_option maxRecDepth 100000 in
theorem nV22' : rChk 158 (rLk nL22) nHn (rLm nL22) (rHl nH22') nJ0 nOr0 (rTab nT22') 3000 43 nK22 = true := by decide +kernel
def nL97 : List (Nat × Nat × List (Option mI)) := [(88, 1, nC88)]
def nT97' : List (Nat × List rCo) := []
def nH97' : List (Nat × Nat × rHt) := []
set_option maxRecDepth 100000 in
theorem nV97' : rChk 158 (rLk nL97) nHn (rLm nL97) (rHl nH97') nJ0 nOr0 (rTab nT97') 3000 88 nK97 = true := by decide +kernel
def nL102 : List (Nat × Nat × List (Option mI)) := [(93, 2, nC93), (132, 2, nC132)]
def nT102' : List (Nat × List rCo) := [(86, [nK2]), (87, [nK88]), (76, [nK4])]
def nH102' : List (Nat × Nat × rHt) := [(93, 2, .inl ([(2, 1, 0, 0, 30, 0, 0), (0, 169, 8, -2147483648, 2147483647, 0, 0)], [0], (0, 1), (0, 0, 0)))]
set_option maxRecDepth 100000 in
theorem nV102' : rChk 158 (rLk nL102) nHn (rLm nL102) (rHl nH102') nJ0 nOr0 (rTab nT102') 3000 93 nK102 = true := by decide +kernel
def nL114 : List (Nat × Nat × List (Option mI)) := [(181, 3, nC181)]
def nT114' : List (Nat × List rCo) := []
def nH114' : List (Nat × Nat × rHt) := []
set_option maxRecDepth 100000 in
theorem nV114' : rChk 158 (rLk nL114) nHn (rLm nL114) (rHl nH114') nJ0 nOr0 (rTab nT114') 3000 181 nK114 = true := by decide +kernel
