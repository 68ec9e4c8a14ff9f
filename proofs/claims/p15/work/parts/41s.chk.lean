/-! THE KERNEL'S CHECKS OF THE CONTRACTS: printed by program -/
set_option maxRecDepth 100000 in
theorem nU100_1 : rPcs nF100 (rPiece 158 (rLk nL100) nHn (rLm nL100) (rHl nH100') nJ0 nOr0 (rTab nT100') 3000 11 60 nK100) 8 2 = true := by decide +kernel
set_option maxRecDepth 100000 in
theorem nU155_3 : rPcs nF155 (rPiece 158 (rLk nL155) nHn (rLm nL155) (rHl nH155') nJ0 nOr0 (rTab nT155') 3000 9 147 nK155) 7 1 = true := by decide +kernel
set_option maxRecDepth 100000 in
theorem nU125_c : rCov nF125 64 = true := by decide +kernel
def nL151 : List (Nat × Nat × List (Option mI)) := [(152, 5, nC152), (148, 1, nC148), (150, 2, nC150), (40, 1, nC40)]
def nT151' : List (Nat × List rCo) := [(149, [nK150]), (168, [nK112]), (101, [nK111]), (172, [nK117])]
def nH151' : List (Nat × Nat × rHt) := [(152, 4, .inl ([(0, 183, 21, 0, 240, 1, 0), (2, 1, 0, -2147483648, 2147483647, 0, 0), (2, 2, 0, 0, 1, 0, 0), (0, 190, 2, 0, 239, 0, 0), (0, 190, 3, -2147483648, 2147483647, 0, 0), (0, 190, 4, 0, 239, 0, 0), (0, 190, 5, -2147483648, 2147483647, 0, 0)], [0], (0, 1), (0, 0, 0)))]
set_option maxRecDepth 100000 in
theorem nV151' : rChk 158 (rLk nL151) nHn (rLm nL151) (rHl nH151') nJ0 nOr0 (rTab nT151') 3000 152 nK151 = true := by decide +kernel
def nL93 : List (Nat × Nat × List (Option mI)) := [(134, 7, nC134)]
def nT93' : List (Nat × List rCo) := [(189, [nK92]), (86, [nK2]), (127, [nK29]), (192, [nK3]), (131, [nK86])]
def nH93' : List (Nat × Nat × rHt) := [(134, 6, .inl ([(2, 3, 0, 0, 240, 0, 0), (2, 1, 0, -2147483648, 2147483647, 0, 0), (2, 2, 0, 0, 1, 0, 0), (0, 169, 17, -2147483648, 2147483647, 0, 0), (0, 167, 2, 0, 240, 0, 0), (0, 167, 4, 0, 240, 0, 0), (0, 167, 5, 0, 240, 0, 0), (1, 167, 6, -9223372036854775808, 9223372036854775807, 0, 0), (0, 167, 7, -2147483648, 2147483647, 0, 0), (0, 167, 8, -2147483648, 2147483647, 0, 0), (0, 167, 9, -2147483648, 2147483647, 0, 0)], [0], (0, 1), (0, 0, 0)))]
set_option maxRecDepth 100000 in
theorem nV93' : rChk 158 (rLk nL93) nHn (rLm nL93) (rHl nH93') nJ0 nOr0 (rTab nT93') 3000 134 nK93 = true := by decide +kernel
def nL72 : List (Nat × Nat × List (Option mI)) := [(125, 7, nC125), (183, 1, nC183), (217, 1, nC217), (184, 2, nC184), (218, 1, nC218), (219, 2, nC219)]
def nT72' : List (Nat × List rCo) := [(226, [nKc 0 2, nKc 1 2, nKc 0 3, nKc 1 3, nKc 2 3, nKc 0 4, nKc 1 4, nKc 2 4, nKc 3 4]), (185, [nK34])]
def nH72' : List (Nat × Nat × rHt) := []
set_option maxRecDepth 100000 in
theorem nV72' : rChk 158 (rLk nL72) nHn (rLm nL72) (rHl nH72') nJ0 nOr0 (rTab nT72') 3000 125 nK72 = true := by decide +kernel
def nL22 : List (Nat × Nat × List (Option mI)) := [(43, 4, nC43)]
def nT22' : List (Nat × List rCo) := [(69, [nK21])]
def nH22' : List (Nat × Nat × rHt) := [(43, 52, .inl ([(2, 3, 0, 0, 500, 0, 0), (0, 160, 8, 0, 501, 2, 1), (0, 160, 5, 0, 6, 0, 0), (0, 160, 6, 0, 5, 0, 0), (0, 160, 7, 0, 6, 0, 0), (0, 165, 3, 0, 1, 0, 0), (0, 165, 4, -2147483648, 2147483647, 0, 0), (0, 165, 5, -2147483648, 2147483647, 0, 0), (0, 165, 6, -2147483648, 2147483647, 0, 0), (0, 165, 7, -2147483648, 2147483647, 0, 0), (0, 165, 8, -2147483648, 2147483647, 0, 0), (0, 165, 9, -2147483648, 2147483647, 0, 0), (0, 165, 10, -2147483648, 2147483647, 0, 0), (0, 165, 11, -2147483648, 2147483647, 0, 0), (0, 165, 12, -2147483648, 2147483647, 0, 0), (0, 165, 13, -2147483648, 2147483647, 0, 0), (0, 165, 14, -2147483648, 2147483647, 0, 0)], [0, 1, 2], (0, 1), (0, 0, 0)))]
set_option maxRecDepth 100000 in
theorem nV22' : rChk 158 (rLk nL22) nHn (rLm nL22) (rHl nH22') nJ0 nOr0 (rTab nT22') 3000 43 nK22 = true := by decide +kernel
def nL42 : List (Nat × Nat × List (Option mI)) := [(125, 7, nC125), (183, 1, nC183), (217, 1, nC217), (184, 2, nC184), (218, 1, nC218), (219, 2, nC219)]
def nT42' : List (Nat × List rCo) := [(226, [nKc 0 2, nKc 1 2, nKc 0 3, nKc 1 3, nKc 2 3, nKc 0 4, nKc 1 4, nKc 2 4, nKc 3 4]), (185, [nK34])]
def nH42' : List (Nat × Nat × rHt) := []
set_option maxRecDepth 100000 in
theorem nV42' : rChk 158 (rLk nL42) nHn (rLm nL42) (rHl nH42') nJ0 nOr0 (rTab nT42') 3000 125 nK42 = true := by decide +kernel
def nL24 : List (Nat × Nat × List (Option mI)) := [(82, 2, nC82)]
def nT24' : List (Nat × List rCo) := []
def nH24' : List (Nat × Nat × rHt) := [(82, 32, .inl ([(2, 1, 0, 0, 240, 0, 0)], [0], (0, 1), (0, 0, 0)))]
set_option maxRecDepth 100000 in
theorem nV24' : rChk 158 (rLk nL24) nHn (rLm nL24) (rHl nH24') nJ0 nOr0 (rTab nT24') 3000 82 nK24 = true := by decide +kernel
def nL31 : List (Nat × Nat × List (Option mI)) := [(68, 4, nC68)]
def nT31' : List (Nat × List rCo) := []
def nH31' : List (Nat × Nat × rHt) := [(68, 2, .inl ([(2, 3, 0, 0, 30, 0, 0)], [0, 1], (0, 1), (0, 0, 0)))]
set_option maxRecDepth 100000 in
theorem nV31' : rChk 158 (rLk nL31) nHn (rLm nL31) (rHl nH31') nJ0 nOr0 (rTab nT31') 3000 68 nK31 = true := by decide +kernel
