/-! THE KERNEL'S CHECKS OF THE CONTRACTS: printed by program -/
set_option maxRecDepth 100000 in
theorem nV85_0 : rPcs nF85 (rPiece 158 (rLk nL85) nHn (rLm nL85) (rHl nH85') nJ0 nOr0 (rTab nT85') 3000 8 84 nK85) 0 20 = true := by decide +kernel
set_option maxRecDepth 100000 in
theorem nV152_1 : rPcs nF152 (rPiece 158 (rLk nL152) nHn (rLm nL152) (rHl nH152') nJ0 nOr0 (rTab nT152') 3000 3 105 nK152) 39 22 = true := by decide +kernel
def nL96 : List (Nat × Nat × List (Option mI)) := [(129, 1, nC129)]
def nT96' : List (Nat × List rCo) := []
def nH96' : List (Nat × Nat × rHt) := []
set_option maxRecDepth 100000 in
theorem nV96' : rChk 158 (rLk nL96) nHn (rLm nL96) (rHl nH96') nJ0 nOr0 (rTab nT96') 3000 129 nK96 = true := by decide +kernel
def nL145 : List (Nat × Nat × List (Option mI)) := [(141, 2, nC141)]
def nT145' : List (Nat × List rCo) := []
def nH145' : List (Nat × Nat × rHt) := []
set_option maxRecDepth 100000 in
theorem nV145' : rChk 158 (rLk nL145) nHn (rLm nL145) (rHl nH145') nJ0 nOr0 (rTab nT145') 3000 141 nK145 = true := by decide +kernel
def nL93 : List (Nat × Nat × List (Option mI)) := [(134, 7, nC134)]
def nT93' : List (Nat × List rCo) := [(189, [nK92]), (86, [nK2]), (127, [nK29]), (192, [nK3]), (131, [nK86])]
def nH93' : List (Nat × Nat × rHt) := [(134, 6, .inl ([(2, 3, 0, 0, 240, 0, 0), (2, 1, 0, -2147483648, 2147483647, 0, 0), (2, 2, 0, 0, 1, 0, 0), (0, 169, 17, -2147483648, 2147483647, 0, 0), (0, 167, 2, 0, 240, 0, 0), (0, 167, 4, 0, 240, 0, 0), (0, 167, 5, 0, 240, 0, 0), (1, 167, 6, -9223372036854775808, 9223372036854775807, 0, 0), (0, 167, 7, -2147483648, 2147483647, 0, 0), (0, 167, 8, -2147483648, 2147483647, 0, 0), (0, 167, 9, -2147483648, 2147483647, 0, 0)], [0], (0, 1), (0, 0, 0)))]
set_option maxRecDepth 100000 in
theorem nV93' : rChk 158 (rLk nL93) nHn (rLm nL93) (rHl nH93') nJ0 nOr0 (rTab nT93') 3000 134 nK93 = true := by decide +kernel
def nL16 : List (Nat × Nat × List (Option mI)) := [(164, 1, nC164), (209, 3, nC209), (210, 1, nC210), (211, 2, nC211)]
def nT16' : List (Nat × List rCo) := [(76, [nK4]), (86, [nK2]), (212, [nK5])]
def nH16' : List (Nat × Nat × rHt) := []
set_option maxRecDepth 100000 in
theorem nV16' : rChk 158 (rLk nL16) nHn (rLm nL16) (rHl nH16') nJ0 nOr0 (rTab nT16') 3000 164 nK16 = true := by decide +kernel
def nL42 : List (Nat × Nat × List (Option mI)) := [(125, 7, nC125), (183, 1, nC183), (217, 1, nC217), (184, 2, nC184), (218, 1, nC218), (219, 2, nC219)]
def nT42' : List (Nat × List rCo) := [(226, [nKc 0 2, nKc 1 2, nKc 0 3, nKc 1 3, nKc 2 3, nKc 0 4, nKc 1 4, nKc 2 4, nKc 3 4]), (185, [nK34])]
def nH42' : List (Nat × Nat × rHt) := []
set_option maxRecDepth 100000 in
theorem nV42' : rChk 158 (rLk nL42) nHn (rLm nL42) (rHl nH42') nJ0 nOr0 (rTab nT42') 3000 125 nK42 = true := by decide +kernel
def nL30 : List (Nat × Nat × List (Option mI)) := [(222, 2, nC222)]
def nT30' : List (Nat × List rCo) := []
def nH30' : List (Nat × Nat × rHt) := []
set_option maxRecDepth 100000 in
theorem nV30' : rChk 158 (rLk nL30) nHn (rLm nL30) (rHl nH30') nJ0 nOr0 (rTab nT30') 3000 222 nK30 = true := by decide +kernel
def nL105 : List (Nat × Nat × List (Option mI)) := [(62, 3, nC62)]
def nT105' : List (Nat × List rCo) := []
def nH105' : List (Nat × Nat × rHt) := [(62, 2, .inl ([(2, 2, 0, 0, 200, 0, 0)], [0, 1], (0, 1), (0, 0, 0)))]
set_option maxRecDepth 100000 in
theorem nV105' : rChk 158 (rLk nL105) nHn (rLm nL105) (rHl nH105') nJ0 nOr0 (rTab nT105') 3000 62 nK105 = true := by decide +kernel
def nL112 : List (Nat × Nat × List (Option mI)) := [(168, 1, nC168)]
def nT112' : List (Nat × List rCo) := []
def nH112' : List (Nat × Nat × rHt) := []
set_option maxRecDepth 100000 in
theorem nV112' : rChk 158 (rLk nL112) nHn (rLm nL112) (rHl nH112') nJ0 nOr0 (rTab nT112') 3000 168 nK112 = true := by decide +kernel
