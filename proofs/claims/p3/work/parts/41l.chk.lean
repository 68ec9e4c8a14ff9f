/-! THE KERNEL'S CHECKS OF THE CONTRACTS: printed by program -/
set_option maxRecDepth 100000 in
theorem nV152_0 : rPcs nF152 (rPiece 158 (rLk nL152) nHn (rLm nL152) (rHl nH152') nJ0 nOr0 (rTab nT152') 3000 3 105 nK152) 0 30 = true := by decide +kernel
set_option maxRecDepth 100000 in
theorem nV155_5 : rPcs nF155 (rPiece 158 (rLk nL155) nHn (rLm nL155) (rHl nH155') nJ0 nOr0 (rTab nT155') 3000 9 147 nK155) 12 1 = true := by decide +kernel
def nL91 : List (Nat × Nat × List (Option mI)) := [(221, 3, nC221), (121, 1, nC121), (122, 1, nC122)]
def nT91' : List (Nat × List rCo) := [(127, [nK29]), (120, [nK27]), (68, [nK31, nK32]), (136, [nK0])]
def nH91' : List (Nat × Nat × rHt) := []
set_option maxRecDepth 100000 in
theorem nV91' : rChk 158 (rLk nL91) nHn (rLm nL91) (rHl nH91') nJ0 nOr0 (rTab nT91') 3000 221 nK91 = true := by decide +kernel
def nL21 : List (Nat × Nat × List (Option mI)) := [(69, 1, nC69), (107, 1, nC107), (155, 1, nC155), (156, 3, nC156)]
def nT21' : List (Nat × List rCo) := [(76, [nK4]), (106, [nK8]), (108, [nK20])]
def nH21' : List (Nat × Nat × rHt) := []
set_option maxRecDepth 100000 in
theorem nV21' : rChk 158 (rLk nL21) nHn (rLm nL21) (rHl nH21') nJ0 nOr0 (rTab nT21') 3000 69 nK21 = true := by decide +kernel
def nL79 : List (Nat × Nat × List (Option mI)) := [(125, 7, nC125), (183, 1, nC183), (217, 1, nC217), (184, 2, nC184), (218, 1, nC218), (219, 2, nC219)]
def nT79' : List (Nat × List rCo) := [(226, [nKc 0 2, nKc 1 2, nKc 0 3, nKc 1 3, nKc 2 3, nKc 0 4, nKc 1 4, nKc 2 4, nKc 3 4]), (185, [nK34])]
def nH79' : List (Nat × Nat × rHt) := []
set_option maxRecDepth 100000 in
theorem nV79' : rChk 158 (rLk nL79) nHn (rLm nL79) (rHl nH79') nJ0 nOr0 (rTab nT79') 3000 125 nK79 = true := by decide +kernel
def nL42 : List (Nat × Nat × List (Option mI)) := [(125, 7, nC125), (183, 1, nC183), (217, 1, nC217), (184, 2, nC184), (218, 1, nC218), (219, 2, nC219)]
def nT42' : List (Nat × List rCo) := [(226, [nKc 0 2, nKc 1 2, nKc 0 3, nKc 1 3, nKc 2 3, nKc 0 4, nKc 1 4, nKc 2 4, nKc 3 4]), (185, [nK34])]
def nH42' : List (Nat × Nat × rHt) := []
set_option maxRecDepth 100000 in
theorem nV42' : rChk 158 (rLk nL42) nHn (rLm nL42) (rHl nH42') nJ0 nOr0 (rTab nT42') 3000 125 nK42 = true := by decide +kernel
def nL163 : List (Nat × Nat × List (Option mI)) := [(8, 4, nC8), (40, 1, nC40), (37, 2, nC37)]
def nT163' : List (Nat × List rCo) := [(39, [nK162]), (41, [nK161])]
def nH163' : List (Nat × Nat × rHt) := [(8, 13, .inl ([(2, 2, 0, 0, 241, 0, 0), (2, 1, 0, 0, 242, 2, 1), (0, 183, 21, 0, 250, 0, 0), (0, 183, 22, 0, 240, 0, 0), (0, 183, 24, -2147483648, 2147483647, 0, 0), (0, 183, 25, -2147483648, 2147483647, 0, 0), (0, 183, 29, 0, 30, 0, 0), (0, 183, 33, 0, 20, 0, 0), (0, 183, 37, 0, 60, 0, 0), (6, 201, 0, 8, 0, 3, 0), (0, 201, 1, -2147483648, 2147483647, 0, 0), (0, 183, 26, 0, 1, 0, 0), (0, 190, 0, 0, 239, 0, 0), (0, 190, 1, -2147483648, 2147483647, 0, 0), (0, 190, 2, 0, 239, 0, 0), (0, 190, 3, -2147483648, 2147483647, 0, 0), (0, 190, 4, 0, 239, 0, 0), (0, 190, 5, -2147483648, 2147483647, 0, 0)], [0], (0, 1), (0, 0, 0))), (8, 27, .inr (.inl ((2, 2, 0), [241], (0, 0, 0)))), (8, 32, .inl ([(2, 3, 0, 0, 0, 4, 183018), (0, 190, 2, 0, 239, 0, 0), (0, 190, 3, -2147483648, 2147483647, 0, 0), (0, 190, 4, 0, 239, 0, 0), (0, 190, 5, -2147483648, 2147483647, 0, 0)], [0, 1, 2], (0, 1), (0, 0, 0))), (8, 116, .inl ([(2, 3, 0, 0, 200, 0, 0)], [0], (0, 1), (0, 0, 0))), (8, 160, .inl ([(2, 3, 0, 0, 30, 0, 0)], [0], (0, 1), (0, 0, 0)))]
set_option maxRecDepth 100000 in
theorem nV163' : rChk 158 (rLk nL163) nHn (rLm nL163) (rHl nH163') nJ0 nOr0 (rTab nT163') 3000 8 nK163 = true := by decide +kernel
def nL30 : List (Nat × Nat × List (Option mI)) := [(222, 2, nC222)]
def nT30' : List (Nat × List rCo) := []
def nH30' : List (Nat × Nat × rHt) := []
set_option maxRecDepth 100000 in
theorem nV30' : rChk 158 (rLk nL30) nHn (rLm nL30) (rHl nH30') nJ0 nOr0 (rTab nT30') 3000 222 nK30 = true := by decide +kernel
def nL93 : List (Nat × Nat × List (Option mI)) := [(134, 7, nC134)]
def nT93' : List (Nat × List rCo) := [(189, [nK92]), (86, [nK2]), (127, [nK29]), (192, [nK3]), (131, [nK86])]
def nH93' : List (Nat × Nat × rHt) := [(134, 6, .inl ([(2, 3, 0, 0, 240, 0, 0), (2, 1, 0, -2147483648, 2147483647, 0, 0), (2, 2, 0, 0, 1, 0, 0), (0, 169, 17, -2147483648, 2147483647, 0, 0), (0, 167, 2, 0, 240, 0, 0), (0, 167, 4, 0, 240, 0, 0), (0, 167, 5, 0, 240, 0, 0), (1, 167, 6, -9223372036854775808, 9223372036854775807, 0, 0), (0, 167, 7, -2147483648, 2147483647, 0, 0), (0, 167, 8, -2147483648, 2147483647, 0, 0), (0, 167, 9, -2147483648, 2147483647, 0, 0)], [0], (0, 1), (0, 0, 0)))]
set_option maxRecDepth 100000 in
theorem nV93' : rChk 158 (rLk nL93) nHn (rLm nL93) (rHl nH93') nJ0 nOr0 (rTab nT93') 3000 134 nK93 = true := by decide +kernel
def nL33 : List (Nat × Nat × List (Option mI)) := [(182, 4, nC182)]
def nT33' : List (Nat × List rCo) := []
def nH33' : List (Nat × Nat × rHt) := [(182, 2, .inl ([(2, 3, 0, 0, 30, 0, 0)], [0, 1], (0, 1), (0, 0, 0)))]
set_option maxRecDepth 100000 in
theorem nV33' : rChk 158 (rLk nL33) nHn (rLm nL33) (rHl nH33') nJ0 nOr0 (rTab nT33') 3000 182 nK33 = true := by decide +kernel
def nL2 : List (Nat × Nat × List (Option mI)) := [(86, 2, nC86)]
def nT2' : List (Nat × List rCo) := []
def nH2' : List (Nat × Nat × rHt) := []
set_option maxRecDepth 100000 in
theorem nV2' : rChk 158 (rLk nL2) nHn (rLm nL2) (rHl nH2') nJ0 nOr0 (rTab nT2') 3000 86 nK2 = true := by decide +kernel
def nL0 : List (Nat × Nat × List (Option mI)) := [(136, 1, nC136)]
def nT0' : List (Nat × List rCo) := []
def nH0' : List (Nat × Nat × rHt) := []
set_option maxRecDepth 100000 in
theorem nV0' : rChk 158 (rLk nL0) nHn (rLm nL0) (rHl nH0') nJ0 nOr0 (rTab nT0') 3000 136 nK0 = true := by decide +kernel
