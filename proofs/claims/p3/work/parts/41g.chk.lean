/-! THE KERNEL'S CHECKS OF THE CONTRACTS: printed by program -/
set_option maxRecDepth 100000 in
theorem nV85_4 : rPcs nF85 (rPiece 158 (rLk nL85) nHn (rLm nL85) (rHl nH85') nJ0 nOr0 (rTab nT85') 3000 8 84 nK85) 80 20 = true := by decide +kernel
set_option maxRecDepth 100000 in
theorem nV160_c : rCov nF160 1 = true := by decide +kernel
set_option maxRecDepth 100000 in
theorem nV152_c : rCov nF152 61 = true := by decide +kernel
def nL95 : List (Nat × Nat × List (Option mI)) := [(126, 4, nC126), (186, 1, nC186), (187, 2, nC187)]
def nT95' : List (Nat × List rCo) := [(127, [nK29]), (134, [nK93]), (120, [nK28]), (188, [nK94]), (189, [nK92]), (86, [nK2])]
def nH95' : List (Nat × Nat × rHt) := []
set_option maxRecDepth 100000 in
theorem nV95' : rChk 158 (rLk nL95) nHn (rLm nL95) (rHl nH95') nJ0 nOr0 (rTab nT95') 3000 126 nK95 = true := by decide +kernel
def nL133 : List (Nat × Nat × List (Option mI)) := [(14, 3, nC14), (36, 3, nC36), (37, 2, nC37)]
def nT133' : List (Nat × List rCo) := [(44, [nK132])]
def nH133' : List (Nat × Nat × rHt) := [(14, 37, .inl ([(2, 2, 0, 0, 500, 0, 0), (0, 183, 0, -2147483648, 2147483647, 0, 0), (0, 183, 3, 0, 1, 0, 0), (0, 183, 4, 0, 1, 0, 0), (0, 183, 5, -2147483648, 2147483647, 0, 0), (0, 183, 6, -2147483648, 2147483647, 0, 0), (0, 183, 7, -2147483648, 2147483647, 0, 0), (0, 183, 8, -2147483648, 2147483647, 0, 0), (0, 183, 9, -2147483648, 2147483647, 0, 0), (0, 183, 10, -2147483648, 2147483647, 0, 0), (0, 183, 12, 0, 6, 0, 0), (0, 183, 13, 0, 6, 0, 0), (0, 183, 15, -2147483648, 2147483647, 0, 0)], [0, 1], (0, 1), (0, 0, 0)))]
set_option maxRecDepth 100000 in
theorem nV133' : rChk 158 (rLk nL133) nHn (rLm nL133) (rHl nH133') nJ0 nOr0 (rTab nT133') 3000 14 nK133 = true := by decide +kernel
def nL10 : List (Nat × Nat × List (Option mI)) := [(158, 1, nC158), (201, 6, nC201), (203, 1, nC203), (138, 1, nC138), (204, 3, nC204), (191, 1, nC191), (130, 2, nC130), (202, 5, nC202), (205, 3, nC205)]
def nT10' : List (Nat × List rCo) := []
def nH10' : List (Nat × Nat × rHt) := []
set_option maxRecDepth 100000 in
theorem nV10' : rChk 158 (rLk nL10) nHn (rLm nL10) (rHl nH10') nJ0 nOr0 (rTab nT10') 3000 158 nK10 = true := by decide +kernel
def nL14 : List (Nat × Nat × List (Option mI)) := [(162, 2, nC162), (197, 1, nC197), (131, 6, nC131), (190, 2, nC190), (138, 1, nC138), (191, 1, nC191), (130, 2, nC130)]
def nT14' : List (Nat × List rCo) := [(192, [nK3]), (76, [nK4])]
def nH14' : List (Nat × Nat × rHt) := []
set_option maxRecDepth 100000 in
theorem nV14' : rChk 158 (rLk nL14) nHn (rLm nL14) (rHl nH14') nJ0 nOr0 (rTab nT14') 3000 162 nK14 = true := by decide +kernel
def nL19 : List (Nat × Nat × List (Option mI)) := [(167, 2, nC167), (197, 1, nC197), (213, 2, nC213)]
def nT19' : List (Nat × List rCo) := [(192, [nK3]), (76, [nK4]), (154, [nK1]), (136, [nK0])]
def nH19' : List (Nat × Nat × rHt) := []
set_option maxRecDepth 100000 in
theorem nV19' : rChk 158 (rLk nL19) nHn (rLm nL19) (rHl nH19') nJ0 nOr0 (rTab nT19') 3000 167 nK19 = true := by decide +kernel
def nL147 : List (Nat × Nat × List (Option mI)) := [(143, 1, nC143), (36, 3, nC36)]
def nT147' : List (Nat × List rCo) := []
def nH147' : List (Nat × Nat × rHt) := []
set_option maxRecDepth 100000 in
theorem nV147' : rChk 158 (rLk nL147) nHn (rLm nL147) (rHl nH147') nJ0 nOr0 (rTab nT147') 3000 143 nK147 = true := by decide +kernel
def nL111 : List (Nat × Nat × List (Option mI)) := [(101, 1, nC101)]
def nT111' : List (Nat × List rCo) := [(146, [nK110])]
def nH111' : List (Nat × Nat × rHt) := []
set_option maxRecDepth 100000 in
theorem nV111' : rChk 158 (rLk nL111) nHn (rLm nL111) (rHl nH111') nJ0 nOr0 (rTab nT111') 3000 101 nK111 = true := by decide +kernel
