/-! THE KERNEL'S CHECKS OF THE CONTRACTS: printed by program -/
set_option maxRecDepth 100000 in
theorem nV155_9 : rPcs nF155 (rPiece 158 (rLk nL155) nHn (rLm nL155) (rHl nH155') nJ0 nOr0 (rTab nT155') 3000 9 147 nK155) 18 8 = true := by decide +kernel
set_option maxRecDepth 100000 in
theorem nV155_2 : rPcs nF155 (rPiece 158 (rLk nL155) nHn (rLm nL155) (rHl nH155') nJ0 nOr0 (rTab nT155') 3000 9 147 nK155) 6 1 = true := by decide +kernel
set_option maxRecDepth 100000 in
theorem nV27_c : rCov nF27 3 = true := by decide +kernel
def nL20 : List (Nat × Nat × List (Option mI)) := [(108, 1, nC108)]
def nT20' : List (Nat × List rCo) := [(157, [nK9]), (158, [nK10]), (159, [nK11]), (160, [nK12]), (161, [nK13]), (162, [nK14]), (163, [nK15]), (164, [nK16]), (165, [nK17]), (166, [nK18]), (167, [nK19])]
def nH20' : List (Nat × Nat × rHt) := []
set_option maxRecDepth 100000 in
theorem nV20' : rChk 158 (rLk nL20) nHn (rLm nL20) (rHl nH20') nJ0 nOr0 (rTab nT20') 3000 108 nK20 = true := by decide +kernel
def nL123 : List (Nat × Nat × List (Option mI)) := [(110, 5, nC110), (113, 2, nC113), (174, 2, nC174), (70, 1, nC70), (175, 6, nC175)]
def nT123' : List (Nat × List rCo) := [(73, [nK108]), (146, [nK110])]
def nH123' : List (Nat × Nat × rHt) := []
set_option maxRecDepth 100000 in
theorem nV123' : rChk 158 (rLk nL123) nHn (rLm nL123) (rHl nH123') nJ0 nOr0 (rTab nT123') 3000 110 nK123 = true := by decide +kernel
def nL11 : List (Nat × Nat × List (Option mI)) := [(159, 8, nC159), (138, 1, nC138), (203, 1, nC203), (204, 3, nC204), (191, 1, nC191), (130, 2, nC130), (205, 3, nC205)]
def nT11' : List (Nat × List rCo) := []
def nH11' : List (Nat × Nat × rHt) := []
set_option maxRecDepth 100000 in
theorem nV11' : rChk 158 (rLk nL11) nHn (rLm nL11) (rHl nH11') nJ0 nOr0 (rTab nT11') 3000 159 nK11 = true := by decide +kernel
def nL43 : List (Nat × Nat × List (Option mI)) := [(125, 7, nC125), (183, 1, nC183), (217, 1, nC217), (184, 2, nC184), (218, 1, nC218), (219, 2, nC219)]
def nT43' : List (Nat × List rCo) := [(226, [nKc 0 2, nKc 1 2, nKc 0 3, nKc 1 3, nKc 2 3, nKc 0 4, nKc 1 4, nKc 2 4, nKc 3 4]), (185, [nK34])]
def nH43' : List (Nat × Nat × rHt) := []
set_option maxRecDepth 100000 in
theorem nV43' : rChk 158 (rLk nL43) nHn (rLm nL43) (rHl nH43') nJ0 nOr0 (rTab nT43') 3000 125 nK43 = true := by decide +kernel
def nL103 : List (Nat × Nat × List (Option mI)) := [(94, 2, nC94), (132, 2, nC132)]
def nT103' : List (Nat × List rCo) := [(86, [nK2]), (91, [nK87]), (76, [nK4])]
def nH103' : List (Nat × Nat × rHt) := [(94, 2, .inl ([(2, 1, 0, 0, 20, 0, 0), (0, 169, 8, -2147483648, 2147483647, 0, 0)], [0], (0, 1), (0, 0, 0)))]
set_option maxRecDepth 100000 in
theorem nV103' : rChk 158 (rLk nL103) nHn (rLm nL103) (rHl nH103') nJ0 nOr0 (rTab nT103') 3000 94 nK103 = true := by decide +kernel
def nL17 : List (Nat × Nat × List (Option mI)) := [(165, 1, nC165), (209, 3, nC209), (210, 1, nC210)]
def nT17' : List (Nat × List rCo) := [(136, [nK0]), (212, [nK5]), (76, [nK4]), (86, [nK2])]
def nH17' : List (Nat × Nat × rHt) := []
set_option maxRecDepth 100000 in
theorem nV17' : rChk 158 (rLk nL17) nHn (rLm nL17) (rHl nH17') nJ0 nOr0 (rTab nT17') 3000 165 nK17 = true := by decide +kernel
def nL110 : List (Nat × Nat × List (Option mI)) := [(146, 2, nC146)]
def nT110' : List (Nat × List rCo) := []
def nH110' : List (Nat × Nat × rHt) := []
set_option maxRecDepth 100000 in
theorem nV110' : rChk 158 (rLk nL110) nHn (rLm nL110) (rHl nH110') nJ0 nOr0 (rTab nT110') 3000 146 nK110 = true := by decide +kernel
