/-! THE KERNEL'S CHECKS OF THE CONTRACTS: printed by program -/
set_option maxRecDepth 100000 in
theorem nV152_1 : rPcs nF152 (rPiece 158 (rLk nL152) nHn (rLm nL152) (rHl nH152') nJ0 nOr0 (rTab nT152') 3000 3 105 nK152) 30 29 = true := by decide +kernel
set_option maxRecDepth 100000 in
theorem nV155_2 : rPcs nF155 (rPiece 158 (rLk nL155) nHn (rLm nL155) (rHl nH155') nJ0 nOr0 (rTab nT155') 3000 9 147 nK155) 6 1 = true := by decide +kernel
def nL157 : List (Nat × Nat × List (Option mI)) := [(153, 2, nC153), (151, 3, nC151), (40, 1, nC40)]
def nT157' : List (Nat × List rCo) := [(101, [nK111]), (102, [nK154]), (46, [nK113]), (105, [nK152, nK153])]
def nH157' : List (Nat × Nat × rHt) := [(153, 2, .inl ([(2, 1, 0, 0, 30, 0, 0), (0, 183, 24, -2147483648, 2147483647, 0, 0)], [0], (0, 1), (0, 0, 0))), (153, 65, .inl ([(2, 1, 0, 0, 20, 0, 0), (0, 183, 24, -2147483648, 2147483647, 0, 0)], [0], (0, 1), (0, 0, 0))), (153, 129, .inl ([(2, 1, 0, 0, 60, 0, 0), (0, 183, 23, 0, 1, 0, 0)], [0], (0, 1), (0, 0, 0)))]
set_option maxRecDepth 100000 in
theorem nV157' : rChk 158 (rLk nL157) nHn (rLm nL157) (rHl nH157') nJ0 nOr0 (rTab nT157') 3000 153 nK157 = true := by decide +kernel
def nL10 : List (Nat × Nat × List (Option mI)) := [(158, 1, nC158), (201, 6, nC201), (203, 1, nC203), (138, 1, nC138), (204, 3, nC204), (191, 1, nC191), (130, 2, nC130), (202, 5, nC202), (205, 3, nC205)]
def nT10' : List (Nat × List rCo) := []
def nH10' : List (Nat × Nat × rHt) := []
set_option maxRecDepth 100000 in
theorem nV10' : rChk 158 (rLk nL10) nHn (rLm nL10) (rHl nH10') nJ0 nOr0 (rTab nT10') 3000 158 nK10 = true := by decide +kernel
def nL11 : List (Nat × Nat × List (Option mI)) := [(159, 8, nC159), (138, 1, nC138), (203, 1, nC203), (204, 3, nC204), (191, 1, nC191), (130, 2, nC130), (205, 3, nC205)]
def nT11' : List (Nat × List rCo) := []
def nH11' : List (Nat × Nat × rHt) := []
set_option maxRecDepth 100000 in
theorem nV11' : rChk 158 (rLk nL11) nHn (rLm nL11) (rHl nH11') nJ0 nOr0 (rTab nT11') 3000 159 nK11 = true := by decide +kernel
def nL38 : List (Nat × Nat × List (Option mI)) := [(125, 7, nC125), (183, 1, nC183), (217, 1, nC217), (184, 2, nC184), (218, 1, nC218), (219, 2, nC219)]
def nT38' : List (Nat × List rCo) := [(226, [nKc 0 2, nKc 1 2, nKc 0 3, nKc 1 3, nKc 2 3, nKc 0 4, nKc 1 4, nKc 2 4, nKc 3 4]), (185, [nK34])]
def nH38' : List (Nat × Nat × rHt) := []
set_option maxRecDepth 100000 in
theorem nV38' : rChk 158 (rLk nL38) nHn (rLm nL38) (rHl nH38') nJ0 nOr0 (rTab nT38') 3000 125 nK38 = true := by decide +kernel
def nL81 : List (Nat × Nat × List (Option mI)) := [(125, 7, nC125), (183, 1, nC183), (217, 1, nC217), (184, 2, nC184), (218, 1, nC218), (219, 2, nC219)]
def nT81' : List (Nat × List rCo) := [(226, [nKc 0 2, nKc 1 2, nKc 0 3, nKc 1 3, nKc 2 3, nKc 0 4, nKc 1 4, nKc 2 4, nKc 3 4]), (185, [nK34])]
def nH81' : List (Nat × Nat × rHt) := []
set_option maxRecDepth 100000 in
theorem nV81' : rChk 158 (rLk nL81) nHn (rLm nL81) (rHl nH81') nJ0 nOr0 (rTab nT81') 3000 125 nK81 = true := by decide +kernel
def nL86 : List (Nat × Nat × List (Option mI)) := [(131, 6, nC131), (190, 2, nC190), (138, 1, nC138), (191, 1, nC191), (130, 2, nC130)]
def nT86' : List (Nat × List rCo) := []
def nH86' : List (Nat × Nat × rHt) := []
set_option maxRecDepth 100000 in
theorem nV86' : rChk 158 (rLk nL86) nHn (rLm nL86) (rHl nH86') nJ0 nOr0 (rTab nT86') 3000 131 nK86 = true := by decide +kernel
def nL139 : List (Nat × Nat × List (Option mI)) := [(97, 4, nC97), (139, 1, nC139), (36, 3, nC36)]
def nT139' : List (Nat × List rCo) := []
def nH139' : List (Nat × Nat × rHt) := [(97, 0, .inr (.inl ((2, 1, 0), [239, 240], (0, 0, 0))))]
set_option maxRecDepth 100000 in
theorem nV139' : rChk 158 (rLk nL139) nHn (rLm nL139) (rHl nH139') nJ0 nOr0 (rTab nT139') 3000 97 nK139 = true := by decide +kernel
def nL142 : List (Nat × Nat × List (Option mI)) := [(100, 4, nC100), (40, 1, nC40)]
def nT142' : List (Nat × List rCo) := [(140, [nK138]), (145, [nK141])]
def nH142' : List (Nat × Nat × rHt) := []
set_option maxRecDepth 100000 in
theorem nV142' : rChk 158 (rLk nL142) nHn (rLm nL142) (rHl nH142') nJ0 nOr0 (rTab nT142') 3000 100 nK142 = true := by decide +kernel
def nL112 : List (Nat × Nat × List (Option mI)) := [(168, 1, nC168)]
def nT112' : List (Nat × List rCo) := []
def nH112' : List (Nat × Nat × rHt) := []
set_option maxRecDepth 100000 in
theorem nV112' : rChk 158 (rLk nL112) nHn (rLm nL112) (rHl nH112') nJ0 nOr0 (rTab nT112') 3000 168 nK112 = true := by decide +kernel
