/-! THE KERNEL'S CHECKS OF THE CONTRACTS: printed by program -/
set_option maxRecDepth 100000 in
theorem nV153_0 : rPcs nF153 (rPiece 158 (rLk nL153) nHn (rLm nL153) (rHl nH153') nJ0 nOr0 (rTab nT153') 3000 3 105 nK153) 0 39 = true := by decide +kernel
set_option maxRecDepth 100000 in
theorem nV100_0 : rPcs nF100 (rPiece 158 (rLk nL100) nHn (rLm nL100) (rHl nH100') nJ0 nOr0 (rTab nT100') 3000 11 60 nK100) 0 8 = true := by decide +kernel
set_option maxRecDepth 100000 in
theorem nV98_c : rCov nF98 8 = true := by decide +kernel
def nL117 : List (Nat × Nat × List (Option mI)) := [(172, 5, nC172), (70, 1, nC70), (214, 1, nC214), (225, 1, nC225)]
def nT117' : List (Nat × List rCo) := [(73, [nK108]), (146, [nK110])]
def nH117' : List (Nat × Nat × rHt) := []
set_option maxRecDepth 100000 in
theorem nV117' : rChk 158 (rLk nL117) nHn (rLm nL117) (rHl nH117') nJ0 nOr0 (rTab nT117') 3000 172 nK117 = true := by decide +kernel
def nL124 : List (Nat × Nat × List (Option mI)) := [(111, 10, nC111), (113, 2, nC113), (70, 1, nC70)]
def nT124' : List (Nat × List rCo) := [(73, [nK108]), (146, [nK110])]
def nH124' : List (Nat × Nat × rHt) := [(111, 152, .inl ([(2, 9, 0, 0, 10, 0, 0), (3, 4, 0, -9223372036854775808, 9223372036854775807, 0, 0)], [0, 1, 2, 6, 8], (0, 1), (0, 0, 0)))]
set_option maxRecDepth 100000 in
theorem nV124' : rChk 158 (rLk nL124) nHn (rLm nL124) (rHl nH124') nJ0 nOr0 (rTab nT124') 3000 111 nK124 = true := by decide +kernel
def nL68 : List (Nat × Nat × List (Option mI)) := [(125, 7, nC125), (183, 1, nC183), (217, 1, nC217), (184, 2, nC184), (218, 1, nC218), (219, 2, nC219)]
def nT68' : List (Nat × List rCo) := [(226, [nKc 0 2, nKc 1 2, nKc 0 3, nKc 1 3, nKc 2 3, nKc 0 4, nKc 1 4, nKc 2 4, nKc 3 4]), (185, [nK34])]
def nH68' : List (Nat × Nat × rHt) := []
set_option maxRecDepth 100000 in
theorem nV68' : rChk 158 (rLk nL68) nHn (rLm nL68) (rHl nH68') nJ0 nOr0 (rTab nT68') 3000 125 nK68 = true := by decide +kernel
def nL38 : List (Nat × Nat × List (Option mI)) := [(125, 7, nC125), (183, 1, nC183), (217, 1, nC217), (184, 2, nC184), (218, 1, nC218), (219, 2, nC219)]
def nT38' : List (Nat × List rCo) := [(226, [nKc 0 2, nKc 1 2, nKc 0 3, nKc 1 3, nKc 2 3, nKc 0 4, nKc 1 4, nKc 2 4, nKc 3 4]), (185, [nK34])]
def nH38' : List (Nat × Nat × rHt) := []
set_option maxRecDepth 100000 in
theorem nV38' : rChk 158 (rLk nL38) nHn (rLm nL38) (rHl nH38') nJ0 nOr0 (rTab nT38') 3000 125 nK38 = true := by decide +kernel
def nL86 : List (Nat × Nat × List (Option mI)) := [(131, 6, nC131), (190, 2, nC190), (138, 1, nC138), (191, 1, nC191), (130, 2, nC130)]
def nT86' : List (Nat × List rCo) := []
def nH86' : List (Nat × Nat × rHt) := []
set_option maxRecDepth 100000 in
theorem nV86' : rChk 158 (rLk nL86) nHn (rLm nL86) (rHl nH86') nJ0 nOr0 (rTab nT86') 3000 131 nK86 = true := by decide +kernel
def nL116 : List (Nat × Nat × List (Option mI)) := [(171, 3, nC171), (70, 1, nC70)]
def nT116' : List (Nat × List rCo) := [(73, [nK108]), (146, [nK110])]
def nH116' : List (Nat × Nat × rHt) := []
set_option maxRecDepth 100000 in
theorem nV116' : rChk 158 (rLk nL116) nHn (rLm nL116) (rHl nH116') nJ0 nOr0 (rTab nT116') 3000 171 nK116 = true := by decide +kernel
def nL0 : List (Nat × Nat × List (Option mI)) := [(136, 1, nC136)]
def nT0' : List (Nat × List rCo) := []
def nH0' : List (Nat × Nat × rHt) := []
set_option maxRecDepth 100000 in
theorem nV0' : rChk 158 (rLk nL0) nHn (rLm nL0) (rHl nH0') nJ0 nOr0 (rTab nT0') 3000 136 nK0 = true := by decide +kernel
