/-! THE KERNEL'S CHECKS OF THE CONTRACTS: printed by program -/
set_option maxRecDepth 100000 in
theorem nV155_0 : rPcs nF155 (rPiece 158 (rLk nL155) nHn (rLm nL155) (rHl nH155') nJ0 nOr0 (rTab nT155') 3000 9 147 nK155) 0 3 = true := by decide +kernel
set_option maxRecDepth 100000 in
theorem nV155_1 : rPcs nF155 (rPiece 158 (rLk nL155) nHn (rLm nL155) (rHl nH155') nJ0 nOr0 (rTab nT155') 3000 9 147 nK155) 3 3 = true := by decide +kernel
set_option maxRecDepth 100000 in
theorem nV125_c : rCov nF125 64 = true := by decide +kernel
def nL73 : List (Nat × Nat × List (Option mI)) := [(125, 7, nC125), (183, 1, nC183), (217, 1, nC217), (184, 2, nC184), (218, 1, nC218), (219, 2, nC219)]
def nT73' : List (Nat × List rCo) := [(226, [nKc 0 2, nKc 1 2, nKc 0 3, nKc 1 3, nKc 2 3, nKc 0 4, nKc 1 4, nKc 2 4, nKc 3 4]), (185, [nK34])]
def nH73' : List (Nat × Nat × rHt) := []
set_option maxRecDepth 100000 in
theorem nV73' : rChk 158 (rLk nL73) nHn (rLm nL73) (rHl nH73') nJ0 nOr0 (rTab nT73') 3000 125 nK73 = true := by decide +kernel
def nL72 : List (Nat × Nat × List (Option mI)) := [(125, 7, nC125), (183, 1, nC183), (217, 1, nC217), (184, 2, nC184), (218, 1, nC218), (219, 2, nC219)]
def nT72' : List (Nat × List rCo) := [(226, [nKc 0 2, nKc 1 2, nKc 0 3, nKc 1 3, nKc 2 3, nKc 0 4, nKc 1 4, nKc 2 4, nKc 3 4]), (185, [nK34])]
def nH72' : List (Nat × Nat × rHt) := []
set_option maxRecDepth 100000 in
theorem nV72' : rChk 158 (rLk nL72) nHn (rLm nL72) (rHl nH72') nJ0 nOr0 (rTab nT72') 3000 125 nK72 = true := by decide +kernel
def nL50 : List (Nat × Nat × List (Option mI)) := [(125, 7, nC125), (183, 1, nC183), (217, 1, nC217), (184, 2, nC184), (218, 1, nC218), (219, 2, nC219)]
def nT50' : List (Nat × List rCo) := [(226, [nKc 0 2, nKc 1 2, nKc 0 3, nKc 1 3, nKc 2 3, nKc 0 4, nKc 1 4, nKc 2 4, nKc 3 4]), (185, [nK34])]
def nH50' : List (Nat × Nat × rHt) := []
set_option maxRecDepth 100000 in
theorem nV50' : rChk 158 (rLk nL50) nHn (rLm nL50) (rHl nH50') nJ0 nOr0 (rTab nT50') 3000 125 nK50 = true := by decide +kernel
def nL40 : List (Nat × Nat × List (Option mI)) := [(125, 7, nC125), (183, 1, nC183), (217, 1, nC217), (184, 2, nC184), (218, 1, nC218), (219, 2, nC219)]
def nT40' : List (Nat × List rCo) := [(226, [nKc 0 2, nKc 1 2, nKc 0 3, nKc 1 3, nKc 2 3, nKc 0 4, nKc 1 4, nKc 2 4, nKc 3 4]), (185, [nK34])]
def nH40' : List (Nat × Nat × rHt) := []
set_option maxRecDepth 100000 in
theorem nV40' : rChk 158 (rLk nL40) nHn (rLm nL40) (rHl nH40') nJ0 nOr0 (rTab nT40') 3000 125 nK40 = true := by decide +kernel
def nL24 : List (Nat × Nat × List (Option mI)) := [(82, 2, nC82)]
def nT24' : List (Nat × List rCo) := []
def nH24' : List (Nat × Nat × rHt) := [(82, 32, .inl ([(2, 1, 0, 0, 240, 0, 0)], [0], (0, 1), (0, 0, 0)))]
set_option maxRecDepth 100000 in
theorem nV24' : rChk 158 (rLk nL24) nHn (rLm nL24) (rHl nH24') nJ0 nOr0 (rTab nT24') 3000 82 nK24 = true := by decide +kernel
def nL23 : List (Nat × Nat × List (Option mI)) := [(81, 1, nC81)]
def nT23' : List (Nat × List rCo) := []
def nH23' : List (Nat × Nat × rHt) := [(81, 16, .inl ([(0, 167, 4, 0, 240, 0, 0)], [0], (0, 1), (0, 0, 0)))]
set_option maxRecDepth 100000 in
theorem nV23' : rChk 158 (rLk nL23) nHn (rLm nL23) (rHl nH23') nJ0 nOr0 (rTab nT23') 3000 81 nK23 = true := by decide +kernel
