/-! THE KERNEL'S CHECKS OF THE CONTRACTS: printed by program -/
set_option maxRecDepth 100000 in
theorem nU155_4 : rPcs nF155 (rPiece 158 (rLk nL155) nHn (rLm nL155) (rHl nH155') nJ0 nOr0 (rTab nT155') 3000 9 147 nK155) 8 4 = true := by decide +kernel
set_option maxRecDepth 100000 in
theorem nU155_2 : rPcs nF155 (rPiece 158 (rLk nL155) nHn (rLm nL155) (rHl nH155') nJ0 nOr0 (rTab nT155') 3000 9 147 nK155) 6 1 = true := by decide +kernel
def nL89 : List (Nat × Nat × List (Option mI)) := [(83, 1, nC83), (119, 1, nC119), (121, 1, nC121), (122, 1, nC122), (123, 2, nC123)]
def nT89' : List (Nat × List rCo) := [(118, [nK26]), (120, [nK27]), (182, [nK33])]
def nH89' : List (Nat × Nat × rHt) := []
set_option maxRecDepth 100000 in
theorem nV89' : rChk 158 (rLk nL89) nHn (rLm nL89) (rHl nH89') nJ0 nOr0 (rTab nT89') 3000 83 nK89 = true := by decide +kernel
def nL129 : List (Nat × Nat × List (Option mI)) := [(116, 4, nC116), (113, 2, nC113)]
def nT129' : List (Nat × List rCo) := [(114, [nK121])]
def nH129' : List (Nat × Nat × rHt) := []
set_option maxRecDepth 100000 in
theorem nV129' : rChk 158 (rLk nL129) nHn (rLm nL129) (rHl nH129') nJ0 nOr0 (rTab nT129') 3000 116 nK129 = true := by decide +kernel
def nL123 : List (Nat × Nat × List (Option mI)) := [(110, 5, nC110), (113, 2, nC113), (174, 2, nC174), (70, 1, nC70), (175, 6, nC175)]
def nT123' : List (Nat × List rCo) := [(73, [nK108]), (146, [nK110])]
def nH123' : List (Nat × Nat × rHt) := []
set_option maxRecDepth 100000 in
theorem nV123' : rChk 158 (rLk nL123) nHn (rLm nL123) (rHl nH123') nJ0 nOr0 (rTab nT123') 3000 110 nK123 = true := by decide +kernel
def nL76 : List (Nat × Nat × List (Option mI)) := [(125, 7, nC125), (183, 1, nC183), (217, 1, nC217), (184, 2, nC184), (218, 1, nC218), (219, 2, nC219)]
def nT76' : List (Nat × List rCo) := [(226, [nKc 0 2, nKc 1 2, nKc 0 3, nKc 1 3, nKc 2 3, nKc 0 4, nKc 1 4, nKc 2 4, nKc 3 4]), (185, [nK34])]
def nH76' : List (Nat × Nat × rHt) := []
set_option maxRecDepth 100000 in
theorem nV76' : rChk 158 (rLk nL76) nHn (rLm nL76) (rHl nH76') nJ0 nOr0 (rTab nT76') 3000 125 nK76 = true := by decide +kernel
def nL50 : List (Nat × Nat × List (Option mI)) := [(125, 7, nC125), (183, 1, nC183), (217, 1, nC217), (184, 2, nC184), (218, 1, nC218), (219, 2, nC219)]
def nT50' : List (Nat × List rCo) := [(226, [nKc 0 2, nKc 1 2, nKc 0 3, nKc 1 3, nKc 2 3, nKc 0 4, nKc 1 4, nKc 2 4, nKc 3 4]), (185, [nK34])]
def nH50' : List (Nat × Nat × rHt) := []
set_option maxRecDepth 100000 in
theorem nV50' : rChk 158 (rLk nL50) nHn (rLm nL50) (rHl nH50') nJ0 nOr0 (rTab nT50') 3000 125 nK50 = true := by decide +kernel
def nL142 : List (Nat × Nat × List (Option mI)) := [(100, 4, nC100), (40, 1, nC40)]
def nT142' : List (Nat × List rCo) := [(140, [nK138]), (145, [nK141])]
def nH142' : List (Nat × Nat × rHt) := []
set_option maxRecDepth 100000 in
theorem nV142' : rChk 158 (rLk nL142) nHn (rLm nL142) (rHl nH142') nJ0 nOr0 (rTab nT142') 3000 100 nK142 = true := by decide +kernel
def nL97 : List (Nat × Nat × List (Option mI)) := [(88, 1, nC88)]
def nT97' : List (Nat × List rCo) := []
def nH97' : List (Nat × Nat × rHt) := []
set_option maxRecDepth 100000 in
theorem nV97' : rChk 158 (rLk nL97) nHn (rLm nL97) (rHl nH97') nJ0 nOr0 (rTab nT97') 3000 88 nK97 = true := by decide +kernel
def nL106 : List (Nat × Nat × List (Option mI)) := [(58, 1, nC58), (80, 4, nC80)]
def nT106' : List (Nat × List rCo) := []
def nH106' : List (Nat × Nat × rHt) := [(80, 5, .inl ([(2, 2, 0, 0, 300, 0, 0)], [0, 1, 3], (0, 1), (0, 0, 0)))]
set_option maxRecDepth 100000 in
theorem nV106' : rChk 158 (rLk nL106) nHn (rLm nL106) (rHl nH106') nJ0 nOr0 (rTab nT106') 3000 58 nK106 = true := by decide +kernel
def nL0 : List (Nat × Nat × List (Option mI)) := [(136, 1, nC136)]
def nT0' : List (Nat × List rCo) := []
def nH0' : List (Nat × Nat × rHt) := []
set_option maxRecDepth 100000 in
theorem nV0' : rChk 158 (rLk nL0) nHn (rLm nL0) (rHl nH0') nJ0 nOr0 (rTab nT0') 3000 136 nK0 = true := by decide +kernel
