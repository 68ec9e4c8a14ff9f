/-! THE KERNEL'S CHECKS OF THE CONTRACTS: printed by program -/
set_option maxRecDepth 100000 in
theorem nX98_1 : rPcs nF98 (rPiece 158 (rLk nL98) nHn (rLm nL98) (rHl nH98') nJ0 nOr0 (rTab nT98') 3000 10 89 nK98) 3 2 = true := by decide +kernel
def nL115 : List (Nat × Nat × List (Option mI)) := [(177, 9, nC177)]
def nT115' : List (Nat × List rCo) := [(74, [nK109]), (73, [nK108]), (146, [nK110])]
def nH115' : List (Nat × Nat × rHt) := []
set_option maxRecDepth 100000 in
theorem nV115' : rChk 158 (rLk nL115) nHn (rLm nL115) (rHl nH115') nJ0 nOr0 (rTab nT115') 3000 177 nK115 = true := by decide +kernel
def nL122 : List (Nat × Nat × List (Option mI)) := [(109, 5, nC109), (113, 2, nC113)]
def nT122' : List (Nat × List rCo) := [(168, [nK112]), (46, [nK113]), (169, [nK118]), (170, [nK119]), (171, [nK116]), (172, [nK117]), (173, [nK120])]
def nH122' : List (Nat × Nat × rHt) := []
set_option maxRecDepth 100000 in
theorem nV122' : rChk 158 (rLk nL122) nHn (rLm nL122) (rHl nH122') nJ0 nOr0 (rTab nT122') 3000 109 nK122 = true := by decide +kernel
def nL158 : List (Nat × Nat × List (Option mI)) := [(104, 4, nC104), (40, 1, nC40), (151, 3, nC151)]
def nT158' : List (Nat × List rCo) := [(152, [nK151]), (74, [nK109]), (46, [nK113]), (153, [nK157])]
def nH158' : List (Nat × Nat × rHt) := []
set_option maxRecDepth 100000 in
theorem nV158' : rChk 158 (rLk nL158) nHn (rLm nL158) (rHl nH158') nJ0 nOr0 (rTab nT158') 3000 104 nK158 = true := by decide +kernel
def nL69 : List (Nat × Nat × List (Option mI)) := [(125, 7, nC125), (183, 1, nC183), (217, 1, nC217), (184, 2, nC184), (218, 1, nC218), (219, 2, nC219)]
def nT69' : List (Nat × List rCo) := [(226, [nKc 0 2, nKc 1 2, nKc 0 3, nKc 1 3, nKc 2 3, nKc 0 4, nKc 1 4, nKc 2 4, nKc 3 4]), (185, [nK34])]
def nH69' : List (Nat × Nat × rHt) := []
set_option maxRecDepth 100000 in
theorem nV69' : rChk 158 (rLk nL69) nHn (rLm nL69) (rHl nH69') nJ0 nOr0 (rTab nT69') 3000 125 nK69 = true := by decide +kernel
def nL39 : List (Nat × Nat × List (Option mI)) := [(125, 7, nC125), (183, 1, nC183), (217, 1, nC217), (184, 2, nC184), (218, 1, nC218), (219, 2, nC219)]
def nT39' : List (Nat × List rCo) := [(226, [nKc 0 2, nKc 1 2, nKc 0 3, nKc 1 3, nKc 2 3, nKc 0 4, nKc 1 4, nKc 2 4, nKc 3 4]), (185, [nK34])]
def nH39' : List (Nat × Nat × rHt) := []
set_option maxRecDepth 100000 in
theorem nV39' : rChk 158 (rLk nL39) nHn (rLm nL39) (rHl nH39') nJ0 nOr0 (rTab nT39') 3000 125 nK39 = true := by decide +kernel
def nL13 : List (Nat × Nat × List (Option mI)) := [(161, 2, nC161), (197, 1, nC197)]
def nT13' : List (Nat × List rCo) := [(192, [nK3]), (76, [nK4]), (154, [nK1]), (207, [nK7])]
def nH13' : List (Nat × Nat × rHt) := []
set_option maxRecDepth 100000 in
theorem nV13' : rChk 158 (rLk nL13) nHn (rLm nL13) (rHl nH13') nJ0 nOr0 (rTab nT13') 3000 161 nK13 = true := by decide +kernel
def nL121 : List (Nat × Nat × List (Option mI)) := [(114, 3, nC114), (113, 2, nC113)]
def nT121' : List (Nat × List rCo) := [(46, [nK113]), (146, [nK110])]
def nH121' : List (Nat × Nat × rHt) := []
set_option maxRecDepth 100000 in
theorem nV121' : rChk 158 (rLk nL121) nHn (rLm nL121) (rHl nH121') nJ0 nOr0 (rTab nT121') 3000 114 nK121 = true := by decide +kernel
def nL113 : List (Nat × Nat × List (Option mI)) := [(46, 2, nC46), (36, 3, nC36)]
def nT113' : List (Nat × List rCo) := []
def nH113' : List (Nat × Nat × rHt) := []
set_option maxRecDepth 100000 in
theorem nV113' : rChk 158 (rLk nL113) nHn (rLm nL113) (rHl nH113') nJ0 nOr0 (rTab nT113') 3000 46 nK113 = true := by decide +kernel
