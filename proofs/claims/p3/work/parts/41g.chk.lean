/-! THE KERNEL'S CHECKS OF THE CONTRACTS: printed by program -/
set_option maxRecDepth 100000 in
theorem nV12_1 : rPcs nF12 (rPiece 158 (rLk nL12) nHn (rLm nL12) (rHl nH12') nJ0 nOr0 (rTab nT12') 3000 4 160 nK12) 29 28 = true := by decide +kernel
def nL115 : List (Nat × Nat × List (Option mI)) := [(177, 9, nC177)]
def nT115' : List (Nat × List rCo) := [(74, [nK109]), (73, [nK108]), (146, [nK110])]
def nH115' : List (Nat × Nat × rHt) := []
set_option maxRecDepth 100000 in
theorem nV115' : rChk 158 (rLk nL115) nHn (rLm nL115) (rHl nH115') nJ0 nOr0 (rTab nT115') 3000 177 nK115 = true := by decide +kernel
def nL89 : List (Nat × Nat × List (Option mI)) := [(83, 1, nC83), (119, 1, nC119), (121, 1, nC121), (122, 1, nC122), (123, 2, nC123)]
def nT89' : List (Nat × List rCo) := [(118, [nK26]), (120, [nK27]), (182, [nK33])]
def nH89' : List (Nat × Nat × rHt) := []
set_option maxRecDepth 100000 in
theorem nV89' : rChk 158 (rLk nL89) nHn (rLm nL89) (rHl nH89') nJ0 nOr0 (rTab nT89') 3000 83 nK89 = true := by decide +kernel
def nL95 : List (Nat × Nat × List (Option mI)) := [(126, 4, nC126), (186, 1, nC186), (187, 2, nC187)]
def nT95' : List (Nat × List rCo) := [(127, [nK29]), (134, [nK93]), (120, [nK28]), (188, [nK94]), (189, [nK92]), (86, [nK2])]
def nH95' : List (Nat × Nat × rHt) := []
set_option maxRecDepth 100000 in
theorem nV95' : rChk 158 (rLk nL95) nHn (rLm nL95) (rHl nH95') nJ0 nOr0 (rTab nT95') 3000 126 nK95 = true := by decide +kernel
def nL46 : List (Nat × Nat × List (Option mI)) := [(125, 7, nC125), (183, 1, nC183), (217, 1, nC217), (184, 2, nC184), (218, 1, nC218), (219, 2, nC219)]
def nT46' : List (Nat × List rCo) := [(226, [nKc 0 2, nKc 1 2, nKc 0 3, nKc 1 3, nKc 2 3, nKc 0 4, nKc 1 4, nKc 2 4, nKc 3 4]), (185, [nK34])]
def nH46' : List (Nat × Nat × rHt) := []
set_option maxRecDepth 100000 in
theorem nV46' : rChk 158 (rLk nL46) nHn (rLm nL46) (rHl nH46') nJ0 nOr0 (rTab nT46') 3000 125 nK46 = true := by decide +kernel
def nL35 : List (Nat × Nat × List (Option mI)) := [(125, 7, nC125), (183, 1, nC183), (217, 1, nC217), (184, 2, nC184), (218, 1, nC218), (219, 2, nC219)]
def nT35' : List (Nat × List rCo) := [(226, [nKc 0 2, nKc 1 2, nKc 0 3, nKc 1 3, nKc 2 3, nKc 0 4, nKc 1 4, nKc 2 4, nKc 3 4]), (185, [nK34])]
def nH35' : List (Nat × Nat × rHt) := []
set_option maxRecDepth 100000 in
theorem nV35' : rChk 158 (rLk nL35) nHn (rLm nL35) (rHl nH35') nJ0 nOr0 (rTab nT35') 3000 125 nK35 = true := by decide +kernel
def nL61 : List (Nat × Nat × List (Option mI)) := [(125, 7, nC125), (183, 1, nC183), (217, 1, nC217), (184, 2, nC184), (218, 1, nC218), (219, 2, nC219)]
def nT61' : List (Nat × List rCo) := [(226, [nKc 0 2, nKc 1 2, nKc 0 3, nKc 1 3, nKc 2 3, nKc 0 4, nKc 1 4, nKc 2 4, nKc 3 4]), (185, [nK34])]
def nH61' : List (Nat × Nat × rHt) := []
set_option maxRecDepth 100000 in
theorem nV61' : rChk 158 (rLk nL61) nHn (rLm nL61) (rHl nH61') nJ0 nOr0 (rTab nT61') 3000 125 nK61 = true := by decide +kernel
def nL114 : List (Nat × Nat × List (Option mI)) := [(181, 3, nC181)]
def nT114' : List (Nat × List rCo) := []
def nH114' : List (Nat × Nat × rHt) := []
set_option maxRecDepth 100000 in
theorem nV114' : rChk 158 (rLk nL114) nHn (rLm nL114) (rHl nH114') nJ0 nOr0 (rTab nT114') 3000 181 nK114 = true := by decide +kernel
def nL17 : List (Nat × Nat × List (Option mI)) := [(165, 1, nC165), (209, 3, nC209), (210, 1, nC210)]
def nT17' : List (Nat × List rCo) := [(136, [nK0]), (212, [nK5]), (76, [nK4]), (86, [nK2])]
def nH17' : List (Nat × Nat × rHt) := []
set_option maxRecDepth 100000 in
theorem nV17' : rChk 158 (rLk nL17) nHn (rLm nL17) (rHl nH17') nJ0 nOr0 (rTab nT17') 3000 165 nK17 = true := by decide +kernel
set_option maxRecDepth 100000 in
theorem nV155_c : rCov nF155 26 = true := by decide +kernel
def nL109 : List (Nat × Nat × List (Option mI)) := [(74, 1, nC74), (70, 1, nC70)]
def nT109' : List (Nat × List rCo) := [(73, [nK108])]
def nH109' : List (Nat × Nat × rHt) := []
set_option maxRecDepth 100000 in
theorem nV109' : rChk 158 (rLk nL109) nHn (rLm nL109) (rHl nH109') nJ0 nOr0 (rTab nT109') 3000 74 nK109 = true := by decide +kernel
def nL110 : List (Nat × Nat × List (Option mI)) := [(146, 2, nC146)]
def nT110' : List (Nat × List rCo) := []
def nH110' : List (Nat × Nat × rHt) := []
set_option maxRecDepth 100000 in
theorem nV110' : rChk 158 (rLk nL110) nHn (rLm nL110) (rHl nH110') nJ0 nOr0 (rTab nT110') 3000 146 nK110 = true := by decide +kernel
