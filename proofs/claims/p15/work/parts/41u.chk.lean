/-! THE KERNEL'S CHECKS OF THE CONTRACTS: printed by program -/
set_option maxRecDepth 100000 in
theorem nU155_0 : rPcs nF155 (rPiece 158 (rLk nL155) nHn (rLm nL155) (rHl nH155') nJ0 nOr0 (rTab nT155') 3000 9 147 nK155) 0 3 = true := by decide +kernel
set_option maxRecDepth 100000 in
theorem nU155_6 : rPcs nF155 (rPiece 158 (rLk nL155) nHn (rLm nL155) (rHl nH155') nJ0 nOr0 (rTab nT155') 3000 9 147 nK155) 13 3 = true := by decide +kernel
set_option maxRecDepth 100000 in
theorem nU160_1 : rPcs nF160 (rPiece 158 (rLk nL160) nHn (rLm nL160) (rHl nH160') nJ0 nOr0 (rTab nT160') 3000 11 67 nK160) 2 1 = true := by decide +kernel
def nL15 : List (Nat × Nat × List (Option mI)) := [(163, 3, nC163), (155, 1, nC155), (208, 5, nC208), (224, 5, nC224), (228, 3, nC228), (229, 4, nC229), (206, 2, nC206), (230, 2, nC230), (231, 2, nC231), (156, 3, nC156), (209, 3, nC209), (210, 1, nC210)]
def nT15' : List (Nat × List rCo) := [(76, [nK4]), (86, [nK2])]
def nH15' : List (Nat × Nat × rHt) := []
set_option maxRecDepth 100000 in
theorem nV15' : rChk 158 (rLk nL15) nHn (rLm nL15) (rHl nH15') nJ0 nOr0 (rTab nT15') 3000 163 nK15 = true := by decide +kernel
def nL20 : List (Nat × Nat × List (Option mI)) := [(108, 1, nC108)]
def nT20' : List (Nat × List rCo) := [(157, [nK9]), (158, [nK10]), (159, [nK11]), (160, [nK12]), (161, [nK13]), (162, [nK14]), (163, [nK15]), (164, [nK16]), (165, [nK17]), (166, [nK18]), (167, [nK19])]
def nH20' : List (Nat × Nat × rHt) := []
set_option maxRecDepth 100000 in
theorem nV20' : rChk 158 (rLk nL20) nHn (rLm nL20) (rHl nH20') nJ0 nOr0 (rTab nT20') 3000 108 nK20 = true := by decide +kernel
def nL49 : List (Nat × Nat × List (Option mI)) := [(125, 7, nC125), (183, 1, nC183), (217, 1, nC217), (184, 2, nC184), (218, 1, nC218), (219, 2, nC219)]
def nT49' : List (Nat × List rCo) := [(226, [nKc 0 2, nKc 1 2, nKc 0 3, nKc 1 3, nKc 2 3, nKc 0 4, nKc 1 4, nKc 2 4, nKc 3 4]), (185, [nK34])]
def nH49' : List (Nat × Nat × rHt) := []
set_option maxRecDepth 100000 in
theorem nV49' : rChk 158 (rLk nL49) nHn (rLm nL49) (rHl nH49') nJ0 nOr0 (rTab nT49') 3000 125 nK49 = true := by decide +kernel
def nL83 : List (Nat × Nat × List (Option mI)) := [(125, 7, nC125), (183, 1, nC183), (217, 1, nC217), (184, 2, nC184), (218, 1, nC218), (219, 2, nC219)]
def nT83' : List (Nat × List rCo) := [(226, [nKc 0 2, nKc 1 2, nKc 0 3, nKc 1 3, nKc 2 3, nKc 0 4, nKc 1 4, nKc 2 4, nKc 3 4]), (185, [nK34])]
def nH83' : List (Nat × Nat × rHt) := []
set_option maxRecDepth 100000 in
theorem nV83' : rChk 158 (rLk nL83) nHn (rLm nL83) (rHl nH83') nJ0 nOr0 (rTab nT83') 3000 125 nK83 = true := by decide +kernel
def nL39 : List (Nat × Nat × List (Option mI)) := [(125, 7, nC125), (183, 1, nC183), (217, 1, nC217), (184, 2, nC184), (218, 1, nC218), (219, 2, nC219)]
def nT39' : List (Nat × List rCo) := [(226, [nKc 0 2, nKc 1 2, nKc 0 3, nKc 1 3, nKc 2 3, nKc 0 4, nKc 1 4, nKc 2 4, nKc 3 4]), (185, [nK34])]
def nH39' : List (Nat × Nat × rHt) := []
set_option maxRecDepth 100000 in
theorem nV39' : rChk 158 (rLk nL39) nHn (rLm nL39) (rHl nH39') nJ0 nOr0 (rTab nT39') 3000 125 nK39 = true := by decide +kernel
def nL162 : List (Nat × Nat × List (Option mI)) := [(39, 2, nC39)]
def nT162' : List (Nat × List rCo) := []
def nH162' : List (Nat × Nat × rHt) := [(39, 53, .inl ([(2, 1, 0, 0, 200, 0, 0)], [0], (0, 1), (0, 0, 0))), (39, 73, .inr (.inr 3))]
set_option maxRecDepth 100000 in
theorem nV162' : rChk 158 (rLk nL162) nHn (rLm nL162) (rHl nH162') nJ0 nOr0 (rTab nT162') 3000 39 nK162 = true := by decide +kernel
def nL23 : List (Nat × Nat × List (Option mI)) := [(81, 1, nC81)]
def nT23' : List (Nat × List rCo) := []
def nH23' : List (Nat × Nat × rHt) := [(81, 16, .inl ([(0, 167, 4, 0, 240, 0, 0)], [0], (0, 1), (0, 0, 0)))]
set_option maxRecDepth 100000 in
theorem nV23' : rChk 158 (rLk nL23) nHn (rLm nL23) (rHl nH23') nJ0 nOr0 (rTab nT23') 3000 81 nK23 = true := by decide +kernel
def nL109 : List (Nat × Nat × List (Option mI)) := [(74, 1, nC74), (70, 1, nC70)]
def nT109' : List (Nat × List rCo) := [(73, [nK108])]
def nH109' : List (Nat × Nat × rHt) := []
set_option maxRecDepth 100000 in
theorem nV109' : rChk 158 (rLk nL109) nHn (rLm nL109) (rHl nH109') nJ0 nOr0 (rTab nT109') 3000 74 nK109 = true := by decide +kernel
