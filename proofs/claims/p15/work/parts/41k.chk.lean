/-! THE KERNEL'S CHECKS OF THE CONTRACTS: printed by program -/
set_option maxRecDepth 100000 in
theorem nU153_0 : rPcs nF153 (rPiece 158 (rLk nL153) nHn (rLm nL153) (rHl nH153') nJ0 nOr0 (rTab nT153') 3000 3 105 nK153) 0 38 = true := by decide +kernel
set_option maxRecDepth 100000 in
theorem nU159_0 : rPcs nF159 (rPiece 158 (rLk nL159) nHn (rLm nL159) (rHl nH159') nJ0 nOr0 (rTab nT159') 3000 3 98 nK159) 0 10 = true := by decide +kernel
set_option maxRecDepth 100000 in
theorem nU100_c : rCov nF100 10 = true := by decide +kernel
def nL146 : List (Nat × Nat × List (Option mI)) := [(142, 2, nC142)]
def nT146' : List (Nat × List rCo) := []
def nH146' : List (Nat × Nat × rHt) := []
set_option maxRecDepth 100000 in
theorem nV146' : rChk 158 (rLk nL146) nHn (rLm nL146) (rHl nH146') nJ0 nOr0 (rTab nT146') 3000 142 nK146 = true := by decide +kernel
def nL73 : List (Nat × Nat × List (Option mI)) := [(125, 7, nC125), (183, 1, nC183), (217, 1, nC217), (184, 2, nC184), (218, 1, nC218), (219, 2, nC219)]
def nT73' : List (Nat × List rCo) := [(226, [nKc 0 2, nKc 1 2, nKc 0 3, nKc 1 3, nKc 2 3, nKc 0 4, nKc 1 4, nKc 2 4, nKc 3 4]), (185, [nK34])]
def nH73' : List (Nat × Nat × rHt) := []
set_option maxRecDepth 100000 in
theorem nV73' : rChk 158 (rLk nL73) nHn (rLm nL73) (rHl nH73') nJ0 nOr0 (rTab nT73') 3000 125 nK73 = true := by decide +kernel
def nL59 : List (Nat × Nat × List (Option mI)) := [(125, 7, nC125), (183, 1, nC183), (217, 1, nC217), (184, 2, nC184), (218, 1, nC218), (219, 2, nC219)]
def nT59' : List (Nat × List rCo) := [(226, [nKc 0 2, nKc 1 2, nKc 0 3, nKc 1 3, nKc 2 3, nKc 0 4, nKc 1 4, nKc 2 4, nKc 3 4]), (185, [nK34])]
def nH59' : List (Nat × Nat × rHt) := []
set_option maxRecDepth 100000 in
theorem nV59' : rChk 158 (rLk nL59) nHn (rLm nL59) (rHl nH59') nJ0 nOr0 (rTab nT59') 3000 125 nK59 = true := by decide +kernel
def nL52 : List (Nat × Nat × List (Option mI)) := [(125, 7, nC125), (183, 1, nC183), (217, 1, nC217), (184, 2, nC184), (218, 1, nC218), (219, 2, nC219)]
def nT52' : List (Nat × List rCo) := [(226, [nKc 0 2, nKc 1 2, nKc 0 3, nKc 1 3, nKc 2 3, nKc 0 4, nKc 1 4, nKc 2 4, nKc 3 4]), (185, [nK34])]
def nH52' : List (Nat × Nat × rHt) := []
set_option maxRecDepth 100000 in
theorem nV52' : rChk 158 (rLk nL52) nHn (rLm nL52) (rHl nH52') nJ0 nOr0 (rTab nT52') 3000 125 nK52 = true := by decide +kernel
def nL14 : List (Nat × Nat × List (Option mI)) := [(162, 2, nC162), (197, 1, nC197), (131, 6, nC131), (190, 2, nC190), (138, 1, nC138), (191, 1, nC191), (130, 2, nC130)]
def nT14' : List (Nat × List rCo) := [(192, [nK3]), (76, [nK4])]
def nH14' : List (Nat × Nat × rHt) := []
set_option maxRecDepth 100000 in
theorem nV14' : rChk 158 (rLk nL14) nHn (rLm nL14) (rHl nH14') nJ0 nOr0 (rTab nT14') 3000 162 nK14 = true := by decide +kernel
def nL144 : List (Nat × Nat × List (Option mI)) := [(195, 1, nC195)]
def nT144' : List (Nat × List rCo) := []
def nH144' : List (Nat × Nat × rHt) := []
set_option maxRecDepth 100000 in
theorem nV144' : rChk 158 (rLk nL144) nHn (rLm nL144) (rHl nH144') nJ0 nOr0 (rTab nT144') 3000 195 nK144 = true := by decide +kernel
def nL154 : List (Nat × Nat × List (Option mI)) := [(102, 3, nC102)]
def nT154' : List (Nat × List rCo) := [(105, [nK152, nK153])]
def nH154' : List (Nat × Nat × rHt) := []
set_option maxRecDepth 100000 in
theorem nV154' : rChk 158 (rLk nL154) nHn (rLm nL154) (rHl nH154') nJ0 nOr0 (rTab nT154') 3000 102 nK154 = true := by decide +kernel
def nL110 : List (Nat × Nat × List (Option mI)) := [(146, 2, nC146)]
def nT110' : List (Nat × List rCo) := []
def nH110' : List (Nat × Nat × rHt) := []
set_option maxRecDepth 100000 in
theorem nV110' : rChk 158 (rLk nL110) nHn (rLm nL110) (rHl nH110') nJ0 nOr0 (rTab nT110') 3000 146 nK110 = true := by decide +kernel
