/-! THE KERNEL'S CHECKS OF THE CONTRACTS: printed by program -/
set_option maxRecDepth 100000 in
theorem nU160_0 : rPcs nF160 (rPiece 158 (rLk nL160) nHn (rLm nL160) (rHl nH160') nJ0 nOr0 (rTab nT160') 3000 11 67 nK160) 0 2 = true := by decide +kernel
set_option maxRecDepth 100000 in
theorem nU150_1 : rPcs nF150 (rPiece 158 (rLk nL150) nHn (rLm nL150) (rHl nH150') nJ0 nOr0 (rTab nT150') 3000 7 149 nK150) 1 1 = true := by decide +kernel
def nL157 : List (Nat × Nat × List (Option mI)) := [(153, 2, nC153), (151, 3, nC151), (40, 1, nC40)]
def nT157' : List (Nat × List rCo) := [(101, [nK111]), (102, [nK154]), (46, [nK113]), (105, [nK152, nK153])]
def nH157' : List (Nat × Nat × rHt) := [(153, 2, .inl ([(2, 1, 0, 0, 30, 0, 0), (0, 183, 24, -2147483648, 2147483647, 0, 0)], [0], (0, 1), (0, 0, 0))), (153, 65, .inl ([(2, 1, 0, 0, 20, 0, 0), (0, 183, 24, -2147483648, 2147483647, 0, 0)], [0], (0, 1), (0, 0, 0))), (153, 129, .inl ([(2, 1, 0, 0, 60, 0, 0), (0, 183, 23, 0, 1, 0, 0)], [0], (0, 1), (0, 0, 0)))]
set_option maxRecDepth 100000 in
theorem nV157' : rChk 158 (rLk nL157) nHn (rLm nL157) (rHl nH157') nJ0 nOr0 (rTab nT157') 3000 153 nK157 = true := by decide +kernel
def nL127 : List (Nat × Nat × List (Option mI)) := [(180, 4, nC180), (113, 2, nC113), (176, 4, nC176)]
def nT127' : List (Nat × List rCo) := [(46, [nK113])]
def nH127' : List (Nat × Nat × rHt) := []
set_option maxRecDepth 100000 in
theorem nV127' : rChk 158 (rLk nL127) nHn (rLm nL127) (rHl nH127') nJ0 nOr0 (rTab nT127') 3000 180 nK127 = true := by decide +kernel
def nL75 : List (Nat × Nat × List (Option mI)) := [(125, 7, nC125), (183, 1, nC183), (217, 1, nC217), (184, 2, nC184), (218, 1, nC218), (219, 2, nC219)]
def nT75' : List (Nat × List rCo) := [(226, [nKc 0 2, nKc 1 2, nKc 0 3, nKc 1 3, nKc 2 3, nKc 0 4, nKc 1 4, nKc 2 4, nKc 3 4]), (185, [nK34])]
def nH75' : List (Nat × Nat × rHt) := []
set_option maxRecDepth 100000 in
theorem nV75' : rChk 158 (rLk nL75) nHn (rLm nL75) (rHl nH75') nJ0 nOr0 (rTab nT75') 3000 125 nK75 = true := by decide +kernel
def nL71 : List (Nat × Nat × List (Option mI)) := [(125, 7, nC125), (183, 1, nC183), (217, 1, nC217), (184, 2, nC184), (218, 1, nC218), (219, 2, nC219)]
def nT71' : List (Nat × List rCo) := [(226, [nKc 0 2, nKc 1 2, nKc 0 3, nKc 1 3, nKc 2 3, nKc 0 4, nKc 1 4, nKc 2 4, nKc 3 4]), (185, [nK34])]
def nH71' : List (Nat × Nat × rHt) := []
set_option maxRecDepth 100000 in
theorem nV71' : rChk 158 (rLk nL71) nHn (rLm nL71) (rHl nH71') nJ0 nOr0 (rTab nT71') 3000 125 nK71 = true := by decide +kernel
def nL61 : List (Nat × Nat × List (Option mI)) := [(125, 7, nC125), (183, 1, nC183), (217, 1, nC217), (184, 2, nC184), (218, 1, nC218), (219, 2, nC219)]
def nT61' : List (Nat × List rCo) := [(226, [nKc 0 2, nKc 1 2, nKc 0 3, nKc 1 3, nKc 2 3, nKc 0 4, nKc 1 4, nKc 2 4, nKc 3 4]), (185, [nK34])]
def nH61' : List (Nat × Nat × rHt) := []
set_option maxRecDepth 100000 in
theorem nV61' : rChk 158 (rLk nL61) nHn (rLm nL61) (rHl nH61') nJ0 nOr0 (rTab nT61') 3000 125 nK61 = true := by decide +kernel
def nL28 : List (Nat × Nat × List (Option mI)) := []
def nT28' : List (Nat × List rCo) := [(120, [nK27])]
def nH28' : List (Nat × Nat × rHt) := []
set_option maxRecDepth 100000 in
theorem nV28' : rChk 158 (rLk nL28) nHn (rLm nL28) (rHl nH28') nJ0 nOr0 (rTab nT28') 3000 120 nK28 = true := by decide +kernel
def nL87 : List (Nat × Nat × List (Option mI)) := [(91, 6, nC91), (138, 1, nC138)]
def nT87' : List (Nat × List rCo) := [(131, [nK86])]
def nH87' : List (Nat × Nat × rHt) := [(91, 2, .inl ([(2, 3, 0, 0, 60, 0, 0)], [0, 1, 2], (0, 1), (0, 0, 0)))]
set_option maxRecDepth 100000 in
theorem nV87' : rChk 158 (rLk nL87) nHn (rLm nL87) (rHl nH87') nJ0 nOr0 (rTab nT87') 3000 91 nK87 = true := by decide +kernel
def nL29 : List (Nat × Nat × List (Option mI)) := [(127, 2, nC127)]
def nT29' : List (Nat × List rCo) := []
def nH29' : List (Nat × Nat × rHt) := []
set_option maxRecDepth 100000 in
theorem nV29' : rChk 158 (rLk nL29) nHn (rLm nL29) (rHl nH29') nJ0 nOr0 (rTab nT29') 3000 127 nK29 = true := by decide +kernel
