/-! THE KERNEL'S CHECKS OF THE CONTRACTS: printed by program -/
set_option maxRecDepth 100000 in
theorem nV159_2 : rPcs nF159 (rPiece 158 (rLk nL159) nHn (rLm nL159) (rHl nH159') nJ0 nOr0 (rTab nT159') 3000 3 98 nK159) 12 3 = true := by decide +kernel
set_option maxRecDepth 100000 in
theorem nX98_0 : rPcs nF98 (rPiece 158 (rLk nL98) nHn (rLm nL98) (rHl nH98') nJ0 nOr0 (rTab nT98') 3000 10 89 nK98) 0 3 = true := by decide +kernel
set_option maxRecDepth 100000 in
theorem nV153_c : rCov nF153 60 = true := by decide +kernel
def nL127 : List (Nat × Nat × List (Option mI)) := [(180, 4, nC180), (113, 2, nC113), (176, 4, nC176)]
def nT127' : List (Nat × List rCo) := [(46, [nK113])]
def nH127' : List (Nat × Nat × rHt) := []
set_option maxRecDepth 100000 in
theorem nV127' : rChk 158 (rLk nL127) nHn (rLm nL127) (rHl nH127') nJ0 nOr0 (rTab nT127') 3000 180 nK127 = true := by decide +kernel
def nL71 : List (Nat × Nat × List (Option mI)) := [(125, 7, nC125), (183, 1, nC183), (217, 1, nC217), (184, 2, nC184), (218, 1, nC218), (219, 2, nC219)]
def nT71' : List (Nat × List rCo) := [(226, [nKc 0 2, nKc 1 2, nKc 0 3, nKc 1 3, nKc 2 3, nKc 0 4, nKc 1 4, nKc 2 4, nKc 3 4]), (185, [nK34])]
def nH71' : List (Nat × Nat × rHt) := []
set_option maxRecDepth 100000 in
theorem nV71' : rChk 158 (rLk nL71) nHn (rLm nL71) (rHl nH71') nJ0 nOr0 (rTab nT71') 3000 125 nK71 = true := by decide +kernel
def nL83 : List (Nat × Nat × List (Option mI)) := [(125, 7, nC125), (183, 1, nC183), (217, 1, nC217), (184, 2, nC184), (218, 1, nC218), (219, 2, nC219)]
def nT83' : List (Nat × List rCo) := [(226, [nKc 0 2, nKc 1 2, nKc 0 3, nKc 1 3, nKc 2 3, nKc 0 4, nKc 1 4, nKc 2 4, nKc 3 4]), (185, [nK34])]
def nH83' : List (Nat × Nat × rHt) := []
set_option maxRecDepth 100000 in
theorem nV83' : rChk 158 (rLk nL83) nHn (rLm nL83) (rHl nH83') nJ0 nOr0 (rTab nT83') 3000 125 nK83 = true := by decide +kernel
def nL58 : List (Nat × Nat × List (Option mI)) := [(125, 7, nC125), (183, 1, nC183), (217, 1, nC217), (184, 2, nC184), (218, 1, nC218), (219, 2, nC219)]
def nT58' : List (Nat × List rCo) := [(226, [nKc 0 2, nKc 1 2, nKc 0 3, nKc 1 3, nKc 2 3, nKc 0 4, nKc 1 4, nKc 2 4, nKc 3 4]), (185, [nK34])]
def nH58' : List (Nat × Nat × rHt) := []
set_option maxRecDepth 100000 in
theorem nV58' : rChk 158 (rLk nL58) nHn (rLm nL58) (rHl nH58') nJ0 nOr0 (rTab nT58') 3000 125 nK58 = true := by decide +kernel
def nL66 : List (Nat × Nat × List (Option mI)) := [(125, 7, nC125), (183, 1, nC183), (217, 1, nC217), (184, 2, nC184), (218, 1, nC218), (219, 2, nC219)]
def nT66' : List (Nat × List rCo) := [(226, [nKc 0 2, nKc 1 2, nKc 0 3, nKc 1 3, nKc 2 3, nKc 0 4, nKc 1 4, nKc 2 4, nKc 3 4]), (185, [nK34])]
def nH66' : List (Nat × Nat × rHt) := []
set_option maxRecDepth 100000 in
theorem nV66' : rChk 158 (rLk nL66) nHn (rLm nL66) (rHl nH66') nJ0 nOr0 (rTab nT66') 3000 125 nK66 = true := by decide +kernel
def nL25 : List (Nat × Nat × List (Option mI)) := [(124, 1, nC124)]
def nT25' : List (Nat × List rCo) := []
def nH25' : List (Nat × Nat × rHt) := [(124, 0, .inl ([(0, 167, 2, 0, 240, 0, 0)], [0], (0, 1), (0, 0, 0)))]
set_option maxRecDepth 100000 in
theorem nV25' : rChk 158 (rLk nL25) nHn (rLm nL25) (rHl nH25') nJ0 nOr0 (rTab nT25') 3000 124 nK25 = true := by decide +kernel
