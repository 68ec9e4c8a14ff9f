/-! THE KERNEL'S CHECKS OF THE CONTRACTS: printed by program -/
set_option maxRecDepth 100000 in
theorem nV156_0 : rPcs nF156 (rPiece 158 (rLk nL156) nHn (rLm nL156) (rHl nH156') nJ0 nOr0 (rTab nT156') 3000 10 103 nK156) 0 2 = true := by decide +kernel
set_option maxRecDepth 100000 in
theorem nV155_3 : rPcs nF155 (rPiece 158 (rLk nL155) nHn (rLm nL155) (rHl nH155') nJ0 nOr0 (rTab nT155') 3000 9 147 nK155) 7 1 = true := by decide +kernel
set_option maxRecDepth 100000 in
theorem nV100_c : rCov nF100 10 = true := by decide +kernel
def nL126 : List (Nat × Nat × List (Option mI)) := [(179, 4, nC179), (113, 2, nC113), (176, 4, nC176)]
def nT126' : List (Nat × List rCo) := [(46, [nK113])]
def nH126' : List (Nat × Nat × rHt) := [(179, 152, .inl ([(2, 3, 0, 0, 20, 0, 0)], [0, 1, 2], (0, 1), (0, 0, 0)))]
set_option maxRecDepth 100000 in
theorem nV126' : rChk 158 (rLk nL126) nHn (rLm nL126) (rHl nH126') nJ0 nOr0 (rTab nT126') 3000 179 nK126 = true := by decide +kernel
def nL78 : List (Nat × Nat × List (Option mI)) := [(125, 7, nC125), (183, 1, nC183), (217, 1, nC217), (184, 2, nC184), (218, 1, nC218), (219, 2, nC219)]
def nT78' : List (Nat × List rCo) := [(226, [nKc 0 2, nKc 1 2, nKc 0 3, nKc 1 3, nKc 2 3, nKc 0 4, nKc 1 4, nKc 2 4, nKc 3 4]), (185, [nK34])]
def nH78' : List (Nat × Nat × rHt) := []
set_option maxRecDepth 100000 in
theorem nV78' : rChk 158 (rLk nL78) nHn (rLm nL78) (rHl nH78') nJ0 nOr0 (rTab nT78') 3000 125 nK78 = true := by decide +kernel
def nL46 : List (Nat × Nat × List (Option mI)) := [(125, 7, nC125), (183, 1, nC183), (217, 1, nC217), (184, 2, nC184), (218, 1, nC218), (219, 2, nC219)]
def nT46' : List (Nat × List rCo) := [(226, [nKc 0 2, nKc 1 2, nKc 0 3, nKc 1 3, nKc 2 3, nKc 0 4, nKc 1 4, nKc 2 4, nKc 3 4]), (185, [nK34])]
def nH46' : List (Nat × Nat × rHt) := []
set_option maxRecDepth 100000 in
theorem nV46' : rChk 158 (rLk nL46) nHn (rLm nL46) (rHl nH46') nJ0 nOr0 (rTab nT46') 3000 125 nK46 = true := by decide +kernel
def nL28 : List (Nat × Nat × List (Option mI)) := []
def nT28' : List (Nat × List rCo) := [(120, [nK27])]
def nH28' : List (Nat × Nat × rHt) := []
set_option maxRecDepth 100000 in
theorem nV28' : rChk 158 (rLk nL28) nHn (rLm nL28) (rHl nH28') nJ0 nOr0 (rTab nT28') 3000 120 nK28 = true := by decide +kernel
def nL104 : List (Nat × Nat × List (Option mI)) := [(61, 1, nC61), (95, 2, nC95)]
def nT104' : List (Nat × List rCo) := [(92, [nK101]), (93, [nK102]), (94, [nK103])]
def nH104' : List (Nat × Nat × rHt) := []
set_option maxRecDepth 100000 in
theorem nV104' : rChk 158 (rLk nL104) nHn (rLm nL104) (rHl nH104') nJ0 nOr0 (rTab nT104') 3000 61 nK104 = true := by decide +kernel
def nL26 : List (Nat × Nat × List (Option mI)) := [(118, 1, nC118)]
def nT26' : List (Nat × List rCo) := []
def nH26' : List (Nat × Nat × rHt) := [(118, 8, .inl ([(0, 167, 5, 0, 240, 0, 0)], [0], (0, 1), (0, 0, 0)))]
set_option maxRecDepth 100000 in
theorem nV26' : rChk 158 (rLk nL26) nHn (rLm nL26) (rHl nH26') nJ0 nOr0 (rTab nT26') 3000 118 nK26 = true := by decide +kernel
