/-! THE KERNEL'S CHECKS OF THE CONTRACTS: printed by program -/
set_option maxRecDepth 100000 in
theorem nU85_3 : rPcs nF85 (rPiece 158 (rLk nL85) nHn (rLm nL85) (rHl nH85') nJ0 nOr0 (rTab nT85') 3000 8 84 nK85) 78 23 = true := by decide +kernel
set_option maxRecDepth 100000 in
theorem nU159_3 : rPcs nF159 (rPiece 158 (rLk nL159) nHn (rLm nL159) (rHl nH159') nJ0 nOr0 (rTab nT159') 3000 3 98 nK159) 13 3 = true := by decide +kernel
def nL131 : List (Nat × Nat × List (Option mI)) := [(75, 5, nC75), (36, 3, nC36), (71, 1, nC71), (113, 2, nC113), (72, 2, nC72)]
def nT131' : List (Nat × List rCo) := [(109, [nK122]), (110, [nK123]), (111, [nK124]), (112, [nK125]), (114, [nK121]), (115, [nK128]), (116, [nK129]), (117, [nK130])]
def nH131' : List (Nat × Nat × rHt) := []
set_option maxRecDepth 100000 in
theorem nV131' : rChk 158 (rLk nL131) nHn (rLm nL131) (rHl nH131') nJ0 nOr0 (rTab nT131') 3000 75 nK131 = true := by decide +kernel
def nL145 : List (Nat × Nat × List (Option mI)) := [(141, 2, nC141)]
def nT145' : List (Nat × List rCo) := []
def nH145' : List (Nat × Nat × rHt) := []
set_option maxRecDepth 100000 in
theorem nV145' : rChk 158 (rLk nL145) nHn (rLm nL145) (rHl nH145') nJ0 nOr0 (rTab nT145') 3000 141 nK145 = true := by decide +kernel
def nL41 : List (Nat × Nat × List (Option mI)) := [(125, 7, nC125), (183, 1, nC183), (217, 1, nC217), (184, 2, nC184), (218, 1, nC218), (219, 2, nC219)]
def nT41' : List (Nat × List rCo) := [(226, [nKc 0 2, nKc 1 2, nKc 0 3, nKc 1 3, nKc 2 3, nKc 0 4, nKc 1 4, nKc 2 4, nKc 3 4]), (185, [nK34])]
def nH41' : List (Nat × Nat × rHt) := []
set_option maxRecDepth 100000 in
theorem nV41' : rChk 158 (rLk nL41) nHn (rLm nL41) (rHl nH41') nJ0 nOr0 (rTab nT41') 3000 125 nK41 = true := by decide +kernel
def nL56 : List (Nat × Nat × List (Option mI)) := [(125, 7, nC125), (183, 1, nC183), (217, 1, nC217), (184, 2, nC184), (218, 1, nC218), (219, 2, nC219)]
def nT56' : List (Nat × List rCo) := [(226, [nKc 0 2, nKc 1 2, nKc 0 3, nKc 1 3, nKc 2 3, nKc 0 4, nKc 1 4, nKc 2 4, nKc 3 4]), (185, [nK34])]
def nH56' : List (Nat × Nat × rHt) := []
set_option maxRecDepth 100000 in
theorem nV56' : rChk 158 (rLk nL56) nHn (rLm nL56) (rHl nH56') nJ0 nOr0 (rTab nT56') 3000 125 nK56 = true := by decide +kernel
def nL65 : List (Nat × Nat × List (Option mI)) := [(125, 7, nC125), (183, 1, nC183), (217, 1, nC217), (184, 2, nC184), (218, 1, nC218), (219, 2, nC219)]
def nT65' : List (Nat × List rCo) := [(226, [nKc 0 2, nKc 1 2, nKc 0 3, nKc 1 3, nKc 2 3, nKc 0 4, nKc 1 4, nKc 2 4, nKc 3 4]), (185, [nK34])]
def nH65' : List (Nat × Nat × rHt) := []
set_option maxRecDepth 100000 in
theorem nV65' : rChk 158 (rLk nL65) nHn (rLm nL65) (rHl nH65') nJ0 nOr0 (rTab nT65') 3000 125 nK65 = true := by decide +kernel
def nL18 : List (Nat × Nat × List (Option mI)) := [(166, 2, nC166)]
def nT18' : List (Nat × List rCo) := [(198, [nK6]), (207, [nK7])]
def nH18' : List (Nat × Nat × rHt) := []
set_option maxRecDepth 100000 in
theorem nV18' : rChk 158 (rLk nL18) nHn (rLm nL18) (rHl nH18') nJ0 nOr0 (rTab nT18') 3000 166 nK18 = true := by decide +kernel
def nL25 : List (Nat × Nat × List (Option mI)) := [(124, 1, nC124)]
def nT25' : List (Nat × List rCo) := []
def nH25' : List (Nat × Nat × rHt) := [(124, 0, .inl ([(0, 167, 2, 0, 240, 0, 0)], [0], (0, 1), (0, 0, 0)))]
set_option maxRecDepth 100000 in
theorem nV25' : rChk 158 (rLk nL25) nHn (rLm nL25) (rHl nH25') nJ0 nOr0 (rTab nT25') 3000 124 nK25 = true := by decide +kernel
