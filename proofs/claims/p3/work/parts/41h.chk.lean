/-! THE KERNEL'S CHECKS OF THE CONTRACTS: printed by program -/
def nL98 : List (Nat × Nat × List (Option mI)) := [(89, 5, nC89), (128, 4, nC128), (119, 1, nC119), (130, 2, nC130), (132, 2, nC132), (133, 4, nC133)]
def nT98' : List (Nat × List rCo) := [(126, [nK95]), (127, [nK29]), (189, [nK92]), (129, [nK96]), (131, [nK86]), (76, [nK4])]
def nH98' : List (Nat × Nat × rHt) := []
set_option maxRecDepth 100000 in
theorem nV98' : rChk 158 (rLk nL98) nHn (rLm nL98) (rHl nH98') nJ0 nOr0 (rTab nT98') 3000 89 nK98 = true := by decide +kernel
set_option maxRecDepth 100000 in
theorem nV132_1 : rPcs nF132 (rPiece 158 (rLk nL132) nHn (rLm nL132) (rHl nH132') nJ0 nOr0 (rTab nT132') 3000 8 44 nK132) 11 6 = true := by decide +kernel
def nL146 : List (Nat × Nat × List (Option mI)) := [(142, 2, nC142)]
def nT146' : List (Nat × List rCo) := []
def nH146' : List (Nat × Nat × rHt) := []
set_option maxRecDepth 100000 in
theorem nV146' : rChk 158 (rLk nL146) nHn (rLm nL146) (rHl nH146') nJ0 nOr0 (rTab nT146') 3000 142 nK146 = true := by decide +kernel
def nL74 : List (Nat × Nat × List (Option mI)) := [(125, 7, nC125), (183, 1, nC183), (217, 1, nC217), (184, 2, nC184), (218, 1, nC218), (219, 2, nC219)]
def nT74' : List (Nat × List rCo) := [(226, [nKc 0 2, nKc 1 2, nKc 0 3, nKc 1 3, nKc 2 3, nKc 0 4, nKc 1 4, nKc 2 4, nKc 3 4]), (185, [nK34])]
def nH74' : List (Nat × Nat × rHt) := []
set_option maxRecDepth 100000 in
theorem nV74' : rChk 158 (rLk nL74) nHn (rLm nL74) (rHl nH74') nJ0 nOr0 (rTab nT74') 3000 125 nK74 = true := by decide +kernel
def nL41 : List (Nat × Nat × List (Option mI)) := [(125, 7, nC125), (183, 1, nC183), (217, 1, nC217), (184, 2, nC184), (218, 1, nC218), (219, 2, nC219)]
def nT41' : List (Nat × List rCo) := [(226, [nKc 0 2, nKc 1 2, nKc 0 3, nKc 1 3, nKc 2 3, nKc 0 4, nKc 1 4, nKc 2 4, nKc 3 4]), (185, [nK34])]
def nH41' : List (Nat × Nat × rHt) := []
set_option maxRecDepth 100000 in
theorem nV41' : rChk 158 (rLk nL41) nHn (rLm nL41) (rHl nH41') nJ0 nOr0 (rTab nT41') 3000 125 nK41 = true := by decide +kernel
def nL161 : List (Nat × Nat × List (Option mI)) := [(41, 8, nC41), (40, 1, nC40)]
def nT161' : List (Nat × List rCo) := [(64, [nK134]), (65, [nK135]), (66, [nK136, nK137]), (67, [nK160])]
def nH161' : List (Nat × Nat × rHt) := []
set_option maxRecDepth 100000 in
theorem nV161' : rChk 158 (rLk nL161) nHn (rLm nL161) (rHl nH161') nJ0 nOr0 (rTab nT161') 3000 41 nK161 = true := by decide +kernel
def nL68 : List (Nat × Nat × List (Option mI)) := [(125, 7, nC125), (183, 1, nC183), (217, 1, nC217), (184, 2, nC184), (218, 1, nC218), (219, 2, nC219)]
def nT68' : List (Nat × List rCo) := [(226, [nKc 0 2, nKc 1 2, nKc 0 3, nKc 1 3, nKc 2 3, nKc 0 4, nKc 1 4, nKc 2 4, nKc 3 4]), (185, [nK34])]
def nH68' : List (Nat × Nat × rHt) := []
set_option maxRecDepth 100000 in
theorem nV68' : rChk 158 (rLk nL68) nHn (rLm nL68) (rHl nH68') nJ0 nOr0 (rTab nT68') 3000 125 nK68 = true := by decide +kernel
def nL5 : List (Nat × Nat × List (Option mI)) := [(212, 2, nC212)]
def nT5' : List (Nat × List rCo) := []
def nH5' : List (Nat × Nat × rHt) := []
set_option maxRecDepth 100000 in
theorem nV5' : rChk 158 (rLk nL5) nHn (rLm nL5) (rHl nH5') nJ0 nOr0 (rTab nT5') 3000 212 nK5 = true := by decide +kernel
def nL22 : List (Nat × Nat × List (Option mI)) := [(43, 4, nC43)]
def nT22' : List (Nat × List rCo) := [(69, [nK21])]
def nH22' : List (Nat × Nat × rHt) := [(43, 52, .inl ([(2, 3, 0, 0, 500, 0, 0), (0, 160, 8, 0, 501, 2, 1), (0, 160, 5, 0, 6, 0, 0), (0, 160, 6, 0, 5, 0, 0), (0, 160, 7, 0, 6, 0, 0), (0, 165, 3, 0, 1, 0, 0), (0, 165, 4, -2147483648, 2147483647, 0, 0), (0, 165, 5, -2147483648, 2147483647, 0, 0), (0, 165, 6, -2147483648, 2147483647, 0, 0), (0, 165, 7, -2147483648, 2147483647, 0, 0), (0, 165, 8, -2147483648, 2147483647, 0, 0), (0, 165, 9, -2147483648, 2147483647, 0, 0), (0, 165, 10, -2147483648, 2147483647, 0, 0), (0, 165, 11, -2147483648, 2147483647, 0, 0), (0, 165, 12, -2147483648, 2147483647, 0, 0), (0, 165, 13, -2147483648, 2147483647, 0, 0), (0, 165, 14, -2147483648, 2147483647, 0, 0)], [0, 1, 2], (0, 1), (0, 0, 0)))]
set_option maxRecDepth 100000 in
theorem nV22' : rChk 158 (rLk nL22) nHn (rLm nL22) (rHl nH22') nJ0 nOr0 (rTab nT22') 3000 43 nK22 = true := by decide +kernel
set_option maxRecDepth 100000 in
theorem nV125_c : rCov nF125 64 = true := by decide +kernel
def nL26 : List (Nat × Nat × List (Option mI)) := [(118, 1, nC118)]
def nT26' : List (Nat × List rCo) := []
def nH26' : List (Nat × Nat × rHt) := [(118, 8, .inl ([(0, 167, 5, 0, 240, 0, 0)], [0], (0, 1), (0, 0, 0)))]
set_option maxRecDepth 100000 in
theorem nV26' : rChk 158 (rLk nL26) nHn (rLm nL26) (rHl nH26') nJ0 nOr0 (rTab nT26') 3000 118 nK26 = true := by decide +kernel
