/-! THE KERNEL'S CHECKS OF THE CONTRACTS: printed by program -/
set_option maxRecDepth 100000 in
theorem nV85_2 : rPcs nF85 (rPiece 158 (rLk nL85) nHn (rLm nL85) (rHl nH85') nJ0 nOr0 (rTab nT85') 3000 8 84 nK85) 40 20 = true := by decide +kernel
set_option maxRecDepth 100000 in
theorem nV153_1 : rPcs nF153 (rPiece 158 (rLk nL153) nHn (rLm nL153) (rHl nH153') nJ0 nOr0 (rTab nT153') 3000 3 105 nK153) 39 21 = true := by decide +kernel
set_option maxRecDepth 100000 in
theorem nV159_c : rCov nF159 16 = true := by decide +kernel
def nL92 : List (Nat × Nat × List (Option mI)) := [(189, 6, nC189)]
def nT92' : List (Nat × List rCo) := [(127, [nK29]), (221, [nK91]), (222, [nK30]), (223, [nK90])]
def nH92' : List (Nat × Nat × rHt) := [(189, 43, .inl ([(2, 4, 0, 0, 240, 0, 0), (3, 2, 0, -9223372036854775808, 9223372036854775807, 0, 0), (0, 167, 2, 0, 240, 0, 0), (0, 167, 4, 0, 240, 0, 0), (0, 167, 5, 0, 240, 0, 0), (1, 167, 6, -9223372036854775808, 9223372036854775807, 0, 0), (0, 167, 7, -2147483648, 2147483647, 0, 0), (0, 167, 8, -2147483648, 2147483647, 0, 0), (0, 167, 9, -2147483648, 2147483647, 0, 0)], [0, 1], (0, 1), (0, 0, 0)))]
set_option maxRecDepth 100000 in
theorem nV92' : rChk 158 (rLk nL92) nHn (rLm nL92) (rHl nH92') nJ0 nOr0 (rTab nT92') 3000 189 nK92 = true := by decide +kernel
def nL136 : List (Nat × Nat × List (Option mI)) := [(66, 3, nC66), (96, 1, nC96), (139, 1, nC139), (36, 3, nC36)]
def nT136' : List (Nat × List rCo) := []
def nH136' : List (Nat × Nat × rHt) := [(66, 0, .inr (.inl ((0, 183, 22), [240], (0, 0, 0)))), (66, 2, .inl ([(2, 2, 0, 0, 0, 4, 183022), (0, 190, 2, 0, 239, 0, 0), (0, 190, 3, -2147483648, 2147483647, 0, 0), (0, 190, 4, 0, 239, 0, 0), (0, 190, 5, -2147483648, 2147483647, 0, 0)], [0, 1], (0, 1), (0, 0, 0))), (66, 28, .inr (.inl ((2, 2, 0), [240], (0, 0, 0))))]
set_option maxRecDepth 100000 in
theorem nV136' : rChk 158 (rLk nL136) nHn (rLm nL136) (rHl nH136') nJ0 nOr0 (rTab nT136') 3000 66 nK136 = true := by decide +kernel
def nL118 : List (Nat × Nat × List (Option mI)) := [(169, 2, nC169), (70, 1, nC70), (214, 1, nC214), (225, 1, nC225)]
def nT118' : List (Nat × List rCo) := [(73, [nK108]), (146, [nK110])]
def nH118' : List (Nat × Nat × rHt) := []
set_option maxRecDepth 100000 in
theorem nV118' : rChk 158 (rLk nL118) nHn (rLm nL118) (rHl nH118') nJ0 nOr0 (rTab nT118') 3000 169 nK118 = true := by decide +kernel
def nL37 : List (Nat × Nat × List (Option mI)) := [(125, 7, nC125), (183, 1, nC183), (217, 1, nC217), (184, 2, nC184), (218, 1, nC218), (219, 2, nC219)]
def nT37' : List (Nat × List rCo) := [(226, [nKc 0 2, nKc 1 2, nKc 0 3, nKc 1 3, nKc 2 3, nKc 0 4, nKc 1 4, nKc 2 4, nKc 3 4]), (185, [nK34])]
def nH37' : List (Nat × Nat × rHt) := []
set_option maxRecDepth 100000 in
theorem nV37' : rChk 158 (rLk nL37) nHn (rLm nL37) (rHl nH37') nJ0 nOr0 (rTab nT37') 3000 125 nK37 = true := by decide +kernel
def nL8 : List (Nat × Nat × List (Option mI)) := [(106, 4, nC106), (138, 1, nC138)]
def nT8' : List (Nat × List rCo) := [(154, [nK1]), (136, [nK0]), (86, [nK2])]
def nH8' : List (Nat × Nat × rHt) := []
set_option maxRecDepth 100000 in
theorem nV8' : rChk 158 (rLk nL8) nHn (rLm nL8) (rHl nH8') nJ0 nOr0 (rTab nT8') 3000 106 nK8 = true := by decide +kernel
def nL106 : List (Nat × Nat × List (Option mI)) := [(58, 1, nC58), (80, 4, nC80)]
def nT106' : List (Nat × List rCo) := []
def nH106' : List (Nat × Nat × rHt) := [(80, 5, .inl ([(2, 2, 0, 0, 300, 0, 0)], [0, 1, 3], (0, 1), (0, 0, 0)))]
set_option maxRecDepth 100000 in
theorem nV106' : rChk 158 (rLk nL106) nHn (rLm nL106) (rHl nH106') nJ0 nOr0 (rTab nT106') 3000 58 nK106 = true := by decide +kernel
def nL109 : List (Nat × Nat × List (Option mI)) := [(74, 1, nC74), (70, 1, nC70)]
def nT109' : List (Nat × List rCo) := [(73, [nK108])]
def nH109' : List (Nat × Nat × rHt) := []
set_option maxRecDepth 100000 in
theorem nV109' : rChk 158 (rLk nL109) nHn (rLm nL109) (rHl nH109') nJ0 nOr0 (rTab nT109') 3000 74 nK109 = true := by decide +kernel
