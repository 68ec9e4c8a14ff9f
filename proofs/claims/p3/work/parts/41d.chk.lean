/-! THE KERNEL'S CHECKS OF THE CONTRACTS: printed by program -/
def nL85 : List (Nat × Nat × List (Option mI)) := [(84, 2, nC84), (119, 1, nC119)]
def nT85' : List (Nat × List rCo) := [(124, [nK25]), (118, [nK26]), (120, [nK28]), (125, [nK35, nK36, nK37, nK38, nK39, nK40, nK41, nK42, nK43, nK44, nK45, nK46, nK47, nK48, nK49, nK50, nK51, nK52, nK53, nK54, nK55, nK56, nK57, nK58, nK59, nK60, nK61, nK62, nK63, nK64, nK65, nK66, nK67, nK68, nK69, nK70, nK71, nK72, nK73, nK74, nK75, nK76, nK77, nK78, nK79, nK80, nK81, nK82, nK83, nK84])]
def nH85' : List (Nat × Nat × rHt) := []
set_option maxRecDepth 100000 in
theorem nV85' : rChk 158 (rLk nL85) nHn (rLm nL85) (rHl nH85') nJ0 nOr0 (rTab nT85') 3000 84 nK85 = true := by decide +kernel
set_option maxRecDepth 100000 in
theorem nV150_5 : rPcs nF150 (rPiece 158 (rLk nL150) nHn (rLm nL150) (rHl nH150') nJ0 nOr0 (rTab nT150') 3000 7 149 nK150) 5 1 = true := by decide +kernel
set_option maxRecDepth 100000 in
theorem nV159_2 : rPcs nF159 (rPiece 158 (rLk nL159) nHn (rLm nL159) (rHl nH159') nJ0 nOr0 (rTab nT159') 3000 3 98 nK159) 11 1 = true := by decide +kernel
def nL73 : List (Nat × Nat × List (Option mI)) := [(125, 7, nC125), (183, 1, nC183), (217, 1, nC217), (184, 2, nC184), (218, 1, nC218), (219, 2, nC219)]
def nT73' : List (Nat × List rCo) := [(226, [nKc 0 2, nKc 1 2, nKc 0 3, nKc 1 3, nKc 2 3, nKc 0 4, nKc 1 4, nKc 2 4, nKc 3 4]), (185, [nK34])]
def nH73' : List (Nat × Nat × rHt) := []
set_option maxRecDepth 100000 in
theorem nV73' : rChk 158 (rLk nL73) nHn (rLm nL73) (rHl nH73') nJ0 nOr0 (rTab nT73') 3000 125 nK73 = true := by decide +kernel
def nL34 : List (Nat × Nat × List (Option mI)) := [(185, 2, nC185), (220, 3, nC220), (218, 1, nC218), (183, 1, nC183), (217, 1, nC217), (227, 4, nC227), (233, 1, nC233), (234, 6, nC234)]
def nT34' : List (Nat × List rCo) := []
def nH34' : List (Nat × Nat × rHt) := []
set_option maxRecDepth 100000 in
theorem nV34' : rChk 158 (rLk nL34) nHn (rLm nL34) (rHl nH34') nJ0 nOr0 (rTab nT34') 3000 185 nK34 = true := by decide +kernel
def nL39 : List (Nat × Nat × List (Option mI)) := [(125, 7, nC125), (183, 1, nC183), (217, 1, nC217), (184, 2, nC184), (218, 1, nC218), (219, 2, nC219)]
def nT39' : List (Nat × List rCo) := [(226, [nKc 0 2, nKc 1 2, nKc 0 3, nKc 1 3, nKc 2 3, nKc 0 4, nKc 1 4, nKc 2 4, nKc 3 4]), (185, [nK34])]
def nH39' : List (Nat × Nat × rHt) := []
set_option maxRecDepth 100000 in
theorem nV39' : rChk 158 (rLk nL39) nHn (rLm nL39) (rHl nH39') nJ0 nOr0 (rTab nT39') 3000 125 nK39 = true := by decide +kernel
def nL83 : List (Nat × Nat × List (Option mI)) := [(125, 7, nC125), (183, 1, nC183), (217, 1, nC217), (184, 2, nC184), (218, 1, nC218), (219, 2, nC219)]
def nT83' : List (Nat × List rCo) := [(226, [nKc 0 2, nKc 1 2, nKc 0 3, nKc 1 3, nKc 2 3, nKc 0 4, nKc 1 4, nKc 2 4, nKc 3 4]), (185, [nK34])]
def nH83' : List (Nat × Nat × rHt) := []
set_option maxRecDepth 100000 in
theorem nV83' : rChk 158 (rLk nL83) nHn (rLm nL83) (rHl nH83') nJ0 nOr0 (rTab nT83') 3000 125 nK83 = true := by decide +kernel
def nL133 : List (Nat × Nat × List (Option mI)) := [(14, 3, nC14), (36, 3, nC36), (37, 2, nC37)]
def nT133' : List (Nat × List rCo) := [(44, [nK132])]
def nH133' : List (Nat × Nat × rHt) := [(14, 37, .inl ([(2, 2, 0, 0, 500, 0, 0), (0, 183, 0, -2147483648, 2147483647, 0, 0), (0, 183, 3, 0, 1, 0, 0), (0, 183, 4, 0, 1, 0, 0), (0, 183, 5, -2147483648, 2147483647, 0, 0), (0, 183, 6, -2147483648, 2147483647, 0, 0), (0, 183, 7, -2147483648, 2147483647, 0, 0), (0, 183, 8, -2147483648, 2147483647, 0, 0), (0, 183, 9, -2147483648, 2147483647, 0, 0), (0, 183, 10, -2147483648, 2147483647, 0, 0), (0, 183, 12, 0, 6, 0, 0), (0, 183, 13, 0, 6, 0, 0), (0, 183, 15, -2147483648, 2147483647, 0, 0)], [0, 1], (0, 1), (0, 0, 0)))]
set_option maxRecDepth 100000 in
theorem nV133' : rChk 158 (rLk nL133) nHn (rLm nL133) (rHl nH133') nJ0 nOr0 (rTab nT133') 3000 14 nK133 = true := by decide +kernel
set_option maxRecDepth 100000 in
theorem nV153_2 : rPcs nF153 (rPiece 158 (rLk nL153) nHn (rLm nL153) (rHl nH153') nJ0 nOr0 (rTab nT153') 3000 3 105 nK153) 59 1 = true := by decide +kernel
def nL103 : List (Nat × Nat × List (Option mI)) := [(94, 2, nC94), (132, 2, nC132)]
def nT103' : List (Nat × List rCo) := [(86, [nK2]), (91, [nK87]), (76, [nK4])]
def nH103' : List (Nat × Nat × rHt) := [(94, 2, .inl ([(2, 1, 0, 0, 20, 0, 0), (0, 169, 8, -2147483648, 2147483647, 0, 0)], [0], (0, 1), (0, 0, 0)))]
set_option maxRecDepth 100000 in
theorem nV103' : rChk 158 (rLk nL103) nHn (rLm nL103) (rHl nH103') nJ0 nOr0 (rTab nT103') 3000 94 nK103 = true := by decide +kernel
def nL138 : List (Nat × Nat × List (Option mI)) := [(140, 6, nC140)]
def nT138' : List (Nat × List rCo) := []
def nH138' : List (Nat × Nat × rHt) := [(140, 5, .inl ([(2, 5, 0, 0, 240, 0, 0), (3, 3, 0, -9223372036854775808, 9223372036854775807, 0, 0), (0, 190, 2, 0, 239, 0, 0), (0, 190, 3, -2147483648, 2147483647, 0, 0), (0, 190, 4, 0, 239, 0, 0), (0, 190, 5, -2147483648, 2147483647, 0, 0)], [0, 1, 2], (0, 1), (0, 0, 0)))]
set_option maxRecDepth 100000 in
theorem nV138' : rChk 158 (rLk nL138) nHn (rLm nL138) (rHl nH138') nJ0 nOr0 (rTab nT138') 3000 140 nK138 = true := by decide +kernel
