/-! THE KERNEL'S CHECKS OF THE CONTRACTS: printed by program -/
set_option maxRecDepth 100000 in
theorem nU132_1 : rPcs nF132 (rPiece 158 (rLk nL132) nHn (rLm nL132) (rHl nH132') nJ0 nOr0 (rTab nT132') 3000 8 44 nK132) 9 8 = true := by decide +kernel
set_option maxRecDepth 100000 in
theorem nU27_1 : rPcs nF27 (rPiece 158 (rLk nL27) nHn (rLm nL27) (rHl nH27') nJ0 nOr0 (rTab nT27') 3000 1 120 nK27) 2 1 = true := by decide +kernel
def nL149 : List (Nat × Nat × List (Option mI)) := [(194, 5, nC194), (148, 1, nC148), (196, 3, nC196), (40, 1, nC40), (139, 1, nC139), (36, 3, nC36)]
def nT149' : List (Nat × List rCo) := [(66, [nK136, nK137]), (97, [nK139]), (74, [nK109]), (99, [nK140]), (140, [nK138]), (145, [nK141])]
def nH149' : List (Nat × Nat × rHt) := [(194, 68, .inl ([(2, 3, 0, 0, 240, 0, 0), (2, 2, 0, 0, 1, 0, 0), (0, 190, 2, 0, 239, 0, 0), (0, 190, 3, -2147483648, 2147483647, 0, 0), (0, 190, 4, 0, 239, 0, 0), (0, 190, 5, -2147483648, 2147483647, 0, 0)], [0, 1], (0, 1), (0, 0, 0))), (194, 113, .inl ([(2, 4, 0, 0, 240, 0, 0), (2, 3, 0, -2147483648, 2147483647, 0, 0), (0, 190, 2, 0, 239, 0, 0), (0, 190, 3, -2147483648, 2147483647, 0, 0), (0, 190, 4, 0, 239, 0, 0), (0, 190, 5, -2147483648, 2147483647, 0, 0)], [0, 1], (0, 1), (0, 0, 0)))]
set_option maxRecDepth 100000 in
theorem nV149' : rChk 158 (rLk nL149) nHn (rLm nL149) (rHl nH149') nJ0 nOr0 (rTab nT149') 3000 194 nK149 = true := by decide +kernel
def nL107 : List (Nat × Nat × List (Option mI)) := [(38, 2, nC38), (59, 1, nC59), (63, 2, nC63)]
def nT107' : List (Nat × List rCo) := [(58, [nK106]), (60, [nK100]), (61, [nK104]), (62, [nK105])]
def nH107' : List (Nat × Nat × rHt) := [(38, 9, .inl ([(2, 1, 0, 0, 241, 0, 0), (0, 167, 2, 0, 240, 0, 0), (0, 167, 3, 0, 241, 0, 0), (0, 167, 4, 0, 240, 0, 0), (0, 167, 5, 0, 240, 0, 0), (1, 167, 6, -9223372036854775808, 9223372036854775807, 0, 0), (0, 167, 7, -2147483648, 2147483647, 0, 0), (0, 167, 8, -2147483648, 2147483647, 0, 0), (0, 167, 9, -2147483648, 2147483647, 0, 0), (0, 169, 7, 0, 20, 0, 0), (0, 169, 8, -2147483648, 2147483647, 0, 0), (0, 169, 9, -2147483648, 2147483647, 0, 0), (0, 169, 10, 0, 1, 0, 0), (0, 169, 11, -2147483648, 2147483647, 0, 0), (0, 169, 12, -2147483648, 2147483647, 0, 0), (0, 169, 13, 0, 29, 0, 0), (0, 169, 14, -2147483648, 2147483647, 0, 0), (0, 169, 16, -2147483648, 2147483647, 0, 0), (0, 169, 17, -2147483648, 2147483647, 0, 0), (0, 170, 2, 0, 30, 0, 0), (0, 176, 3, 0, 60, 0, 0), (5, 169, 15, 2, 51, 0, 0)], [0], (0, 1), (0, 0, 0)))]
set_option maxRecDepth 100000 in
theorem nV107' : rChk 158 (rLk nL107) nHn (rLm nL107) (rHl nH107') nJ0 nOr0 (rTab nT107') 3000 38 nK107 = true := by decide +kernel
def nL77 : List (Nat × Nat × List (Option mI)) := [(125, 7, nC125), (183, 1, nC183), (217, 1, nC217), (184, 2, nC184), (218, 1, nC218), (219, 2, nC219)]
def nT77' : List (Nat × List rCo) := [(226, [nKc 0 2, nKc 1 2, nKc 0 3, nKc 1 3, nKc 2 3, nKc 0 4, nKc 1 4, nKc 2 4, nKc 3 4]), (185, [nK34])]
def nH77' : List (Nat × Nat × rHt) := []
set_option maxRecDepth 100000 in
theorem nV77' : rChk 158 (rLk nL77) nHn (rLm nL77) (rHl nH77') nJ0 nOr0 (rTab nT77') 3000 125 nK77 = true := by decide +kernel
set_option maxRecDepth 100000 in
theorem nU125_2 : rPcs nF125 (rPiece 158 (rLk nL125) nHn (rLm nL125) (rHl nH125') nJ0 nOr0 (rTab nT125') 3000 5 112 nK125) 63 1 = true := by decide +kernel
def nL9 : List (Nat × Nat × List (Option mI)) := [(157, 2, nC157), (197, 1, nC197), (199, 5, nC199), (191, 1, nC191), (138, 1, nC138), (130, 2, nC130), (200, 6, nC200), (203, 1, nC203)]
def nT9' : List (Nat × List rCo) := [(192, [nK3]), (76, [nK4]), (154, [nK1]), (136, [nK0]), (198, [nK6])]
def nH9' : List (Nat × Nat × rHt) := []
set_option maxRecDepth 100000 in
theorem nV9' : rChk 158 (rLk nL9) nHn (rLm nL9) (rHl nH9') nJ0 nOr0 (rTab nT9') 3000 157 nK9 = true := by decide +kernel
def nL104 : List (Nat × Nat × List (Option mI)) := [(61, 1, nC61), (95, 2, nC95)]
def nT104' : List (Nat × List rCo) := [(92, [nK101]), (93, [nK102]), (94, [nK103])]
def nH104' : List (Nat × Nat × rHt) := []
set_option maxRecDepth 100000 in
theorem nV104' : rChk 158 (rLk nL104) nHn (rLm nL104) (rHl nH104') nJ0 nOr0 (rTab nT104') 3000 61 nK104 = true := by decide +kernel
def nL147 : List (Nat × Nat × List (Option mI)) := [(143, 1, nC143), (36, 3, nC36)]
def nT147' : List (Nat × List rCo) := []
def nH147' : List (Nat × Nat × rHt) := []
set_option maxRecDepth 100000 in
theorem nV147' : rChk 158 (rLk nL147) nHn (rLm nL147) (rHl nH147') nJ0 nOr0 (rTab nT147') 3000 143 nK147 = true := by decide +kernel
def nL5 : List (Nat × Nat × List (Option mI)) := [(212, 2, nC212)]
def nT5' : List (Nat × List rCo) := []
def nH5' : List (Nat × Nat × rHt) := []
set_option maxRecDepth 100000 in
theorem nV5' : rChk 158 (rLk nL5) nHn (rLm nL5) (rHl nH5') nJ0 nOr0 (rTab nT5') 3000 212 nK5 = true := by decide +kernel
