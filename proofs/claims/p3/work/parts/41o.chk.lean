/-! THE KERNEL'S CHECKS OF THE CONTRACTS: printed by program -/
set_option maxRecDepth 100000 in
theorem nV153_1 : rPcs nF153 (rPiece 158 (rLk nL153) nHn (rLm nL153) (rHl nH153') nJ0 nOr0 (rTab nT153') 3000 3 105 nK153) 30 29 = true := by decide +kernel
set_option maxRecDepth 100000 in
theorem nV155_3 : rPcs nF155 (rPiece 158 (rLk nL155) nHn (rLm nL155) (rHl nH155') nJ0 nOr0 (rTab nT155') 3000 9 147 nK155) 7 1 = true := by decide +kernel
def nL131 : List (Nat × Nat × List (Option mI)) := [(75, 5, nC75), (36, 3, nC36), (71, 1, nC71), (113, 2, nC113), (72, 2, nC72)]
def nT131' : List (Nat × List rCo) := [(109, [nK122]), (110, [nK123]), (111, [nK124]), (112, [nK125]), (114, [nK121]), (115, [nK128]), (116, [nK129]), (117, [nK130])]
def nH131' : List (Nat × Nat × rHt) := []
set_option maxRecDepth 100000 in
theorem nV131' : rChk 158 (rLk nL131) nHn (rLm nL131) (rHl nH131') nJ0 nOr0 (rTab nT131') 3000 75 nK131 = true := by decide +kernel
def nL117 : List (Nat × Nat × List (Option mI)) := [(172, 5, nC172), (70, 1, nC70), (214, 1, nC214), (225, 1, nC225)]
def nT117' : List (Nat × List rCo) := [(73, [nK108]), (146, [nK110])]
def nH117' : List (Nat × Nat × rHt) := []
set_option maxRecDepth 100000 in
theorem nV117' : rChk 158 (rLk nL117) nHn (rLm nL117) (rHl nH117') nJ0 nOr0 (rTab nT117') 3000 172 nK117 = true := by decide +kernel
def nL80 : List (Nat × Nat × List (Option mI)) := [(125, 7, nC125), (183, 1, nC183), (217, 1, nC217), (184, 2, nC184), (218, 1, nC218), (219, 2, nC219)]
def nT80' : List (Nat × List rCo) := [(226, [nKc 0 2, nKc 1 2, nKc 0 3, nKc 1 3, nKc 2 3, nKc 0 4, nKc 1 4, nKc 2 4, nKc 3 4]), (185, [nK34])]
def nH80' : List (Nat × Nat × rHt) := []
set_option maxRecDepth 100000 in
theorem nV80' : rChk 158 (rLk nL80) nHn (rLm nL80) (rHl nH80') nJ0 nOr0 (rTab nT80') 3000 125 nK80 = true := by decide +kernel
def nL43 : List (Nat × Nat × List (Option mI)) := [(125, 7, nC125), (183, 1, nC183), (217, 1, nC217), (184, 2, nC184), (218, 1, nC218), (219, 2, nC219)]
def nT43' : List (Nat × List rCo) := [(226, [nKc 0 2, nKc 1 2, nKc 0 3, nKc 1 3, nKc 2 3, nKc 0 4, nKc 1 4, nKc 2 4, nKc 3 4]), (185, [nK34])]
def nH43' : List (Nat × Nat × rHt) := []
set_option maxRecDepth 100000 in
theorem nV43' : rChk 158 (rLk nL43) nHn (rLm nL43) (rHl nH43') nJ0 nOr0 (rTab nT43') 3000 125 nK43 = true := by decide +kernel
def nL9 : List (Nat × Nat × List (Option mI)) := [(157, 2, nC157), (197, 1, nC197), (199, 5, nC199), (191, 1, nC191), (138, 1, nC138), (130, 2, nC130), (200, 6, nC200), (203, 1, nC203)]
def nT9' : List (Nat × List rCo) := [(192, [nK3]), (76, [nK4]), (154, [nK1]), (136, [nK0]), (198, [nK6])]
def nH9' : List (Nat × Nat × rHt) := []
set_option maxRecDepth 100000 in
theorem nV9' : rChk 158 (rLk nL9) nHn (rLm nL9) (rHl nH9') nJ0 nOr0 (rTab nT9') 3000 157 nK9 = true := by decide +kernel
def nL92 : List (Nat × Nat × List (Option mI)) := [(189, 6, nC189)]
def nT92' : List (Nat × List rCo) := [(127, [nK29]), (221, [nK91]), (222, [nK30]), (223, [nK90])]
def nH92' : List (Nat × Nat × rHt) := [(189, 43, .inl ([(2, 4, 0, 0, 240, 0, 0), (3, 2, 0, -9223372036854775808, 9223372036854775807, 0, 0), (0, 167, 2, 0, 240, 0, 0), (0, 167, 4, 0, 240, 0, 0), (0, 167, 5, 0, 240, 0, 0), (1, 167, 6, -9223372036854775808, 9223372036854775807, 0, 0), (0, 167, 7, -2147483648, 2147483647, 0, 0), (0, 167, 8, -2147483648, 2147483647, 0, 0), (0, 167, 9, -2147483648, 2147483647, 0, 0)], [0, 1], (0, 1), (0, 0, 0)))]
set_option maxRecDepth 100000 in
theorem nV92' : rChk 158 (rLk nL92) nHn (rLm nL92) (rHl nH92') nJ0 nOr0 (rTab nT92') 3000 189 nK92 = true := by decide +kernel
def nL13 : List (Nat × Nat × List (Option mI)) := [(161, 2, nC161), (197, 1, nC197)]
def nT13' : List (Nat × List rCo) := [(192, [nK3]), (76, [nK4]), (154, [nK1]), (207, [nK7])]
def nH13' : List (Nat × Nat × rHt) := []
set_option maxRecDepth 100000 in
theorem nV13' : rChk 158 (rLk nL13) nHn (rLm nL13) (rHl nH13') nJ0 nOr0 (rTab nT13') 3000 161 nK13 = true := by decide +kernel
set_option maxRecDepth 100000 in
theorem nV156_c : rCov nF156 7 = true := by decide +kernel
def nL154 : List (Nat × Nat × List (Option mI)) := [(102, 3, nC102)]
def nT154' : List (Nat × List rCo) := [(105, [nK152, nK153])]
def nH154' : List (Nat × Nat × rHt) := []
set_option maxRecDepth 100000 in
theorem nV154' : rChk 158 (rLk nL154) nHn (rLm nL154) (rHl nH154') nJ0 nOr0 (rTab nT154') 3000 102 nK154 = true := by decide +kernel
def nL108 : List (Nat × Nat × List (Option mI)) := [(73, 1, nC73)]
def nT108' : List (Nat × List rCo) := []
def nH108' : List (Nat × Nat × rHt) := []
set_option maxRecDepth 100000 in
theorem nV108' : rChk 158 (rLk nL108) nHn (rLm nL108) (rHl nH108') nJ0 nOr0 (rTab nT108') 3000 73 nK108 = true := by decide +kernel
