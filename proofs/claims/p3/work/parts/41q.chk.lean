/-! THE KERNEL'S CHECKS OF THE CONTRACTS: printed by program -/
set_option maxRecDepth 100000 in
theorem nV156_1 : rPcs nF156 (rPiece 158 (rLk nL156) nHn (rLm nL156) (rHl nH156') nJ0 nOr0 (rTab nT156') 3000 10 103 nK156) 2 3 = true := by decide +kernel
set_option maxRecDepth 100000 in
theorem nV155_1 : rPcs nF155 (rPiece 158 (rLk nL155) nHn (rLm nL155) (rHl nH155') nJ0 nOr0 (rTab nT155') 3000 9 147 nK155) 3 3 = true := by decide +kernel
def nL127 : List (Nat × Nat × List (Option mI)) := [(180, 4, nC180), (113, 2, nC113), (176, 4, nC176)]
def nT127' : List (Nat × List rCo) := [(46, [nK113])]
def nH127' : List (Nat × Nat × rHt) := []
set_option maxRecDepth 100000 in
theorem nV127' : rChk 158 (rLk nL127) nHn (rLm nL127) (rHl nH127') nJ0 nOr0 (rTab nT127') 3000 180 nK127 = true := by decide +kernel
def nL90 : List (Nat × Nat × List (Option mI)) := [(223, 7, nC223)]
def nT90' : List (Nat × List rCo) := []
def nH90' : List (Nat × Nat × rHt) := [(223, 0, .inr (.inl ((2, 2, 0), [47, 48], (0, 0, 0))))]
set_option maxRecDepth 100000 in
theorem nV90' : rChk 158 (rLk nL90) nHn (rLm nL90) (rHl nH90') nJ0 nOr0 (rTab nT90') 3000 223 nK90 = true := by decide +kernel
def nL78 : List (Nat × Nat × List (Option mI)) := [(125, 7, nC125), (183, 1, nC183), (217, 1, nC217), (184, 2, nC184), (218, 1, nC218), (219, 2, nC219)]
def nT78' : List (Nat × List rCo) := [(226, [nKc 0 2, nKc 1 2, nKc 0 3, nKc 1 3, nKc 2 3, nKc 0 4, nKc 1 4, nKc 2 4, nKc 3 4]), (185, [nK34])]
def nH78' : List (Nat × Nat × rHt) := []
set_option maxRecDepth 100000 in
theorem nV78' : rChk 158 (rLk nL78) nHn (rLm nL78) (rHl nH78') nJ0 nOr0 (rTab nT78') 3000 125 nK78 = true := by decide +kernel
def nL37 : List (Nat × Nat × List (Option mI)) := [(125, 7, nC125), (183, 1, nC183), (217, 1, nC217), (184, 2, nC184), (218, 1, nC218), (219, 2, nC219)]
def nT37' : List (Nat × List rCo) := [(226, [nKc 0 2, nKc 1 2, nKc 0 3, nKc 1 3, nKc 2 3, nKc 0 4, nKc 1 4, nKc 2 4, nKc 3 4]), (185, [nK34])]
def nH37' : List (Nat × Nat × rHt) := []
set_option maxRecDepth 100000 in
theorem nV37' : rChk 158 (rLk nL37) nHn (rLm nL37) (rHl nH37') nJ0 nOr0 (rTab nT37') 3000 125 nK37 = true := by decide +kernel
def nL69 : List (Nat × Nat × List (Option mI)) := [(125, 7, nC125), (183, 1, nC183), (217, 1, nC217), (184, 2, nC184), (218, 1, nC218), (219, 2, nC219)]
def nT69' : List (Nat × List rCo) := [(226, [nKc 0 2, nKc 1 2, nKc 0 3, nKc 1 3, nKc 2 3, nKc 0 4, nKc 1 4, nKc 2 4, nKc 3 4]), (185, [nK34])]
def nH69' : List (Nat × Nat × rHt) := []
set_option maxRecDepth 100000 in
theorem nV69' : rChk 158 (rLk nL69) nHn (rLm nL69) (rHl nH69') nJ0 nOr0 (rTab nT69') 3000 125 nK69 = true := by decide +kernel
def nL107 : List (Nat × Nat × List (Option mI)) := [(38, 2, nC38), (59, 1, nC59), (63, 2, nC63)]
def nT107' : List (Nat × List rCo) := [(58, [nK106]), (60, [nK100]), (61, [nK104]), (62, [nK105])]
def nH107' : List (Nat × Nat × rHt) := [(38, 9, .inl ([(2, 1, 0, 0, 241, 0, 0), (0, 167, 2, 0, 240, 0, 0), (0, 167, 3, 0, 241, 0, 0), (0, 167, 4, 0, 240, 0, 0), (0, 167, 5, 0, 240, 0, 0), (1, 167, 6, -9223372036854775808, 9223372036854775807, 0, 0), (0, 167, 7, -2147483648, 2147483647, 0, 0), (0, 167, 8, -2147483648, 2147483647, 0, 0), (0, 167, 9, -2147483648, 2147483647, 0, 0), (0, 169, 7, 0, 20, 0, 0), (0, 169, 8, -2147483648, 2147483647, 0, 0), (0, 169, 9, -2147483648, 2147483647, 0, 0), (0, 169, 10, 0, 1, 0, 0), (0, 169, 11, -2147483648, 2147483647, 0, 0), (0, 169, 12, -2147483648, 2147483647, 0, 0), (0, 169, 13, 0, 29, 0, 0), (0, 169, 14, -2147483648, 2147483647, 0, 0), (0, 169, 16, -2147483648, 2147483647, 0, 0), (0, 169, 17, -2147483648, 2147483647, 0, 0), (0, 170, 2, 0, 30, 0, 0), (0, 176, 3, 0, 60, 0, 0), (5, 169, 15, 2, 51, 0, 0)], [0], (0, 1), (0, 0, 0)))]
set_option maxRecDepth 100000 in
theorem nV107' : rChk 158 (rLk nL107) nHn (rLm nL107) (rHl nH107') nJ0 nOr0 (rTab nT107') 3000 38 nK107 = true := by decide +kernel
def nL7 : List (Nat × Nat × List (Option mI)) := [(207, 4, nC207), (138, 1, nC138), (191, 1, nC191), (130, 2, nC130)]
def nT7' : List (Nat × List rCo) := []
def nH7' : List (Nat × Nat × rHt) := []
set_option maxRecDepth 100000 in
theorem nV7' : rChk 158 (rLk nL7) nHn (rLm nL7) (rHl nH7') nJ0 nOr0 (rTab nT7') 3000 207 nK7 = true := by decide +kernel
def nL106 : List (Nat × Nat × List (Option mI)) := [(58, 1, nC58), (80, 4, nC80)]
def nT106' : List (Nat × List rCo) := []
def nH106' : List (Nat × Nat × rHt) := [(80, 5, .inl ([(2, 2, 0, 0, 300, 0, 0)], [0, 1, 3], (0, 1), (0, 0, 0)))]
set_option maxRecDepth 100000 in
theorem nV106' : rChk 158 (rLk nL106) nHn (rLm nL106) (rHl nH106') nJ0 nOr0 (rTab nT106') 3000 58 nK106 = true := by decide +kernel
def nL32 : List (Nat × Nat × List (Option mI)) := [(68, 4, nC68)]
def nT32' : List (Nat × List rCo) := []
def nH32' : List (Nat × Nat × rHt) := [(68, 2, .inl ([(2, 3, 0, 0, 30, 0, 0)], [0, 1], (0, 1), (0, 0, 0)))]
set_option maxRecDepth 100000 in
theorem nV32' : rChk 158 (rLk nL32) nHn (rLm nL32) (rHl nH32') nJ0 nOr0 (rTab nT32') 3000 68 nK32 = true := by decide +kernel
