/-! THE KERNEL'S CHECKS OF THE CONTRACTS: printed by program -/
set_option maxRecDepth 100000 in
theorem nV156_1 : rPcs nF156 (rPiece 158 (rLk nL156) nHn (rLm nL156) (rHl nH156') nJ0 nOr0 (rTab nT156') 3000 10 103 nK156) 2 1 = true := by decide +kernel
set_option maxRecDepth 100000 in
theorem nV155_7 : rPcs nF155 (rPiece 158 (rLk nL155) nHn (rLm nL155) (rHl nH155') nJ0 nOr0 (rTab nT155') 3000 9 147 nK155) 16 1 = true := by decide +kernel
def nL107 : List (Nat × Nat × List (Option mI)) := [(38, 2, nC38), (59, 1, nC59), (63, 2, nC63)]
def nT107' : List (Nat × List rCo) := [(58, [nK106]), (60, [nK100]), (61, [nK104]), (62, [nK105])]
def nH107' : List (Nat × Nat × rHt) := [(38, 9, .inl ([(2, 1, 0, 0, 241, 0, 0), (0, 167, 2, 0, 240, 0, 0), (0, 167, 3, 0, 241, 0, 0), (0, 167, 4, 0, 240, 0, 0), (0, 167, 5, 0, 240, 0, 0), (1, 167, 6, -9223372036854775808, 9223372036854775807, 0, 0), (0, 167, 7, -2147483648, 2147483647, 0, 0), (0, 167, 8, -2147483648, 2147483647, 0, 0), (0, 167, 9, -2147483648, 2147483647, 0, 0), (0, 169, 7, 0, 20, 0, 0), (0, 169, 8, -2147483648, 2147483647, 0, 0), (0, 169, 9, -2147483648, 2147483647, 0, 0), (0, 169, 10, 0, 1, 0, 0), (0, 169, 11, -2147483648, 2147483647, 0, 0), (0, 169, 12, -2147483648, 2147483647, 0, 0), (0, 169, 13, 0, 29, 0, 0), (0, 169, 14, -2147483648, 2147483647, 0, 0), (0, 169, 16, -2147483648, 2147483647, 0, 0), (0, 169, 17, -2147483648, 2147483647, 0, 0), (0, 170, 2, 0, 30, 0, 0), (0, 176, 3, 0, 60, 0, 0), (5, 169, 15, 2, 51, 0, 0)], [0], (0, 1), (0, 0, 0)))]
set_option maxRecDepth 100000 in
theorem nV107' : rChk 158 (rLk nL107) nHn (rLm nL107) (rHl nH107') nJ0 nOr0 (rTab nT107') 3000 38 nK107 = true := by decide +kernel
def nL119 : List (Nat × Nat × List (Option mI)) := [(170, 3, nC170), (215, 5, nC215), (70, 1, nC70), (216, 6, nC216)]
def nT119' : List (Nat × List rCo) := [(74, [nK109]), (177, [nK115]), (73, [nK108]), (146, [nK110])]
def nH119' : List (Nat × Nat × rHt) := []
set_option maxRecDepth 100000 in
theorem nV119' : rChk 158 (rLk nL119) nHn (rLm nL119) (rHl nH119') nJ0 nOr0 (rTab nT119') 3000 170 nK119 = true := by decide +kernel
def nL62 : List (Nat × Nat × List (Option mI)) := [(125, 7, nC125), (183, 1, nC183), (217, 1, nC217), (184, 2, nC184), (218, 1, nC218), (219, 2, nC219)]
def nT62' : List (Nat × List rCo) := [(226, [nKc 0 2, nKc 1 2, nKc 0 3, nKc 1 3, nKc 2 3, nKc 0 4, nKc 1 4, nKc 2 4, nKc 3 4]), (185, [nK34])]
def nH62' : List (Nat × Nat × rHt) := []
set_option maxRecDepth 100000 in
theorem nV62' : rChk 158 (rLk nL62) nHn (rLm nL62) (rHl nH62') nJ0 nOr0 (rTab nT62') 3000 125 nK62 = true := by decide +kernel
def nL148 : List (Nat × Nat × List (Option mI)) := [(144, 2, nC144)]
def nT148' : List (Nat × List rCo) := []
def nH148' : List (Nat × Nat × rHt) := []
set_option maxRecDepth 100000 in
theorem nV148' : rChk 158 (rLk nL148) nHn (rLm nL148) (rHl nH148') nJ0 nOr0 (rTab nT148') 3000 144 nK148 = true := by decide +kernel
def nL144 : List (Nat × Nat × List (Option mI)) := [(195, 1, nC195)]
def nT144' : List (Nat × List rCo) := []
def nH144' : List (Nat × Nat × rHt) := []
set_option maxRecDepth 100000 in
theorem nV144' : rChk 158 (rLk nL144) nHn (rLm nL144) (rHl nH144') nJ0 nOr0 (rTab nT144') 3000 195 nK144 = true := by decide +kernel
def nL135 : List (Nat × Nat × List (Option mI)) := [(65, 4, nC65)]
def nT135' : List (Nat × List rCo) := []
def nH135' : List (Nat × Nat × rHt) := [(65, 2, .inl ([(2, 3, 0, 0, 240, 1, 0), (0, 190, 2, 0, 239, 0, 0), (0, 190, 3, -2147483648, 2147483647, 0, 0), (0, 190, 4, 0, 239, 0, 0), (0, 190, 5, -2147483648, 2147483647, 0, 0)], [0, 1, 2], (0, 1), (0, 0, 0)))]
set_option maxRecDepth 100000 in
theorem nV135' : rChk 158 (rLk nL135) nHn (rLm nL135) (rHl nH135') nJ0 nOr0 (rTab nT135') 3000 65 nK135 = true := by decide +kernel
def nL143 : List (Nat × Nat × List (Option mI)) := [(195, 1, nC195)]
def nT143' : List (Nat × List rCo) := []
def nH143' : List (Nat × Nat × rHt) := []
set_option maxRecDepth 100000 in
theorem nV143' : rChk 158 (rLk nL143) nHn (rLm nL143) (rHl nH143') nJ0 nOr0 (rTab nT143') 3000 195 nK143 = true := by decide +kernel
