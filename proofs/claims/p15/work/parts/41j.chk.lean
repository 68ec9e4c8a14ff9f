/-! THE KERNEL'S CHECKS OF THE CONTRACTS: printed by program -/
set_option maxRecDepth 100000 in
theorem nU152_0 : rPcs nF152 (rPiece 158 (rLk nL152) nHn (rLm nL152) (rHl nH152') nJ0 nOr0 (rTab nT152') 3000 3 105 nK152) 0 38 = true := by decide +kernel
set_option maxRecDepth 100000 in
theorem nU98_0 : rPcs nF98 (rPiece 158 (rLk nL98) nHn (rLm nL98) (rHl nH98') nJ0 nOr0 (rTab nT98') 3000 10 89 nK98) 0 5 = true := by decide +kernel
set_option maxRecDepth 100000 in
theorem nU132_c : rCov nF132 17 = true := by decide +kernel
def nL128 : List (Nat × Nat × List (Option mI)) := [(115, 5, nC115), (71, 1, nC71), (113, 2, nC113), (178, 4, nC178)]
def nT128' : List (Nat × List rCo) := [(179, [nK126]), (180, [nK127])]
def nH128' : List (Nat × Nat × rHt) := []
set_option maxRecDepth 100000 in
theorem nV128' : rChk 158 (rLk nL128) nHn (rLm nL128) (rHl nH128') nJ0 nOr0 (rTab nT128') 3000 115 nK128 = true := by decide +kernel
def nL122 : List (Nat × Nat × List (Option mI)) := [(109, 5, nC109), (113, 2, nC113)]
def nT122' : List (Nat × List rCo) := [(168, [nK112]), (46, [nK113]), (169, [nK118]), (170, [nK119]), (171, [nK116]), (172, [nK117]), (173, [nK120])]
def nH122' : List (Nat × Nat × rHt) := []
set_option maxRecDepth 100000 in
theorem nV122' : rChk 158 (rLk nL122) nHn (rLm nL122) (rHl nH122') nJ0 nOr0 (rTab nT122') 3000 109 nK122 = true := by decide +kernel
def nL119 : List (Nat × Nat × List (Option mI)) := [(170, 3, nC170), (215, 5, nC215), (70, 1, nC70), (216, 6, nC216)]
def nT119' : List (Nat × List rCo) := [(74, [nK109]), (177, [nK115]), (73, [nK108]), (146, [nK110])]
def nH119' : List (Nat × Nat × rHt) := []
set_option maxRecDepth 100000 in
theorem nV119' : rChk 158 (rLk nL119) nHn (rLm nL119) (rHl nH119') nJ0 nOr0 (rTab nT119') 3000 170 nK119 = true := by decide +kernel
def nL16 : List (Nat × Nat × List (Option mI)) := [(164, 1, nC164), (209, 3, nC209), (210, 1, nC210), (211, 2, nC211)]
def nT16' : List (Nat × List rCo) := [(76, [nK4]), (86, [nK2]), (212, [nK5])]
def nH16' : List (Nat × Nat × rHt) := []
set_option maxRecDepth 100000 in
theorem nV16' : rChk 158 (rLk nL16) nHn (rLm nL16) (rHl nH16') nJ0 nOr0 (rTab nT16') 3000 164 nK16 = true := by decide +kernel
def nL37 : List (Nat × Nat × List (Option mI)) := [(125, 7, nC125), (183, 1, nC183), (217, 1, nC217), (184, 2, nC184), (218, 1, nC218), (219, 2, nC219)]
def nT37' : List (Nat × List rCo) := [(226, [nKc 0 2, nKc 1 2, nKc 0 3, nKc 1 3, nKc 2 3, nKc 0 4, nKc 1 4, nKc 2 4, nKc 3 4]), (185, [nK34])]
def nH37' : List (Nat × Nat × rHt) := []
set_option maxRecDepth 100000 in
theorem nV37' : rChk 158 (rLk nL37) nHn (rLm nL37) (rHl nH37') nJ0 nOr0 (rTab nT37') 3000 125 nK37 = true := by decide +kernel
def nL13 : List (Nat × Nat × List (Option mI)) := [(161, 2, nC161), (197, 1, nC197)]
def nT13' : List (Nat × List rCo) := [(192, [nK3]), (76, [nK4]), (154, [nK1]), (207, [nK7])]
def nH13' : List (Nat × Nat × rHt) := []
set_option maxRecDepth 100000 in
theorem nV13' : rChk 158 (rLk nL13) nHn (rLm nL13) (rHl nH13') nJ0 nOr0 (rTab nT13') 3000 161 nK13 = true := by decide +kernel
def nL105 : List (Nat × Nat × List (Option mI)) := [(62, 3, nC62)]
def nT105' : List (Nat × List rCo) := []
def nH105' : List (Nat × Nat × rHt) := [(62, 2, .inl ([(2, 2, 0, 0, 200, 0, 0)], [0, 1], (0, 1), (0, 0, 0)))]
set_option maxRecDepth 100000 in
theorem nV105' : rChk 158 (rLk nL105) nHn (rLm nL105) (rHl nH105') nJ0 nOr0 (rTab nT105') 3000 62 nK105 = true := by decide +kernel
def nL112 : List (Nat × Nat × List (Option mI)) := [(168, 1, nC168)]
def nT112' : List (Nat × List rCo) := []
def nH112' : List (Nat × Nat × rHt) := []
set_option maxRecDepth 100000 in
theorem nV112' : rChk 158 (rLk nL112) nHn (rLm nL112) (rHl nH112') nJ0 nOr0 (rTab nT112') 3000 168 nK112 = true := by decide +kernel
