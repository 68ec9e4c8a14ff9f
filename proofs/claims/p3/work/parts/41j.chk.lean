/-! THE KERNEL'S CHECKS OF THE CONTRACTS: printed by program -/
set_option maxRecDepth 100000 in
theorem nV125_1 : rPcs nF125 (rPiece 158 (rLk nL125) nHn (rLm nL125) (rHl nH125') nJ0 nOr0 (rTab nT125') 3000 5 112 nK125) 19 18 = true := by decide +kernel
set_option maxRecDepth 100000 in
theorem nV155_8 : rPcs nF155 (rPiece 158 (rLk nL155) nHn (rLm nL155) (rHl nH155') nJ0 nOr0 (rTab nT155') 3000 9 147 nK155) 17 1 = true := by decide +kernel
set_option maxRecDepth 100000 in
theorem nV12_2 : rPcs nF12 (rPiece 158 (rLk nL12) nHn (rLm nL12) (rHl nH12') nJ0 nOr0 (rTab nT12') 3000 4 160 nK12) 57 7 = true := by decide +kernel
def nL128 : List (Nat × Nat × List (Option mI)) := [(115, 5, nC115), (71, 1, nC71), (113, 2, nC113), (178, 4, nC178)]
def nT128' : List (Nat × List rCo) := [(179, [nK126]), (180, [nK127])]
def nH128' : List (Nat × Nat × rHt) := []
set_option maxRecDepth 100000 in
theorem nV128' : rChk 158 (rLk nL128) nHn (rLm nL128) (rHl nH128') nJ0 nOr0 (rTab nT128') 3000 115 nK128 = true := by decide +kernel
def nL124 : List (Nat × Nat × List (Option mI)) := [(111, 10, nC111), (113, 2, nC113), (70, 1, nC70)]
def nT124' : List (Nat × List rCo) := [(73, [nK108]), (146, [nK110])]
def nH124' : List (Nat × Nat × rHt) := [(111, 152, .inl ([(2, 9, 0, 0, 10, 0, 0), (3, 4, 0, -9223372036854775808, 9223372036854775807, 0, 0)], [0, 1, 2, 6, 8], (0, 1), (0, 0, 0)))]
set_option maxRecDepth 100000 in
theorem nV124' : rChk 158 (rLk nL124) nHn (rLm nL124) (rHl nH124') nJ0 nOr0 (rTab nT124') 3000 111 nK124 = true := by decide +kernel
def nL48 : List (Nat × Nat × List (Option mI)) := [(125, 7, nC125), (183, 1, nC183), (217, 1, nC217), (184, 2, nC184), (218, 1, nC218), (219, 2, nC219)]
def nT48' : List (Nat × List rCo) := [(226, [nKc 0 2, nKc 1 2, nKc 0 3, nKc 1 3, nKc 2 3, nKc 0 4, nKc 1 4, nKc 2 4, nKc 3 4]), (185, [nK34])]
def nH48' : List (Nat × Nat × rHt) := []
set_option maxRecDepth 100000 in
theorem nV48' : rChk 158 (rLk nL48) nHn (rLm nL48) (rHl nH48') nJ0 nOr0 (rTab nT48') 3000 125 nK48 = true := by decide +kernel
def nL20 : List (Nat × Nat × List (Option mI)) := [(108, 1, nC108)]
def nT20' : List (Nat × List rCo) := [(157, [nK9]), (158, [nK10]), (159, [nK11]), (160, [nK12]), (161, [nK13]), (162, [nK14]), (163, [nK15]), (164, [nK16]), (165, [nK17]), (166, [nK18]), (167, [nK19])]
def nH20' : List (Nat × Nat × rHt) := []
set_option maxRecDepth 100000 in
theorem nV20' : rChk 158 (rLk nL20) nHn (rLm nL20) (rHl nH20') nJ0 nOr0 (rTab nT20') 3000 108 nK20 = true := by decide +kernel
def nL122 : List (Nat × Nat × List (Option mI)) := [(109, 5, nC109), (113, 2, nC113)]
def nT122' : List (Nat × List rCo) := [(168, [nK112]), (46, [nK113]), (169, [nK118]), (170, [nK119]), (171, [nK116]), (172, [nK117]), (173, [nK120])]
def nH122' : List (Nat × Nat × rHt) := []
set_option maxRecDepth 100000 in
theorem nV122' : rChk 158 (rLk nL122) nHn (rLm nL122) (rHl nH122') nJ0 nOr0 (rTab nT122') 3000 109 nK122 = true := by decide +kernel
def nL104 : List (Nat × Nat × List (Option mI)) := [(61, 1, nC61), (95, 2, nC95)]
def nT104' : List (Nat × List rCo) := [(92, [nK101]), (93, [nK102]), (94, [nK103])]
def nH104' : List (Nat × Nat × rHt) := []
set_option maxRecDepth 100000 in
theorem nV104' : rChk 158 (rLk nL104) nHn (rLm nL104) (rHl nH104') nJ0 nOr0 (rTab nT104') 3000 61 nK104 = true := by decide +kernel
set_option maxRecDepth 100000 in
theorem nV150_c : rCov nF150 7 = true := by decide +kernel
def nL141 : List (Nat × Nat × List (Option mI)) := [(145, 5, nC145)]
def nT141' : List (Nat × List rCo) := []
def nH141' : List (Nat × Nat × rHt) := [(145, 5, .inl ([(2, 4, 0, 0, 30, 0, 0), (2, 3, 0, -1, 29, 0, 0)], [0, 1], (0, 1), (0, 0, 0)))]
set_option maxRecDepth 100000 in
theorem nV141' : rChk 158 (rLk nL141) nHn (rLm nL141) (rHl nH141') nJ0 nOr0 (rTab nT141') 3000 145 nK141 = true := by decide +kernel
