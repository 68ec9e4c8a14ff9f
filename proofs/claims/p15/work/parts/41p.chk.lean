/-! THE KERNEL'S CHECKS OF THE CONTRACTS: printed by program -/
set_option maxRecDepth 100000 in
theorem nU132_0 : rPcs nF132 (rPiece 158 (rLk nL132) nHn (rLm nL132) (rHl nH132') nJ0 nOr0 (rTab nT132') 3000 8 44 nK132) 0 9 = true := by decide +kernel
set_option maxRecDepth 100000 in
theorem nU155_8 : rPcs nF155 (rPiece 158 (rLk nL155) nHn (rLm nL155) (rHl nH155') nJ0 nOr0 (rTab nT155') 3000 9 147 nK155) 17 1 = true := by decide +kernel
set_option maxRecDepth 100000 in
theorem nU156_c : rCov nF156 3 = true := by decide +kernel
def nL6 : List (Nat × Nat × List (Option mI)) := [(198, 11, nC198), (191, 1, nC191), (130, 2, nC130)]
def nT6' : List (Nat × List rCo) := [(136, [nK0])]
def nH6' : List (Nat × Nat × rHt) := []
set_option maxRecDepth 100000 in
theorem nV6' : rChk 158 (rLk nL6) nHn (rLm nL6) (rHl nH6') nJ0 nOr0 (rTab nT6') 3000 198 nK6 = true := by decide +kernel
def nL124 : List (Nat × Nat × List (Option mI)) := [(111, 10, nC111), (113, 2, nC113), (70, 1, nC70)]
def nT124' : List (Nat × List rCo) := [(73, [nK108]), (146, [nK110])]
def nH124' : List (Nat × Nat × rHt) := [(111, 152, .inl ([(2, 9, 0, 0, 10, 0, 0), (3, 4, 0, -9223372036854775808, 9223372036854775807, 0, 0)], [0, 1, 2, 6, 8], (0, 1), (0, 0, 0)))]
set_option maxRecDepth 100000 in
theorem nV124' : rChk 158 (rLk nL124) nHn (rLm nL124) (rHl nH124') nJ0 nOr0 (rTab nT124') 3000 111 nK124 = true := by decide +kernel
def nL82 : List (Nat × Nat × List (Option mI)) := [(125, 7, nC125), (183, 1, nC183), (217, 1, nC217), (184, 2, nC184), (218, 1, nC218), (219, 2, nC219)]
def nT82' : List (Nat × List rCo) := [(226, [nKc 0 2, nKc 1 2, nKc 0 3, nKc 1 3, nKc 2 3, nKc 0 4, nKc 1 4, nKc 2 4, nKc 3 4]), (185, [nK34])]
def nH82' : List (Nat × Nat × rHt) := []
set_option maxRecDepth 100000 in
theorem nV82' : rChk 158 (rLk nL82) nHn (rLm nL82) (rHl nH82') nJ0 nOr0 (rTab nT82') 3000 125 nK82 = true := by decide +kernel
def nL81 : List (Nat × Nat × List (Option mI)) := [(125, 7, nC125), (183, 1, nC183), (217, 1, nC217), (184, 2, nC184), (218, 1, nC218), (219, 2, nC219)]
def nT81' : List (Nat × List rCo) := [(226, [nKc 0 2, nKc 1 2, nKc 0 3, nKc 1 3, nKc 2 3, nKc 0 4, nKc 1 4, nKc 2 4, nKc 3 4]), (185, [nK34])]
def nH81' : List (Nat × Nat × rHt) := []
set_option maxRecDepth 100000 in
theorem nV81' : rChk 158 (rLk nL81) nHn (rLm nL81) (rHl nH81') nJ0 nOr0 (rTab nT81') 3000 125 nK81 = true := by decide +kernel
def nL38 : List (Nat × Nat × List (Option mI)) := [(125, 7, nC125), (183, 1, nC183), (217, 1, nC217), (184, 2, nC184), (218, 1, nC218), (219, 2, nC219)]
def nT38' : List (Nat × List rCo) := [(226, [nKc 0 2, nKc 1 2, nKc 0 3, nKc 1 3, nKc 2 3, nKc 0 4, nKc 1 4, nKc 2 4, nKc 3 4]), (185, [nK34])]
def nH38' : List (Nat × Nat × rHt) := []
set_option maxRecDepth 100000 in
theorem nV38' : rChk 158 (rLk nL38) nHn (rLm nL38) (rHl nH38') nJ0 nOr0 (rTab nT38') 3000 125 nK38 = true := by decide +kernel
def nL30 : List (Nat × Nat × List (Option mI)) := [(222, 2, nC222)]
def nT30' : List (Nat × List rCo) := []
def nH30' : List (Nat × Nat × rHt) := []
set_option maxRecDepth 100000 in
theorem nV30' : rChk 158 (rLk nL30) nHn (rLm nL30) (rHl nH30') nJ0 nOr0 (rTab nT30') 3000 222 nK30 = true := by decide +kernel
def nL3 : List (Nat × Nat × List (Option mI)) := [(192, 2, nC192)]
def nT3' : List (Nat × List rCo) := []
def nH3' : List (Nat × Nat × rHt) := []
set_option maxRecDepth 100000 in
theorem nV3' : rChk 158 (rLk nL3) nHn (rLm nL3) (rHl nH3') nJ0 nOr0 (rTab nT3') 3000 192 nK3 = true := by decide +kernel
