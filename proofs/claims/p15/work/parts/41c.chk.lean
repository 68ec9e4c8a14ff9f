/-! THE KERNEL'S CHECKS OF THE CONTRACTS: printed by program -/
set_option maxRecDepth 100000 in
theorem nU85_2 : rPcs nF85 (rPiece 158 (rLk nL85) nHn (rLm nL85) (rHl nH85') nJ0 nOr0 (rTab nT85') 3000 8 84 nK85) 52 26 = true := by decide +kernel
set_option maxRecDepth 100000 in
theorem nU150_4 : rPcs nF150 (rPiece 158 (rLk nL150) nHn (rLm nL150) (rHl nH150') nJ0 nOr0 (rTab nT150') 3000 7 149 nK150) 4 1 = true := by decide +kernel
set_option maxRecDepth 100000 in
theorem nU155_c : rCov nF155 26 = true := by decide +kernel
set_option maxRecDepth 100000 in
theorem nU150_c : rCov nF150 5 = true := by decide +kernel
def nL96 : List (Nat × Nat × List (Option mI)) := [(129, 1, nC129)]
def nT96' : List (Nat × List rCo) := []
def nH96' : List (Nat × Nat × rHt) := []
set_option maxRecDepth 100000 in
theorem nV96' : rChk 158 (rLk nL96) nHn (rLm nL96) (rHl nH96') nJ0 nOr0 (rTab nT96') 3000 129 nK96 = true := by decide +kernel
def nL10 : List (Nat × Nat × List (Option mI)) := [(158, 1, nC158), (201, 6, nC201), (203, 1, nC203), (138, 1, nC138), (204, 3, nC204), (191, 1, nC191), (130, 2, nC130), (202, 5, nC202), (205, 3, nC205)]
def nT10' : List (Nat × List rCo) := []
def nH10' : List (Nat × Nat × rHt) := []
set_option maxRecDepth 100000 in
theorem nV10' : rChk 158 (rLk nL10) nHn (rLm nL10) (rHl nH10') nJ0 nOr0 (rTab nT10') 3000 158 nK10 = true := by decide +kernel
def nL54 : List (Nat × Nat × List (Option mI)) := [(125, 7, nC125), (183, 1, nC183), (217, 1, nC217), (184, 2, nC184), (218, 1, nC218), (219, 2, nC219)]
def nT54' : List (Nat × List rCo) := [(226, [nKc 0 2, nKc 1 2, nKc 0 3, nKc 1 3, nKc 2 3, nKc 0 4, nKc 1 4, nKc 2 4, nKc 3 4]), (185, [nK34])]
def nH54' : List (Nat × Nat × rHt) := []
set_option maxRecDepth 100000 in
theorem nV54' : rChk 158 (rLk nL54) nHn (rLm nL54) (rHl nH54') nJ0 nOr0 (rTab nT54') 3000 125 nK54 = true := by decide +kernel
def nL64 : List (Nat × Nat × List (Option mI)) := [(125, 7, nC125), (183, 1, nC183), (217, 1, nC217), (184, 2, nC184), (218, 1, nC218), (219, 2, nC219)]
def nT64' : List (Nat × List rCo) := [(226, [nKc 0 2, nKc 1 2, nKc 0 3, nKc 1 3, nKc 2 3, nKc 0 4, nKc 1 4, nKc 2 4, nKc 3 4]), (185, [nK34])]
def nH64' : List (Nat × Nat × rHt) := []
set_option maxRecDepth 100000 in
theorem nV64' : rChk 158 (rLk nL64) nHn (rLm nL64) (rHl nH64') nJ0 nOr0 (rTab nT64') 3000 125 nK64 = true := by decide +kernel
def nL141 : List (Nat × Nat × List (Option mI)) := [(145, 5, nC145)]
def nT141' : List (Nat × List rCo) := []
def nH141' : List (Nat × Nat × rHt) := [(145, 5, .inl ([(2, 4, 0, 0, 30, 0, 0), (2, 3, 0, -1, 29, 0, 0)], [0, 1], (0, 1), (0, 0, 0)))]
set_option maxRecDepth 100000 in
theorem nV141' : rChk 158 (rLk nL141) nHn (rLm nL141) (rHl nH141') nJ0 nOr0 (rTab nT141') 3000 145 nK141 = true := by decide +kernel
def nL32 : List (Nat × Nat × List (Option mI)) := [(68, 4, nC68)]
def nT32' : List (Nat × List rCo) := []
def nH32' : List (Nat × Nat × rHt) := [(68, 2, .inl ([(2, 3, 0, 0, 30, 0, 0)], [0, 1], (0, 1), (0, 0, 0)))]
set_option maxRecDepth 100000 in
theorem nV32' : rChk 158 (rLk nL32) nHn (rLm nL32) (rHl nH32') nJ0 nOr0 (rTab nT32') 3000 68 nK32 = true := by decide +kernel
