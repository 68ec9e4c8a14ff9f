/-! THE KERNEL'S CHECKS OF THE CONTRACTS: printed by program -/
set_option maxRecDepth 100000 in
theorem nV12_0 : rPcs nF12 (rPiece 158 (rLk nL12) nHn (rLm nL12) (rHl nH12') nJ0 nOr0 (rTab nT12') 3000 4 160 nK12) 0 29 = true := by decide +kernel
set_option maxRecDepth 100000 in
theorem nV150_6 : rPcs nF150 (rPiece 158 (rLk nL150) nHn (rLm nL150) (rHl nH150') nJ0 nOr0 (rTab nT150') 3000 7 149 nK150) 6 1 = true := by decide +kernel
set_option maxRecDepth 100000 in
theorem nV150_4 : rPcs nF150 (rPiece 158 (rLk nL150) nHn (rLm nL150) (rHl nH150') nJ0 nOr0 (rTab nT150') 3000 7 149 nK150) 4 1 = true := by decide +kernel
def nL72 : List (Nat × Nat × List (Option mI)) := [(125, 7, nC125), (183, 1, nC183), (217, 1, nC217), (184, 2, nC184), (218, 1, nC218), (219, 2, nC219)]
def nT72' : List (Nat × List rCo) := [(226, [nKc 0 2, nKc 1 2, nKc 0 3, nKc 1 3, nKc 2 3, nKc 0 4, nKc 1 4, nKc 2 4, nKc 3 4]), (185, [nK34])]
def nH72' : List (Nat × Nat × rHt) := []
set_option maxRecDepth 100000 in
theorem nV72' : rChk 158 (rLk nL72) nHn (rLm nL72) (rHl nH72') nJ0 nOr0 (rTab nT72') 3000 125 nK72 = true := by decide +kernel
def nL52 : List (Nat × Nat × List (Option mI)) := [(125, 7, nC125), (183, 1, nC183), (217, 1, nC217), (184, 2, nC184), (218, 1, nC218), (219, 2, nC219)]
def nT52' : List (Nat × List rCo) := [(226, [nKc 0 2, nKc 1 2, nKc 0 3, nKc 1 3, nKc 2 3, nKc 0 4, nKc 1 4, nKc 2 4, nKc 3 4]), (185, [nK34])]
def nH52' : List (Nat × Nat × rHt) := []
set_option maxRecDepth 100000 in
theorem nV52' : rChk 158 (rLk nL52) nHn (rLm nL52) (rHl nH52') nJ0 nOr0 (rTab nT52') 3000 125 nK52 = true := by decide +kernel
def nL58 : List (Nat × Nat × List (Option mI)) := [(125, 7, nC125), (183, 1, nC183), (217, 1, nC217), (184, 2, nC184), (218, 1, nC218), (219, 2, nC219)]
def nT58' : List (Nat × List rCo) := [(226, [nKc 0 2, nKc 1 2, nKc 0 3, nKc 1 3, nKc 2 3, nKc 0 4, nKc 1 4, nKc 2 4, nKc 3 4]), (185, [nK34])]
def nH58' : List (Nat × Nat × rHt) := []
set_option maxRecDepth 100000 in
theorem nV58' : rChk 158 (rLk nL58) nHn (rLm nL58) (rHl nH58') nJ0 nOr0 (rTab nT58') 3000 125 nK58 = true := by decide +kernel
def nL65 : List (Nat × Nat × List (Option mI)) := [(125, 7, nC125), (183, 1, nC183), (217, 1, nC217), (184, 2, nC184), (218, 1, nC218), (219, 2, nC219)]
def nT65' : List (Nat × List rCo) := [(226, [nKc 0 2, nKc 1 2, nKc 0 3, nKc 1 3, nKc 2 3, nKc 0 4, nKc 1 4, nKc 2 4, nKc 3 4]), (185, [nK34])]
def nH65' : List (Nat × Nat × rHt) := []
set_option maxRecDepth 100000 in
theorem nV65' : rChk 158 (rLk nL65) nHn (rLm nL65) (rHl nH65') nJ0 nOr0 (rTab nT65') 3000 125 nK65 = true := by decide +kernel
def nL99 : List (Nat × Nat × List (Option mI)) := [(90, 2, nC90), (119, 1, nC119), (135, 2, nC135), (132, 2, nC132), (137, 2, nC137)]
def nT99' : List (Nat × List rCo) := [(134, [nK93]), (87, [nK88]), (136, [nK0]), (76, [nK4])]
def nH99' : List (Nat × Nat × rHt) := []
set_option maxRecDepth 100000 in
theorem nV99' : rChk 158 (rLk nL99) nHn (rLm nL99) (rHl nH99') nJ0 nOr0 (rTab nT99') 3000 90 nK99 = true := by decide +kernel
def nL8 : List (Nat × Nat × List (Option mI)) := [(106, 4, nC106), (138, 1, nC138)]
def nT8' : List (Nat × List rCo) := [(154, [nK1]), (136, [nK0]), (86, [nK2])]
def nH8' : List (Nat × Nat × rHt) := []
set_option maxRecDepth 100000 in
theorem nV8' : rChk 158 (rLk nL8) nHn (rLm nL8) (rHl nH8') nJ0 nOr0 (rTab nT8') 3000 106 nK8 = true := by decide +kernel
set_option maxRecDepth 100000 in
theorem nV12_c : rCov nF12 64 = true := by decide +kernel
def nL29 : List (Nat × Nat × List (Option mI)) := [(127, 2, nC127)]
def nT29' : List (Nat × List rCo) := []
def nH29' : List (Nat × Nat × rHt) := []
set_option maxRecDepth 100000 in
theorem nV29' : rChk 158 (rLk nL29) nHn (rLm nL29) (rHl nH29') nJ0 nOr0 (rTab nT29') 3000 127 nK29 = true := by decide +kernel
