/-! THE KERNEL'S CHECKS OF THE CONTRACTS: printed by program -/
set_option maxRecDepth 100000 in
theorem nU155_9 : rPcs nF155 (rPiece 158 (rLk nL155) nHn (rLm nL155) (rHl nH155') nJ0 nOr0 (rTab nT155') 3000 9 147 nK155) 18 8 = true := by decide +kernel
set_option maxRecDepth 100000 in
theorem nU155_7 : rPcs nF155 (rPiece 158 (rLk nL155) nHn (rLm nL155) (rHl nH155') nJ0 nOr0 (rTab nT155') 3000 9 147 nK155) 16 1 = true := by decide +kernel
set_option maxRecDepth 100000 in
theorem nU153_c : rCov nF153 60 = true := by decide +kernel
def nL21 : List (Nat × Nat × List (Option mI)) := [(69, 1, nC69), (107, 1, nC107), (155, 1, nC155), (156, 3, nC156)]
def nT21' : List (Nat × List rCo) := [(76, [nK4]), (106, [nK8]), (108, [nK20])]
def nH21' : List (Nat × Nat × rHt) := []
set_option maxRecDepth 100000 in
theorem nV21' : rChk 158 (rLk nL21) nHn (rLm nL21) (rHl nH21') nJ0 nOr0 (rTab nT21') 3000 69 nK21 = true := by decide +kernel
def nL90 : List (Nat × Nat × List (Option mI)) := [(223, 7, nC223)]
def nT90' : List (Nat × List rCo) := []
def nH90' : List (Nat × Nat × rHt) := [(223, 0, .inr (.inl ((2, 2, 0), [47, 48], (0, 0, 0))))]
set_option maxRecDepth 100000 in
theorem nV90' : rChk 158 (rLk nL90) nHn (rLm nL90) (rHl nH90') nJ0 nOr0 (rTab nT90') 3000 223 nK90 = true := by decide +kernel
def nL99 : List (Nat × Nat × List (Option mI)) := [(90, 2, nC90), (119, 1, nC119), (135, 2, nC135), (132, 2, nC132), (137, 2, nC137)]
def nT99' : List (Nat × List rCo) := [(134, [nK93]), (87, [nK88]), (136, [nK0]), (76, [nK4])]
def nH99' : List (Nat × Nat × rHt) := []
set_option maxRecDepth 100000 in
theorem nV99' : rChk 158 (rLk nL99) nHn (rLm nL99) (rHl nH99') nJ0 nOr0 (rTab nT99') 3000 90 nK99 = true := by decide +kernel
def nL60 : List (Nat × Nat × List (Option mI)) := [(125, 7, nC125), (183, 1, nC183), (217, 1, nC217), (184, 2, nC184), (218, 1, nC218), (219, 2, nC219)]
def nT60' : List (Nat × List rCo) := [(226, [nKc 0 2, nKc 1 2, nKc 0 3, nKc 1 3, nKc 2 3, nKc 0 4, nKc 1 4, nKc 2 4, nKc 3 4]), (185, [nK34])]
def nH60' : List (Nat × Nat × rHt) := []
set_option maxRecDepth 100000 in
theorem nV60' : rChk 158 (rLk nL60) nHn (rLm nL60) (rHl nH60') nJ0 nOr0 (rTab nT60') 3000 125 nK60 = true := by decide +kernel
def nL36 : List (Nat × Nat × List (Option mI)) := [(125, 7, nC125), (183, 1, nC183), (217, 1, nC217), (184, 2, nC184), (218, 1, nC218), (219, 2, nC219)]
def nT36' : List (Nat × List rCo) := [(226, [nKc 0 2, nKc 1 2, nKc 0 3, nKc 1 3, nKc 2 3, nKc 0 4, nKc 1 4, nKc 2 4, nKc 3 4]), (185, [nK34])]
def nH36' : List (Nat × Nat × rHt) := []
set_option maxRecDepth 100000 in
theorem nV36' : rChk 158 (rLk nL36) nHn (rLm nL36) (rHl nH36') nJ0 nOr0 (rTab nT36') 3000 125 nK36 = true := by decide +kernel
def nL86 : List (Nat × Nat × List (Option mI)) := [(131, 6, nC131), (190, 2, nC190), (138, 1, nC138), (191, 1, nC191), (130, 2, nC130)]
def nT86' : List (Nat × List rCo) := []
def nH86' : List (Nat × Nat × rHt) := []
set_option maxRecDepth 100000 in
theorem nV86' : rChk 158 (rLk nL86) nHn (rLm nL86) (rHl nH86') nJ0 nOr0 (rTab nT86') 3000 131 nK86 = true := by decide +kernel
def nL135 : List (Nat × Nat × List (Option mI)) := [(65, 4, nC65)]
def nT135' : List (Nat × List rCo) := []
def nH135' : List (Nat × Nat × rHt) := [(65, 2, .inl ([(2, 3, 0, 0, 240, 1, 0), (0, 190, 2, 0, 239, 0, 0), (0, 190, 3, -2147483648, 2147483647, 0, 0), (0, 190, 4, 0, 239, 0, 0), (0, 190, 5, -2147483648, 2147483647, 0, 0)], [0, 1, 2], (0, 1), (0, 0, 0)))]
set_option maxRecDepth 100000 in
theorem nV135' : rChk 158 (rLk nL135) nHn (rLm nL135) (rHl nH135') nJ0 nOr0 (rTab nT135') 3000 65 nK135 = true := by decide +kernel
def nL4 : List (Nat × Nat × List (Option mI)) := [(76, 1, nC76)]
def nT4' : List (Nat × List rCo) := []
def nH4' : List (Nat × Nat × rHt) := []
set_option maxRecDepth 100000 in
theorem nV4' : rChk 158 (rLk nL4) nHn (rLm nL4) (rHl nH4') nJ0 nOr0 (rTab nT4') 3000 76 nK4 = true := by decide +kernel
