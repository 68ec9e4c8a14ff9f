/-! CHECKS CUT SMALLER -/
def nG132 : Option (List (rT ⊕ rR)) := rFrv 158 (rLk nL132) nHn (rLm nL132) (rHl nH132') nJ0 nOr0 (rTab nT132') 3000 8 44 nK132 45
set_option maxRecDepth 100000 in
theorem nW132_0 : rPcs nG132 (rPiece 158 (rLk nL132) nHn (rLm nL132) (rHl nH132') nJ0 nOr0 (rTab nT132') 3000 8 44 nK132) 0 6 = true := by decide +kernel
set_option maxRecDepth 100000 in
theorem nW132_1 : rPcs nG132 (rPiece 158 (rLk nL132) nHn (rLm nL132) (rHl nH132') nJ0 nOr0 (rTab nT132') 3000 8 44 nK132) 6 3 = true := by decide +kernel
set_option maxRecDepth 100000 in
theorem nW132_2 : rPcs nG132 (rPiece 158 (rLk nL132) nHn (rLm nL132) (rHl nH132') nJ0 nOr0 (rTab nT132') 3000 8 44 nK132) 9 2 = true := by decide +kernel
set_option maxRecDepth 100000 in
theorem nW132_c : rCov nG132 11 = true := by decide +kernel
def nG150 : Option (List (rT ⊕ rR)) := rFrv 158 (rLk nL150) nHn (rLm nL150) (rHl nH150') nJ0 nOr0 (rTab nT150') 3000 7 149 nK150 10
set_option maxRecDepth 100000 in
theorem nW150_0 : rPcs nG150 (rPiece 158 (rLk nL150) nHn (rLm nL150) (rHl nH150') nJ0 nOr0 (rTab nT150') 3000 7 149 nK150) 0 1 = true := by decide +kernel
set_option maxRecDepth 100000 in
theorem nW150_1 : rPcs nG150 (rPiece 158 (rLk nL150) nHn (rLm nL150) (rHl nH150') nJ0 nOr0 (rTab nT150') 3000 7 149 nK150) 1 1 = true := by decide +kernel
set_option maxRecDepth 100000 in
theorem nW150_2 : rPcs nG150 (rPiece 158 (rLk nL150) nHn (rLm nL150) (rHl nH150') nJ0 nOr0 (rTab nT150') 3000 7 149 nK150) 2 1 = true := by decide +kernel
set_option maxRecDepth 100000 in
theorem nW150_3 : rPcs nG150 (rPiece 158 (rLk nL150) nHn (rLm nL150) (rHl nH150') nJ0 nOr0 (rTab nT150') 3000 7 149 nK150) 3 1 = true := by decide +kernel
set_option maxRecDepth 100000 in
theorem nW150_4 : rPcs nG150 (rPiece 158 (rLk nL150) nHn (rLm nL150) (rHl nH150') nJ0 nOr0 (rTab nT150') 3000 7 149 nK150) 4 1 = true := by decide +kernel
set_option maxRecDepth 100000 in
theorem nW150_c : rCov nG150 5 = true := by decide +kernel
