/-! THE KERNEL'S CHECKS OF THE CONTRACTS: printed by program -/
set_option maxRecDepth 100000 in
theorem nV27_0 : rPcs nF27 (rPiece 158 (rLk nL27) nHn (rLm nL27) (rHl nH27') nJ0 nOr0 (rTab nT27') 3000 1 120 nK27) 0 1 = true := by decide +kernel
