/-! THE KERNEL'S CHECKS OF THE CONTRACTS: printed by program -/
def nL155 : List (Nat × Nat × List (Option mI)) := [(147, 5, nC147), (148, 1, nC148), (150, 2, nC150), (40, 1, nC40), (193, 3, nC193)]
def nT155' : List (Nat × List rCo) := [(152, [nK151]), (66, [nK136, nK137]), (97, [nK139]), (99, [nK140]), (140, [nK138]), (145, [nK141]), (100, [nK142]), (149, [nK150])]
def nH155' : List (Nat × Nat × rHt) := []
set_option maxRecDepth 100000 in
theorem nV155' : rChk 158 (rLk nL155) nHn (rLm nL155) (rHl nH155') nJ0 nOr0 (rTab nT155') 3000 147 nK155 = true := by decide +kernel
