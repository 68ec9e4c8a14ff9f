/-! THE KERNEL'S CHECKS OF THE CONTRACTS: printed by program -/
set_option maxRecDepth 100000 in
theorem nV85_3 : rPcs nF85 (rPiece 158 (rLk nL85) nHn (rLm nL85) (rHl nH85') nJ0 nOr0 (rTab nT85') 3000 8 84 nK85) 60 20 = true := by decide +kernel
set_option maxRecDepth 100000 in
theorem nV85_c : rCov nF85 101 = true := by decide +kernel
set_option maxRecDepth 100000 in
theorem nV12_c : rCov nF12 64 = true := by decide +kernel
def nL21 : List (Nat × Nat × List (Option mI)) := [(69, 1, nC69), (107, 1, nC107), (155, 1, nC155), (156, 3, nC156)]
def nT21' : List (Nat × List rCo) := [(76, [nK4]), (106, [nK8]), (108, [nK20])]
def nH21' : List (Nat × Nat × rHt) := []
set_option maxRecDepth 100000 in
theorem nV21' : rChk 158 (rLk nL21) nHn (rLm nL21) (rHl nH21') nJ0 nOr0 (rTab nT21') 3000 69 nK21 = true := by decide +kernel
def nL77 : List (Nat × Nat × List (Option mI)) := [(125, 7, nC125), (183, 1, nC183), (217, 1, nC217), (184, 2, nC184), (218, 1, nC218), (219, 2, nC219)]
def nT77' : List (Nat × List rCo) := [(226, [nKc 0 2, nKc 1 2, nKc 0 3, nKc 1 3, nKc 2 3, nKc 0 4, nKc 1 4, nKc 2 4, nKc 3 4]), (185, [nK34])]
def nH77' : List (Nat × Nat × rHt) := []
set_option maxRecDepth 100000 in
theorem nV77' : rChk 158 (rLk nL77) nHn (rLm nL77) (rHl nH77') nJ0 nOr0 (rTab nT77') 3000 125 nK77 = true := by decide +kernel
def nL45 : List (Nat × Nat × List (Option mI)) := [(125, 7, nC125), (183, 1, nC183), (217, 1, nC217), (184, 2, nC184), (218, 1, nC218), (219, 2, nC219)]
def nT45' : List (Nat × List rCo) := [(226, [nKc 0 2, nKc 1 2, nKc 0 3, nKc 1 3, nKc 2 3, nKc 0 4, nKc 1 4, nKc 2 4, nKc 3 4]), (185, [nK34])]
def nH45' : List (Nat × Nat × rHt) := []
set_option maxRecDepth 100000 in
theorem nV45' : rChk 158 (rLk nL45) nHn (rLm nL45) (rHl nH45') nJ0 nOr0 (rTab nT45') 3000 125 nK45 = true := by decide +kernel
def nL44 : List (Nat × Nat × List (Option mI)) := [(125, 7, nC125), (183, 1, nC183), (217, 1, nC217), (184, 2, nC184), (218, 1, nC218), (219, 2, nC219)]
def nT44' : List (Nat × List rCo) := [(226, [nKc 0 2, nKc 1 2, nKc 0 3, nKc 1 3, nKc 2 3, nKc 0 4, nKc 1 4, nKc 2 4, nKc 3 4]), (185, [nK34])]
def nH44' : List (Nat × Nat × rHt) := []
set_option maxRecDepth 100000 in
theorem nV44' : rChk 158 (rLk nL44) nHn (rLm nL44) (rHl nH44') nJ0 nOr0 (rTab nT44') 3000 125 nK44 = true := by decide +kernel
def nL139 : List (Nat × Nat × List (Option mI)) := [(97, 4, nC97), (139, 1, nC139), (36, 3, nC36)]
def nT139' : List (Nat × List rCo) := []
def nH139' : List (Nat × Nat × rHt) := [(97, 0, .inr (.inl ((2, 1, 0), [239, 240], (0, 0, 0))))]
set_option maxRecDepth 100000 in
theorem nV139' : rChk 158 (rLk nL139) nHn (rLm nL139) (rHl nH139') nJ0 nOr0 (rTab nT139') 3000 97 nK139 = true := by decide +kernel
def nL101 : List (Nat × Nat × List (Option mI)) := [(92, 2, nC92)]
def nT101' : List (Nat × List rCo) := []
def nH101' : List (Nat × Nat × rHt) := [(92, 2, .inl ([(2, 1, 0, 0, 60, 0, 0)], [0], (0, 1), (0, 0, 0)))]
set_option maxRecDepth 100000 in
theorem nV101' : rChk 158 (rLk nL101) nHn (rLm nL101) (rHl nH101') nJ0 nOr0 (rTab nT101') 3000 92 nK101 = true := by decide +kernel
