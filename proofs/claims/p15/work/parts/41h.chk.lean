/-! THE KERNEL'S CHECKS OF THE CONTRACTS: printed by program -/
set_option maxRecDepth 100000 in
theorem nU125_1 : rPcs nF125 (rPiece 158 (rLk nL125) nHn (rLm nL125) (rHl nH125') nJ0 nOr0 (rTab nT125') 3000 5 112 nK125) 32 31 = true := by decide +kernel
set_option maxRecDepth 100000 in
theorem nU152_1 : rPcs nF152 (rPiece 158 (rLk nL152) nHn (rLm nL152) (rHl nH152') nJ0 nOr0 (rTab nT152') 3000 3 105 nK152) 38 23 = true := by decide +kernel
set_option maxRecDepth 100000 in
theorem nU12_c : rCov nF12 64 = true := by decide +kernel
def nL161 : List (Nat × Nat × List (Option mI)) := [(41, 8, nC41), (40, 1, nC40)]
def nT161' : List (Nat × List rCo) := [(64, [nK134]), (65, [nK135]), (66, [nK136, nK137]), (67, [nK160])]
def nH161' : List (Nat × Nat × rHt) := []
set_option maxRecDepth 100000 in
theorem nV161' : rChk 158 (rLk nL161) nHn (rLm nL161) (rHl nH161') nJ0 nOr0 (rTab nT161') 3000 41 nK161 = true := by decide +kernel
def nL78 : List (Nat × Nat × List (Option mI)) := [(125, 7, nC125), (183, 1, nC183), (217, 1, nC217), (184, 2, nC184), (218, 1, nC218), (219, 2, nC219)]
def nT78' : List (Nat × List rCo) := [(226, [nKc 0 2, nKc 1 2, nKc 0 3, nKc 1 3, nKc 2 3, nKc 0 4, nKc 1 4, nKc 2 4, nKc 3 4]), (185, [nK34])]
def nH78' : List (Nat × Nat × rHt) := []
set_option maxRecDepth 100000 in
theorem nV78' : rChk 158 (rLk nL78) nHn (rLm nL78) (rHl nH78') nJ0 nOr0 (rTab nT78') 3000 125 nK78 = true := by decide +kernel
def nL118 : List (Nat × Nat × List (Option mI)) := [(169, 2, nC169), (70, 1, nC70), (214, 1, nC214), (225, 1, nC225)]
def nT118' : List (Nat × List rCo) := [(73, [nK108]), (146, [nK110])]
def nH118' : List (Nat × Nat × rHt) := []
set_option maxRecDepth 100000 in
theorem nV118' : rChk 158 (rLk nL118) nHn (rLm nL118) (rHl nH118') nJ0 nOr0 (rTab nT118') 3000 169 nK118 = true := by decide +kernel
def nL53 : List (Nat × Nat × List (Option mI)) := [(125, 7, nC125), (183, 1, nC183), (217, 1, nC217), (184, 2, nC184), (218, 1, nC218), (219, 2, nC219)]
def nT53' : List (Nat × List rCo) := [(226, [nKc 0 2, nKc 1 2, nKc 0 3, nKc 1 3, nKc 2 3, nKc 0 4, nKc 1 4, nKc 2 4, nKc 3 4]), (185, [nK34])]
def nH53' : List (Nat × Nat × rHt) := []
set_option maxRecDepth 100000 in
theorem nV53' : rChk 158 (rLk nL53) nHn (rLm nL53) (rHl nH53') nJ0 nOr0 (rTab nT53') 3000 125 nK53 = true := by decide +kernel
def nL57 : List (Nat × Nat × List (Option mI)) := [(125, 7, nC125), (183, 1, nC183), (217, 1, nC217), (184, 2, nC184), (218, 1, nC218), (219, 2, nC219)]
def nT57' : List (Nat × List rCo) := [(226, [nKc 0 2, nKc 1 2, nKc 0 3, nKc 1 3, nKc 2 3, nKc 0 4, nKc 1 4, nKc 2 4, nKc 3 4]), (185, [nK34])]
def nH57' : List (Nat × Nat × rHt) := []
set_option maxRecDepth 100000 in
theorem nV57' : rChk 158 (rLk nL57) nHn (rLm nL57) (rHl nH57') nJ0 nOr0 (rTab nT57') 3000 125 nK57 = true := by decide +kernel
def nL116 : List (Nat × Nat × List (Option mI)) := [(171, 3, nC171), (70, 1, nC70)]
def nT116' : List (Nat × List rCo) := [(73, [nK108]), (146, [nK110])]
def nH116' : List (Nat × Nat × rHt) := []
set_option maxRecDepth 100000 in
theorem nV116' : rChk 158 (rLk nL116) nHn (rLm nL116) (rHl nH116') nJ0 nOr0 (rTab nT116') 3000 171 nK116 = true := by decide +kernel
def nL1 : List (Nat × Nat × List (Option mI)) := [(154, 3, nC154), (138, 1, nC138), (190, 2, nC190), (191, 1, nC191), (130, 2, nC130)]
def nT1' : List (Nat × List rCo) := []
def nH1' : List (Nat × Nat × rHt) := []
set_option maxRecDepth 100000 in
theorem nV1' : rChk 158 (rLk nL1) nHn (rLm nL1) (rHl nH1') nJ0 nOr0 (rTab nT1') 3000 154 nK1 = true := by decide +kernel
