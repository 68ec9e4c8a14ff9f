/-! THE KERNEL'S CHECKS OF THE CONTRACTS: printed by program -/
def nL160 : List (Nat × Nat × List (Option mI)) := [(67, 12, nC67), (40, 1, nC40)]
def nT160' : List (Nat × List rCo) := [(97, [nK139]), (98, [nK159]), (99, [nK140]), (66, [nK136, nK137]), (100, [nK142]), (101, [nK111]), (102, [nK154]), (103, [nK156]), (104, [nK158]), (105, [nK152, nK153])]
def nH160' : List (Nat × Nat × rHt) := [(67, 35, .inr (.inr 1))]
set_option maxRecDepth 100000 in
theorem nV160' : rChk 158 (rLk nL160) nHn (rLm nL160) (rHl nH160') nJ0 nOr0 (rTab nT160') 3000 67 nK160 = true := by decide +kernel
set_option maxRecDepth 100000 in
theorem nV150_2 : rPcs nF150 (rPiece 158 (rLk nL150) nHn (rLm nL150) (rHl nH150') nJ0 nOr0 (rTab nT150') 3000 7 149 nK150) 2 1 = true := by decide +kernel
set_option maxRecDepth 100000 in
theorem nV125_3 : rPcs nF125 (rPiece 158 (rLk nL125) nHn (rLm nL125) (rHl nH125') nJ0 nOr0 (rTab nT125') 3000 5 112 nK125) 55 9 = true := by decide +kernel
def nL71 : List (Nat × Nat × List (Option mI)) := [(125, 7, nC125), (183, 1, nC183), (217, 1, nC217), (184, 2, nC184), (218, 1, nC218), (219, 2, nC219)]
def nT71' : List (Nat × List rCo) := [(226, [nKc 0 2, nKc 1 2, nKc 0 3, nKc 1 3, nKc 2 3, nKc 0 4, nKc 1 4, nKc 2 4, nKc 3 4]), (185, [nK34])]
def nH71' : List (Nat × Nat × rHt) := []
set_option maxRecDepth 100000 in
theorem nV71' : rChk 158 (rLk nL71) nHn (rLm nL71) (rHl nH71') nJ0 nOr0 (rTab nT71') 3000 125 nK71 = true := by decide +kernel
def nL50 : List (Nat × Nat × List (Option mI)) := [(125, 7, nC125), (183, 1, nC183), (217, 1, nC217), (184, 2, nC184), (218, 1, nC218), (219, 2, nC219)]
def nT50' : List (Nat × List rCo) := [(226, [nKc 0 2, nKc 1 2, nKc 0 3, nKc 1 3, nKc 2 3, nKc 0 4, nKc 1 4, nKc 2 4, nKc 3 4]), (185, [nK34])]
def nH50' : List (Nat × Nat × rHt) := []
set_option maxRecDepth 100000 in
theorem nV50' : rChk 158 (rLk nL50) nHn (rLm nL50) (rHl nH50') nJ0 nOr0 (rTab nT50') 3000 125 nK50 = true := by decide +kernel
def nL56 : List (Nat × Nat × List (Option mI)) := [(125, 7, nC125), (183, 1, nC183), (217, 1, nC217), (184, 2, nC184), (218, 1, nC218), (219, 2, nC219)]
def nT56' : List (Nat × List rCo) := [(226, [nKc 0 2, nKc 1 2, nKc 0 3, nKc 1 3, nKc 2 3, nKc 0 4, nKc 1 4, nKc 2 4, nKc 3 4]), (185, [nK34])]
def nH56' : List (Nat × Nat × rHt) := []
set_option maxRecDepth 100000 in
theorem nV56' : rChk 158 (rLk nL56) nHn (rLm nL56) (rHl nH56') nJ0 nOr0 (rTab nT56') 3000 125 nK56 = true := by decide +kernel
def nL64 : List (Nat × Nat × List (Option mI)) := [(125, 7, nC125), (183, 1, nC183), (217, 1, nC217), (184, 2, nC184), (218, 1, nC218), (219, 2, nC219)]
def nT64' : List (Nat × List rCo) := [(226, [nKc 0 2, nKc 1 2, nKc 0 3, nKc 1 3, nKc 2 3, nKc 0 4, nKc 1 4, nKc 2 4, nKc 3 4]), (185, [nK34])]
def nH64' : List (Nat × Nat × rHt) := []
set_option maxRecDepth 100000 in
theorem nV64' : rChk 158 (rLk nL64) nHn (rLm nL64) (rHl nH64') nJ0 nOr0 (rTab nT64') 3000 125 nK64 = true := by decide +kernel
def nL148 : List (Nat × Nat × List (Option mI)) := [(144, 2, nC144)]
def nT148' : List (Nat × List rCo) := []
def nH148' : List (Nat × Nat × rHt) := []
set_option maxRecDepth 100000 in
theorem nV148' : rChk 158 (rLk nL148) nHn (rLm nL148) (rHl nH148') nJ0 nOr0 (rTab nT148') 3000 144 nK148 = true := by decide +kernel
def nL24 : List (Nat × Nat × List (Option mI)) := [(82, 2, nC82)]
def nT24' : List (Nat × List rCo) := []
def nH24' : List (Nat × Nat × rHt) := [(82, 32, .inl ([(2, 1, 0, 0, 240, 0, 0)], [0], (0, 1), (0, 0, 0)))]
set_option maxRecDepth 100000 in
theorem nV24' : rChk 158 (rLk nL24) nHn (rLm nL24) (rHl nH24') nJ0 nOr0 (rTab nT24') 3000 82 nK24 = true := by decide +kernel
set_option maxRecDepth 100000 in
theorem nV27_c : rCov nF27 1 = true := by decide +kernel
def nL101 : List (Nat × Nat × List (Option mI)) := [(92, 2, nC92)]
def nT101' : List (Nat × List rCo) := []
def nH101' : List (Nat × Nat × rHt) := [(92, 2, .inl ([(2, 1, 0, 0, 60, 0, 0)], [0], (0, 1), (0, 0, 0)))]
set_option maxRecDepth 100000 in
theorem nV101' : rChk 158 (rLk nL101) nHn (rLm nL101) (rHl nH101') nJ0 nOr0 (rTab nT101') 3000 92 nK101 = true := by decide +kernel
