/-! THE KERNEL'S CHECKS OF THE CONTRACTS: printed by program -/
set_option maxRecDepth 100000 in
theorem nV160_0 : rPcs nF160 (rPiece 158 (rLk nL160) nHn (rLm nL160) (rHl nH160') nJ0 nOr0 (rTab nT160') 3000 11 67 nK160) 0 1 = true := by decide +kernel
set_option maxRecDepth 100000 in
theorem nV150_2 : rPcs nF150 (rPiece 158 (rLk nL150) nHn (rLm nL150) (rHl nH150') nJ0 nOr0 (rTab nT150') 3000 7 149 nK150) 2 1 = true := by decide +kernel
set_option maxRecDepth 100000 in
theorem nV150_c : rCov nF150 3 = true := by decide +kernel
def nL91 : List (Nat × Nat × List (Option mI)) := [(221, 3, nC221), (121, 1, nC121), (122, 1, nC122)]
def nT91' : List (Nat × List rCo) := [(127, [nK29]), (120, [nK27]), (68, [nK31, nK32]), (136, [nK0])]
def nH91' : List (Nat × Nat × rHt) := []
set_option maxRecDepth 100000 in
theorem nV91' : rChk 158 (rLk nL91) nHn (rLm nL91) (rHl nH91') nJ0 nOr0 (rTab nT91') 3000 221 nK91 = true := by decide +kernel
def nL80 : List (Nat × Nat × List (Option mI)) := [(125, 7, nC125), (183, 1, nC183), (217, 1, nC217), (184, 2, nC184), (218, 1, nC218), (219, 2, nC219)]
def nT80' : List (Nat × List rCo) := [(226, [nKc 0 2, nKc 1 2, nKc 0 3, nKc 1 3, nKc 2 3, nKc 0 4, nKc 1 4, nKc 2 4, nKc 3 4]), (185, [nK34])]
def nH80' : List (Nat × Nat × rHt) := []
set_option maxRecDepth 100000 in
theorem nV80' : rChk 158 (rLk nL80) nHn (rLm nL80) (rHl nH80') nJ0 nOr0 (rTab nT80') 3000 125 nK80 = true := by decide +kernel
def nL59 : List (Nat × Nat × List (Option mI)) := [(125, 7, nC125), (183, 1, nC183), (217, 1, nC217), (184, 2, nC184), (218, 1, nC218), (219, 2, nC219)]
def nT59' : List (Nat × List rCo) := [(226, [nKc 0 2, nKc 1 2, nKc 0 3, nKc 1 3, nKc 2 3, nKc 0 4, nKc 1 4, nKc 2 4, nKc 3 4]), (185, [nK34])]
def nH59' : List (Nat × Nat × rHt) := []
set_option maxRecDepth 100000 in
theorem nV59' : rChk 158 (rLk nL59) nHn (rLm nL59) (rHl nH59') nJ0 nOr0 (rTab nT59') 3000 125 nK59 = true := by decide +kernel
def nL9 : List (Nat × Nat × List (Option mI)) := [(157, 2, nC157), (197, 1, nC197), (199, 5, nC199), (191, 1, nC191), (138, 1, nC138), (130, 2, nC130), (200, 6, nC200), (203, 1, nC203)]
def nT9' : List (Nat × List rCo) := [(192, [nK3]), (76, [nK4]), (154, [nK1]), (136, [nK0]), (198, [nK6])]
def nH9' : List (Nat × Nat × rHt) := []
set_option maxRecDepth 100000 in
theorem nV9' : rChk 158 (rLk nL9) nHn (rLm nL9) (rHl nH9') nJ0 nOr0 (rTab nT9') 3000 157 nK9 = true := by decide +kernel
def nL162 : List (Nat × Nat × List (Option mI)) := [(39, 2, nC39)]
def nT162' : List (Nat × List rCo) := []
def nH162' : List (Nat × Nat × rHt) := [(39, 53, .inl ([(2, 1, 0, 0, 200, 0, 0)], [0], (0, 1), (0, 0, 0))), (39, 73, .inr (.inr 3))]
set_option maxRecDepth 100000 in
theorem nV162' : rChk 158 (rLk nL162) nHn (rLm nL162) (rHl nH162') nJ0 nOr0 (rTab nT162') 3000 39 nK162 = true := by decide +kernel
def nL154 : List (Nat × Nat × List (Option mI)) := [(102, 3, nC102)]
def nT154' : List (Nat × List rCo) := [(105, [nK152, nK153])]
def nH154' : List (Nat × Nat × rHt) := []
set_option maxRecDepth 100000 in
theorem nV154' : rChk 158 (rLk nL154) nHn (rLm nL154) (rHl nH154') nJ0 nOr0 (rTab nT154') 3000 102 nK154 = true := by decide +kernel
def nL108 : List (Nat × Nat × List (Option mI)) := [(73, 1, nC73)]
def nT108' : List (Nat × List rCo) := []
def nH108' : List (Nat × Nat × rHt) := []
set_option maxRecDepth 100000 in
theorem nV108' : rChk 158 (rLk nL108) nHn (rLm nL108) (rHl nH108') nJ0 nOr0 (rTab nT108') 3000 73 nK108 = true := by decide +kernel
