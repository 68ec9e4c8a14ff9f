/-! THE KERNEL'S CHECKS OF THE CONTRACTS: printed by program -/
set_option maxRecDepth 100000 in
theorem nV156_0 : rPcs nF156 (rPiece 158 (rLk nL156) nHn (rLm nL156) (rHl nH156') nJ0 nOr0 (rTab nT156') 3000 10 103 nK156) 0 2 = true := by decide +kernel
set_option maxRecDepth 100000 in
theorem nV159_1 : rPcs nF159 (rPiece 158 (rLk nL159) nHn (rLm nL159) (rHl nH159') nJ0 nOr0 (rTab nT159') 3000 3 98 nK159) 10 1 = true := by decide +kernel
set_option maxRecDepth 100000 in
theorem nV150_3 : rPcs nF150 (rPiece 158 (rLk nL150) nHn (rLm nL150) (rHl nH150') nJ0 nOr0 (rTab nT150') 3000 7 149 nK150) 3 1 = true := by decide +kernel
def nL70 : List (Nat × Nat × List (Option mI)) := [(125, 7, nC125), (183, 1, nC183), (217, 1, nC217), (184, 2, nC184), (218, 1, nC218), (219, 2, nC219)]
def nT70' : List (Nat × List rCo) := [(226, [nKc 0 2, nKc 1 2, nKc 0 3, nKc 1 3, nKc 2 3, nKc 0 4, nKc 1 4, nKc 2 4, nKc 3 4]), (185, [nK34])]
def nH70' : List (Nat × Nat × rHt) := []
set_option maxRecDepth 100000 in
theorem nV70' : rChk 158 (rLk nL70) nHn (rLm nL70) (rHl nH70') nJ0 nOr0 (rTab nT70') 3000 125 nK70 = true := by decide +kernel
def nL49 : List (Nat × Nat × List (Option mI)) := [(125, 7, nC125), (183, 1, nC183), (217, 1, nC217), (184, 2, nC184), (218, 1, nC218), (219, 2, nC219)]
def nT49' : List (Nat × List rCo) := [(226, [nKc 0 2, nKc 1 2, nKc 0 3, nKc 1 3, nKc 2 3, nKc 0 4, nKc 1 4, nKc 2 4, nKc 3 4]), (185, [nK34])]
def nH49' : List (Nat × Nat × rHt) := []
set_option maxRecDepth 100000 in
theorem nV49' : rChk 158 (rLk nL49) nHn (rLm nL49) (rHl nH49') nJ0 nOr0 (rTab nT49') 3000 125 nK49 = true := by decide +kernel
def nL40 : List (Nat × Nat × List (Option mI)) := [(125, 7, nC125), (183, 1, nC183), (217, 1, nC217), (184, 2, nC184), (218, 1, nC218), (219, 2, nC219)]
def nT40' : List (Nat × List rCo) := [(226, [nKc 0 2, nKc 1 2, nKc 0 3, nKc 1 3, nKc 2 3, nKc 0 4, nKc 1 4, nKc 2 4, nKc 3 4]), (185, [nK34])]
def nH40' : List (Nat × Nat × rHt) := []
set_option maxRecDepth 100000 in
theorem nV40' : rChk 158 (rLk nL40) nHn (rLm nL40) (rHl nH40') nJ0 nOr0 (rTab nT40') 3000 125 nK40 = true := by decide +kernel
def nL84 : List (Nat × Nat × List (Option mI)) := [(125, 7, nC125), (183, 1, nC183), (217, 1, nC217), (184, 2, nC184), (218, 1, nC218), (219, 2, nC219)]
def nT84' : List (Nat × List rCo) := [(226, [nKc 0 2, nKc 1 2, nKc 0 3, nKc 1 3, nKc 2 3, nKc 0 4, nKc 1 4, nKc 2 4, nKc 3 4]), (185, [nK34])]
def nH84' : List (Nat × Nat × rHt) := []
set_option maxRecDepth 100000 in
theorem nV84' : rChk 158 (rLk nL84) nHn (rLm nL84) (rHl nH84') nJ0 nOr0 (rTab nT84') 3000 125 nK84 = true := by decide +kernel
def nL162 : List (Nat × Nat × List (Option mI)) := [(39, 2, nC39)]
def nT162' : List (Nat × List rCo) := []
def nH162' : List (Nat × Nat × rHt) := [(39, 53, .inl ([(2, 1, 0, 0, 200, 0, 0)], [0], (0, 1), (0, 0, 0))), (39, 73, .inr (.inr 3))]
set_option maxRecDepth 100000 in
theorem nV162' : rChk 158 (rLk nL162) nHn (rLm nL162) (rHl nH162') nJ0 nOr0 (rTab nT162') 3000 39 nK162 = true := by decide +kernel
def nL19 : List (Nat × Nat × List (Option mI)) := [(167, 2, nC167), (197, 1, nC197), (213, 2, nC213)]
def nT19' : List (Nat × List rCo) := [(192, [nK3]), (76, [nK4]), (154, [nK1]), (136, [nK0])]
def nH19' : List (Nat × Nat × rHt) := []
set_option maxRecDepth 100000 in
theorem nV19' : rChk 158 (rLk nL19) nHn (rLm nL19) (rHl nH19') nJ0 nOr0 (rTab nT19') 3000 167 nK19 = true := by decide +kernel
def nL116 : List (Nat × Nat × List (Option mI)) := [(171, 3, nC171), (70, 1, nC70)]
def nT116' : List (Nat × List rCo) := [(73, [nK108]), (146, [nK110])]
def nH116' : List (Nat × Nat × rHt) := []
set_option maxRecDepth 100000 in
theorem nV116' : rChk 158 (rLk nL116) nHn (rLm nL116) (rHl nH116') nJ0 nOr0 (rTab nT116') 3000 171 nK116 = true := by decide +kernel
def nL31 : List (Nat × Nat × List (Option mI)) := [(68, 4, nC68)]
def nT31' : List (Nat × List rCo) := []
def nH31' : List (Nat × Nat × rHt) := [(68, 2, .inl ([(2, 3, 0, 0, 30, 0, 0)], [0, 1], (0, 1), (0, 0, 0)))]
set_option maxRecDepth 100000 in
theorem nV31' : rChk 158 (rLk nL31) nHn (rLm nL31) (rHl nH31') nJ0 nOr0 (rTab nT31') 3000 68 nK31 = true := by decide +kernel
def nL143 : List (Nat × Nat × List (Option mI)) := [(195, 1, nC195)]
def nT143' : List (Nat × List rCo) := []
def nH143' : List (Nat × Nat × rHt) := []
set_option maxRecDepth 100000 in
theorem nV143' : rChk 158 (rLk nL143) nHn (rLm nL143) (rHl nH143') nJ0 nOr0 (rTab nT143') 3000 195 nK143 = true := by decide +kernel
