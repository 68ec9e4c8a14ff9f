/-! THE KERNEL'S CHECKS OF THE CONTRACTS: printed by program -/
set_option maxRecDepth 100000 in
theorem nV98_3 : rPcs nF98 (rPiece 158 (rLk nL98) nHn (rLm nL98) (rHl nH98') nJ0 nOr0 (rTab nT98') 3000 10 89 nK98) 6 2 = true := by decide +kernel
def nL157 : List (Nat × Nat × List (Option mI)) := [(153, 2, nC153), (151, 3, nC151), (40, 1, nC40)]
def nT157' : List (Nat × List rCo) := [(101, [nK111]), (102, [nK154]), (46, [nK113]), (105, [nK152, nK153])]
def nH157' : List (Nat × Nat × rHt) := [(153, 2, .inl ([(2, 1, 0, 0, 30, 0, 0), (0, 183, 24, -2147483648, 2147483647, 0, 0)], [0], (0, 1), (0, 0, 0))), (153, 65, .inl ([(2, 1, 0, 0, 20, 0, 0), (0, 183, 24, -2147483648, 2147483647, 0, 0)], [0], (0, 1), (0, 0, 0))), (153, 129, .inl ([(2, 1, 0, 0, 60, 0, 0), (0, 183, 23, 0, 1, 0, 0)], [0], (0, 1), (0, 0, 0)))]
set_option maxRecDepth 100000 in
theorem nV157' : rChk 158 (rLk nL157) nHn (rLm nL157) (rHl nH157') nJ0 nOr0 (rTab nT157') 3000 153 nK157 = true := by decide +kernel
def nL75 : List (Nat × Nat × List (Option mI)) := [(125, 7, nC125), (183, 1, nC183), (217, 1, nC217), (184, 2, nC184), (218, 1, nC218), (219, 2, nC219)]
def nT75' : List (Nat × List rCo) := [(226, [nKc 0 2, nKc 1 2, nKc 0 3, nKc 1 3, nKc 2 3, nKc 0 4, nKc 1 4, nKc 2 4, nKc 3 4]), (185, [nK34])]
def nH75' : List (Nat × Nat × rHt) := []
set_option maxRecDepth 100000 in
theorem nV75' : rChk 158 (rLk nL75) nHn (rLm nL75) (rHl nH75') nJ0 nOr0 (rTab nT75') 3000 125 nK75 = true := by decide +kernel
set_option maxRecDepth 100000 in
theorem nV12_1 : rPcs nF12 (rPiece 158 (rLk nL12) nHn (rLm nL12) (rHl nH12') nJ0 nOr0 (rTab nT12') 3000 4 160 nK12) 61 3 = true := by decide +kernel
def nL52 : List (Nat × Nat × List (Option mI)) := [(125, 7, nC125), (183, 1, nC183), (217, 1, nC217), (184, 2, nC184), (218, 1, nC218), (219, 2, nC219)]
def nT52' : List (Nat × List rCo) := [(226, [nKc 0 2, nKc 1 2, nKc 0 3, nKc 1 3, nKc 2 3, nKc 0 4, nKc 1 4, nKc 2 4, nKc 3 4]), (185, [nK34])]
def nH52' : List (Nat × Nat × rHt) := []
set_option maxRecDepth 100000 in
theorem nV52' : rChk 158 (rLk nL52) nHn (rLm nL52) (rHl nH52') nJ0 nOr0 (rTab nT52') 3000 125 nK52 = true := by decide +kernel
def nL47 : List (Nat × Nat × List (Option mI)) := [(125, 7, nC125), (183, 1, nC183), (217, 1, nC217), (184, 2, nC184), (218, 1, nC218), (219, 2, nC219)]
def nT47' : List (Nat × List rCo) := [(226, [nKc 0 2, nKc 1 2, nKc 0 3, nKc 1 3, nKc 2 3, nKc 0 4, nKc 1 4, nKc 2 4, nKc 3 4]), (185, [nK34])]
def nH47' : List (Nat × Nat × rHt) := []
set_option maxRecDepth 100000 in
theorem nV47' : rChk 158 (rLk nL47) nHn (rLm nL47) (rHl nH47') nJ0 nOr0 (rTab nT47') 3000 125 nK47 = true := by decide +kernel
def nL87 : List (Nat × Nat × List (Option mI)) := [(91, 6, nC91), (138, 1, nC138)]
def nT87' : List (Nat × List rCo) := [(131, [nK86])]
def nH87' : List (Nat × Nat × rHt) := [(91, 2, .inl ([(2, 3, 0, 0, 60, 0, 0)], [0, 1, 2], (0, 1), (0, 0, 0)))]
set_option maxRecDepth 100000 in
theorem nV87' : rChk 158 (rLk nL87) nHn (rLm nL87) (rHl nH87') nJ0 nOr0 (rTab nT87') 3000 91 nK87 = true := by decide +kernel
def nL31 : List (Nat × Nat × List (Option mI)) := [(68, 4, nC68)]
def nT31' : List (Nat × List rCo) := []
def nH31' : List (Nat × Nat × rHt) := [(68, 2, .inl ([(2, 3, 0, 0, 30, 0, 0)], [0, 1], (0, 1), (0, 0, 0)))]
set_option maxRecDepth 100000 in
theorem nV31' : rChk 158 (rLk nL31) nHn (rLm nL31) (rHl nH31') nJ0 nOr0 (rTab nT31') 3000 68 nK31 = true := by decide +kernel
