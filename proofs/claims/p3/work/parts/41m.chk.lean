/-! THE KERNEL'S CHECKS OF THE CONTRACTS: printed by program -/
set_option maxRecDepth 100000 in
theorem nV153_0 : rPcs nF153 (rPiece 158 (rLk nL153) nHn (rLm nL153) (rHl nH153') nJ0 nOr0 (rTab nT153') 3000 3 105 nK153) 0 30 = true := by decide +kernel
set_option maxRecDepth 100000 in
theorem nV155_7 : rPcs nF155 (rPiece 158 (rLk nL155) nHn (rLm nL155) (rHl nH155') nJ0 nOr0 (rTab nT155') 3000 9 147 nK155) 16 1 = true := by decide +kernel
def nL94 : List (Nat × Nat × List (Option mI)) := [(188, 2, nC188), (121, 1, nC121), (122, 1, nC122), (123, 2, nC123)]
def nT94' : List (Nat × List rCo) := [(68, [nK31, nK32]), (182, [nK33])]
def nH94' : List (Nat × Nat × rHt) := []
set_option maxRecDepth 100000 in
theorem nV94' : rChk 158 (rLk nL94) nHn (rLm nL94) (rHl nH94') nJ0 nOr0 (rTab nT94') 3000 188 nK94 = true := by decide +kernel
def nL75 : List (Nat × Nat × List (Option mI)) := [(125, 7, nC125), (183, 1, nC183), (217, 1, nC217), (184, 2, nC184), (218, 1, nC218), (219, 2, nC219)]
def nT75' : List (Nat × List rCo) := [(226, [nKc 0 2, nKc 1 2, nKc 0 3, nKc 1 3, nKc 2 3, nKc 0 4, nKc 1 4, nKc 2 4, nKc 3 4]), (185, [nK34])]
def nH75' : List (Nat × Nat × rHt) := []
set_option maxRecDepth 100000 in
theorem nV75' : rChk 158 (rLk nL75) nHn (rLm nL75) (rHl nH75') nJ0 nOr0 (rTab nT75') 3000 125 nK75 = true := by decide +kernel
def nL45 : List (Nat × Nat × List (Option mI)) := [(125, 7, nC125), (183, 1, nC183), (217, 1, nC217), (184, 2, nC184), (218, 1, nC218), (219, 2, nC219)]
def nT45' : List (Nat × List rCo) := [(226, [nKc 0 2, nKc 1 2, nKc 0 3, nKc 1 3, nKc 2 3, nKc 0 4, nKc 1 4, nKc 2 4, nKc 3 4]), (185, [nK34])]
def nH45' : List (Nat × Nat × rHt) := []
set_option maxRecDepth 100000 in
theorem nV45' : rChk 158 (rLk nL45) nHn (rLm nL45) (rHl nH45') nJ0 nOr0 (rTab nT45') 3000 125 nK45 = true := by decide +kernel
def nL16 : List (Nat × Nat × List (Option mI)) := [(164, 1, nC164), (209, 3, nC209), (210, 1, nC210), (211, 2, nC211)]
def nT16' : List (Nat × List rCo) := [(76, [nK4]), (86, [nK2]), (212, [nK5])]
def nH16' : List (Nat × Nat × rHt) := []
set_option maxRecDepth 100000 in
theorem nV16' : rChk 158 (rLk nL16) nHn (rLm nL16) (rHl nH16') nJ0 nOr0 (rTab nT16') 3000 164 nK16 = true := by decide +kernel
def nL67 : List (Nat × Nat × List (Option mI)) := [(125, 7, nC125), (183, 1, nC183), (217, 1, nC217), (184, 2, nC184), (218, 1, nC218), (219, 2, nC219)]
def nT67' : List (Nat × List rCo) := [(226, [nKc 0 2, nKc 1 2, nKc 0 3, nKc 1 3, nKc 2 3, nKc 0 4, nKc 1 4, nKc 2 4, nKc 3 4]), (185, [nK34])]
def nH67' : List (Nat × Nat × rHt) := []
set_option maxRecDepth 100000 in
theorem nV67' : rChk 158 (rLk nL67) nHn (rLm nL67) (rHl nH67') nJ0 nOr0 (rTab nT67') 3000 125 nK67 = true := by decide +kernel
def nL96 : List (Nat × Nat × List (Option mI)) := [(129, 1, nC129)]
def nT96' : List (Nat × List rCo) := []
def nH96' : List (Nat × Nat × rHt) := []
set_option maxRecDepth 100000 in
theorem nV96' : rChk 158 (rLk nL96) nHn (rLm nL96) (rHl nH96') nJ0 nOr0 (rTab nT96') 3000 129 nK96 = true := by decide +kernel
def nL87 : List (Nat × Nat × List (Option mI)) := [(91, 6, nC91), (138, 1, nC138)]
def nT87' : List (Nat × List rCo) := [(131, [nK86])]
def nH87' : List (Nat × Nat × rHt) := [(91, 2, .inl ([(2, 3, 0, 0, 60, 0, 0)], [0, 1, 2], (0, 1), (0, 0, 0)))]
set_option maxRecDepth 100000 in
theorem nV87' : rChk 158 (rLk nL87) nHn (rLm nL87) (rHl nH87') nJ0 nOr0 (rTab nT87') 3000 91 nK87 = true := by decide +kernel
set_option maxRecDepth 100000 in
theorem nV159_c : rCov nF159 16 = true := by decide +kernel
def nL111 : List (Nat × Nat × List (Option mI)) := [(101, 1, nC101)]
def nT111' : List (Nat × List rCo) := [(146, [nK110])]
def nH111' : List (Nat × Nat × rHt) := []
set_option maxRecDepth 100000 in
theorem nV111' : rChk 158 (rLk nL111) nHn (rLm nL111) (rHl nH111') nJ0 nOr0 (rTab nT111') 3000 101 nK111 = true := by decide +kernel
def nL88 : List (Nat × Nat × List (Option mI)) := [(87, 3, nC87)]
def nT88' : List (Nat × List rCo) := [(91, [nK87])]
def nH88' : List (Nat × Nat × rHt) := []
set_option maxRecDepth 100000 in
theorem nV88' : rChk 158 (rLk nL88) nHn (rLm nL88) (rHl nH88') nJ0 nOr0 (rTab nT88') 3000 87 nK88 = true := by decide +kernel
