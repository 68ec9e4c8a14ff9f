/-! THE KERNEL'S CHECKS OF THE CONTRACTS: printed by program -/
set_option maxRecDepth 100000 in
theorem nU125_0 : rPcs nF125 (rPiece 158 (rLk nL125) nHn (rLm nL125) (rHl nH125') nJ0 nOr0 (rTab nT125') 3000 5 112 nK125) 0 32 = true := by decide +kernel
set_option maxRecDepth 100000 in
theorem nU153_1 : rPcs nF153 (rPiece 158 (rLk nL153) nHn (rLm nL153) (rHl nH153') nJ0 nOr0 (rTab nT153') 3000 3 105 nK153) 38 22 = true := by decide +kernel
set_option maxRecDepth 100000 in
theorem nU150_0 : rPcs nF150 (rPiece 158 (rLk nL150) nHn (rLm nL150) (rHl nH150') nJ0 nOr0 (rTab nT150') 3000 7 149 nK150) 0 1 = true := by decide +kernel
def nL91 : List (Nat × Nat × List (Option mI)) := [(221, 3, nC221), (121, 1, nC121), (122, 1, nC122)]
def nT91' : List (Nat × List rCo) := [(127, [nK29]), (120, [nK27]), (68, [nK31, nK32]), (136, [nK0])]
def nH91' : List (Nat × Nat × rHt) := []
set_option maxRecDepth 100000 in
theorem nV91' : rChk 158 (rLk nL91) nHn (rLm nL91) (rHl nH91') nJ0 nOr0 (rTab nT91') 3000 221 nK91 = true := by decide +kernel
def nL51 : List (Nat × Nat × List (Option mI)) := [(125, 7, nC125), (183, 1, nC183), (217, 1, nC217), (184, 2, nC184), (218, 1, nC218), (219, 2, nC219)]
def nT51' : List (Nat × List rCo) := [(226, [nKc 0 2, nKc 1 2, nKc 0 3, nKc 1 3, nKc 2 3, nKc 0 4, nKc 1 4, nKc 2 4, nKc 3 4]), (185, [nK34])]
def nH51' : List (Nat × Nat × rHt) := []
set_option maxRecDepth 100000 in
theorem nV51' : rChk 158 (rLk nL51) nHn (rLm nL51) (rHl nH51') nJ0 nOr0 (rTab nT51') 3000 125 nK51 = true := by decide +kernel
def nL140 : List (Nat × Nat × List (Option mI)) := [(99, 5, nC99), (139, 1, nC139), (36, 3, nC36)]
def nT140' : List (Nat × List rCo) := [(97, [nK139])]
def nH140' : List (Nat × Nat × rHt) := [(99, 5, .inl ([(2, 4, 0, 0, 240, 0, 0), (2, 3, 0, 0, 1, 0, 0), (0, 190, 2, 0, 239, 0, 0), (0, 190, 3, -2147483648, 2147483647, 0, 0), (0, 190, 4, 0, 239, 0, 0), (0, 190, 5, -2147483648, 2147483647, 0, 0)], [0, 1, 2], (0, 1), (0, 0, 0)))]
set_option maxRecDepth 100000 in
theorem nV140' : rChk 158 (rLk nL140) nHn (rLm nL140) (rHl nH140') nJ0 nOr0 (rTab nT140') 3000 99 nK140 = true := by decide +kernel
def nL67 : List (Nat × Nat × List (Option mI)) := [(125, 7, nC125), (183, 1, nC183), (217, 1, nC217), (184, 2, nC184), (218, 1, nC218), (219, 2, nC219)]
def nT67' : List (Nat × List rCo) := [(226, [nKc 0 2, nKc 1 2, nKc 0 3, nKc 1 3, nKc 2 3, nKc 0 4, nKc 1 4, nKc 2 4, nKc 3 4]), (185, [nK34])]
def nH67' : List (Nat × Nat × rHt) := []
set_option maxRecDepth 100000 in
theorem nV67' : rChk 158 (rLk nL67) nHn (rLm nL67) (rHl nH67') nJ0 nOr0 (rTab nT67') 3000 125 nK67 = true := by decide +kernel
def nL48 : List (Nat × Nat × List (Option mI)) := [(125, 7, nC125), (183, 1, nC183), (217, 1, nC217), (184, 2, nC184), (218, 1, nC218), (219, 2, nC219)]
def nT48' : List (Nat × List rCo) := [(226, [nKc 0 2, nKc 1 2, nKc 0 3, nKc 1 3, nKc 2 3, nKc 0 4, nKc 1 4, nKc 2 4, nKc 3 4]), (185, [nK34])]
def nH48' : List (Nat × Nat × rHt) := []
set_option maxRecDepth 100000 in
theorem nV48' : rChk 158 (rLk nL48) nHn (rLm nL48) (rHl nH48') nJ0 nOr0 (rTab nT48') 3000 125 nK48 = true := by decide +kernel
def nL33 : List (Nat × Nat × List (Option mI)) := [(182, 4, nC182)]
def nT33' : List (Nat × List rCo) := []
def nH33' : List (Nat × Nat × rHt) := [(182, 2, .inl ([(2, 3, 0, 0, 30, 0, 0)], [0, 1], (0, 1), (0, 0, 0)))]
set_option maxRecDepth 100000 in
theorem nV33' : rChk 158 (rLk nL33) nHn (rLm nL33) (rHl nH33') nJ0 nOr0 (rTab nT33') 3000 182 nK33 = true := by decide +kernel
def nL134 : List (Nat × Nat × List (Option mI)) := [(64, 4, nC64)]
def nT134' : List (Nat × List rCo) := []
def nH134' : List (Nat × Nat × rHt) := [(64, 2, .inl ([(2, 3, 0, 0, 240, 1, 0), (0, 190, 2, 0, 239, 0, 0), (0, 190, 3, -2147483648, 2147483647, 0, 0), (0, 190, 4, 0, 239, 0, 0), (0, 190, 5, -2147483648, 2147483647, 0, 0)], [0, 1, 2], (0, 1), (0, 0, 0)))]
set_option maxRecDepth 100000 in
theorem nV134' : rChk 158 (rLk nL134) nHn (rLm nL134) (rHl nH134') nJ0 nOr0 (rTab nT134') 3000 64 nK134 = true := by decide +kernel
def nL113 : List (Nat × Nat × List (Option mI)) := [(46, 2, nC46), (36, 3, nC36)]
def nT113' : List (Nat × List rCo) := []
def nH113' : List (Nat × Nat × rHt) := []
set_option maxRecDepth 100000 in
theorem nV113' : rChk 158 (rLk nL113) nHn (rLm nL113) (rHl nH113') nJ0 nOr0 (rTab nT113') 3000 46 nK113 = true := by decide +kernel
