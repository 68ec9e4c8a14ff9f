/-! THE KERNEL'S CHECKS OF THE CONTRACTS: printed by program -/
set_option maxRecDepth 100000 in
theorem nU156_0 : rPcs nF156 (rPiece 158 (rLk nL156) nHn (rLm nL156) (rHl nH156') nJ0 nOr0 (rTab nT156') 3000 10 103 nK156) 0 2 = true := by decide +kernel
set_option maxRecDepth 100000 in
theorem nU150_3 : rPcs nF150 (rPiece 158 (rLk nL150) nHn (rLm nL150) (rHl nH150') nJ0 nOr0 (rTab nT150') 3000 7 149 nK150) 3 1 = true := by decide +kernel
set_option maxRecDepth 100000 in
theorem nU27_c : rCov nF27 3 = true := by decide +kernel
def nL163 : List (Nat × Nat × List (Option mI)) := [(8, 4, nC8), (40, 1, nC40), (37, 2, nC37)]
def nT163' : List (Nat × List rCo) := [(39, [nK162]), (41, [nK161])]
def nH163' : List (Nat × Nat × rHt) := [(8, 13, .inl ([(2, 2, 0, 0, 241, 0, 0), (2, 1, 0, 0, 242, 2, 1), (0, 183, 21, 0, 250, 0, 0), (0, 183, 22, 0, 240, 0, 0), (0, 183, 24, -2147483648, 2147483647, 0, 0), (0, 183, 25, -2147483648, 2147483647, 0, 0), (0, 183, 29, 0, 30, 0, 0), (0, 183, 33, 0, 20, 0, 0), (0, 183, 37, 0, 60, 0, 0), (6, 201, 0, 8, 0, 3, 0), (0, 201, 1, -2147483648, 2147483647, 0, 0), (0, 183, 26, 0, 1, 0, 0), (0, 190, 0, 0, 239, 0, 0), (0, 190, 1, -2147483648, 2147483647, 0, 0), (0, 190, 2, 0, 239, 0, 0), (0, 190, 3, -2147483648, 2147483647, 0, 0), (0, 190, 4, 0, 239, 0, 0), (0, 190, 5, -2147483648, 2147483647, 0, 0)], [0], (0, 1), (0, 0, 0))), (8, 27, .inr (.inl ((2, 2, 0), [241], (0, 0, 0)))), (8, 32, .inl ([(2, 3, 0, 0, 0, 4, 183018), (0, 190, 2, 0, 239, 0, 0), (0, 190, 3, -2147483648, 2147483647, 0, 0), (0, 190, 4, 0, 239, 0, 0), (0, 190, 5, -2147483648, 2147483647, 0, 0)], [0, 1, 2], (0, 1), (0, 0, 0))), (8, 116, .inl ([(2, 3, 0, 0, 200, 0, 0)], [0], (0, 1), (0, 0, 0))), (8, 160, .inl ([(2, 3, 0, 0, 30, 0, 0)], [0], (0, 1), (0, 0, 0)))]
set_option maxRecDepth 100000 in
theorem nV163' : rChk 158 (rLk nL163) nHn (rLm nL163) (rHl nH163') nJ0 nOr0 (rTab nT163') 3000 8 nK163 = true := by decide +kernel
def nL126 : List (Nat × Nat × List (Option mI)) := [(179, 4, nC179), (113, 2, nC113), (176, 4, nC176)]
def nT126' : List (Nat × List rCo) := [(46, [nK113])]
def nH126' : List (Nat × Nat × rHt) := [(179, 152, .inl ([(2, 3, 0, 0, 20, 0, 0)], [0, 1, 2], (0, 1), (0, 0, 0)))]
set_option maxRecDepth 100000 in
theorem nV126' : rChk 158 (rLk nL126) nHn (rLm nL126) (rHl nH126') nJ0 nOr0 (rTab nT126') 3000 179 nK126 = true := by decide +kernel
def nL45 : List (Nat × Nat × List (Option mI)) := [(125, 7, nC125), (183, 1, nC183), (217, 1, nC217), (184, 2, nC184), (218, 1, nC218), (219, 2, nC219)]
def nT45' : List (Nat × List rCo) := [(226, [nKc 0 2, nKc 1 2, nKc 0 3, nKc 1 3, nKc 2 3, nKc 0 4, nKc 1 4, nKc 2 4, nKc 3 4]), (185, [nK34])]
def nH45' : List (Nat × Nat × rHt) := []
set_option maxRecDepth 100000 in
theorem nV45' : rChk 158 (rLk nL45) nHn (rLm nL45) (rHl nH45') nJ0 nOr0 (rTab nT45') 3000 125 nK45 = true := by decide +kernel
def nL58 : List (Nat × Nat × List (Option mI)) := [(125, 7, nC125), (183, 1, nC183), (217, 1, nC217), (184, 2, nC184), (218, 1, nC218), (219, 2, nC219)]
def nT58' : List (Nat × List rCo) := [(226, [nKc 0 2, nKc 1 2, nKc 0 3, nKc 1 3, nKc 2 3, nKc 0 4, nKc 1 4, nKc 2 4, nKc 3 4]), (185, [nK34])]
def nH58' : List (Nat × Nat × rHt) := []
set_option maxRecDepth 100000 in
theorem nV58' : rChk 158 (rLk nL58) nHn (rLm nL58) (rHl nH58') nJ0 nOr0 (rTab nT58') 3000 125 nK58 = true := by decide +kernel
def nL66 : List (Nat × Nat × List (Option mI)) := [(125, 7, nC125), (183, 1, nC183), (217, 1, nC217), (184, 2, nC184), (218, 1, nC218), (219, 2, nC219)]
def nT66' : List (Nat × List rCo) := [(226, [nKc 0 2, nKc 1 2, nKc 0 3, nKc 1 3, nKc 2 3, nKc 0 4, nKc 1 4, nKc 2 4, nKc 3 4]), (185, [nK34])]
def nH66' : List (Nat × Nat × rHt) := []
set_option maxRecDepth 100000 in
theorem nV66' : rChk 158 (rLk nL66) nHn (rLm nL66) (rHl nH66') nJ0 nOr0 (rTab nT66') 3000 125 nK66 = true := by decide +kernel
def nL139 : List (Nat × Nat × List (Option mI)) := [(97, 4, nC97), (139, 1, nC139), (36, 3, nC36)]
def nT139' : List (Nat × List rCo) := []
def nH139' : List (Nat × Nat × rHt) := [(97, 0, .inr (.inl ((2, 1, 0), [239, 240], (0, 0, 0))))]
set_option maxRecDepth 100000 in
theorem nV139' : rChk 158 (rLk nL139) nHn (rLm nL139) (rHl nH139') nJ0 nOr0 (rTab nT139') 3000 97 nK139 = true := by decide +kernel
def nL101 : List (Nat × Nat × List (Option mI)) := [(92, 2, nC92)]
def nT101' : List (Nat × List rCo) := []
def nH101' : List (Nat × Nat × rHt) := [(92, 2, .inl ([(2, 1, 0, 0, 60, 0, 0)], [0], (0, 1), (0, 0, 0)))]
set_option maxRecDepth 100000 in
theorem nV101' : rChk 158 (rLk nL101) nHn (rLm nL101) (rHl nH101') nJ0 nOr0 (rTab nT101') 3000 92 nK101 = true := by decide +kernel
