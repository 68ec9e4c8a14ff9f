/-! THE KERNEL'S CHECKS OF THE CONTRACTS: printed by program -/
set_option maxRecDepth 100000 in
theorem nV98_2 : rPcs nF98 (rPiece 158 (rLk nL98) nHn (rLm nL98) (rHl nH98') nJ0 nOr0 (rTab nT98') 3000 10 89 nK98) 5 1 = true := by decide +kernel
def nL151 : List (Nat × Nat × List (Option mI)) := [(152, 5, nC152), (148, 1, nC148), (150, 2, nC150), (40, 1, nC40)]
def nT151' : List (Nat × List rCo) := [(149, [nK150]), (168, [nK112]), (101, [nK111]), (172, [nK117])]
def nH151' : List (Nat × Nat × rHt) := [(152, 4, .inl ([(0, 183, 21, 0, 240, 1, 0), (2, 1, 0, -2147483648, 2147483647, 0, 0), (2, 2, 0, 0, 1, 0, 0), (0, 190, 2, 0, 239, 0, 0), (0, 190, 3, -2147483648, 2147483647, 0, 0), (0, 190, 4, 0, 239, 0, 0), (0, 190, 5, -2147483648, 2147483647, 0, 0)], [0], (0, 1), (0, 0, 0)))]
set_option maxRecDepth 100000 in
theorem nV151' : rChk 158 (rLk nL151) nHn (rLm nL151) (rHl nH151') nJ0 nOr0 (rTab nT151') 3000 152 nK151 = true := by decide +kernel
def nL128 : List (Nat × Nat × List (Option mI)) := [(115, 5, nC115), (71, 1, nC71), (113, 2, nC113), (178, 4, nC178)]
def nT128' : List (Nat × List rCo) := [(179, [nK126]), (180, [nK127])]
def nH128' : List (Nat × Nat × rHt) := []
set_option maxRecDepth 100000 in
theorem nV128' : rChk 158 (rLk nL128) nHn (rLm nL128) (rHl nH128') nJ0 nOr0 (rTab nT128') 3000 115 nK128 = true := by decide +kernel
def nL99 : List (Nat × Nat × List (Option mI)) := [(90, 2, nC90), (119, 1, nC119), (135, 2, nC135), (132, 2, nC132), (137, 2, nC137)]
def nT99' : List (Nat × List rCo) := [(134, [nK93]), (87, [nK88]), (136, [nK0]), (76, [nK4])]
def nH99' : List (Nat × Nat × rHt) := []
set_option maxRecDepth 100000 in
theorem nV99' : rChk 158 (rLk nL99) nHn (rLm nL99) (rHl nH99') nJ0 nOr0 (rTab nT99') 3000 90 nK99 = true := by decide +kernel
def nL67 : List (Nat × Nat × List (Option mI)) := [(125, 7, nC125), (183, 1, nC183), (217, 1, nC217), (184, 2, nC184), (218, 1, nC218), (219, 2, nC219)]
def nT67' : List (Nat × List rCo) := [(226, [nKc 0 2, nKc 1 2, nKc 0 3, nKc 1 3, nKc 2 3, nKc 0 4, nKc 1 4, nKc 2 4, nKc 3 4]), (185, [nK34])]
def nH67' : List (Nat × Nat × rHt) := []
set_option maxRecDepth 100000 in
theorem nV67' : rChk 158 (rLk nL67) nHn (rLm nL67) (rHl nH67') nJ0 nOr0 (rTab nT67') 3000 125 nK67 = true := by decide +kernel
def nL36 : List (Nat × Nat × List (Option mI)) := [(125, 7, nC125), (183, 1, nC183), (217, 1, nC217), (184, 2, nC184), (218, 1, nC218), (219, 2, nC219)]
def nT36' : List (Nat × List rCo) := [(226, [nKc 0 2, nKc 1 2, nKc 0 3, nKc 1 3, nKc 2 3, nKc 0 4, nKc 1 4, nKc 2 4, nKc 3 4]), (185, [nK34])]
def nH36' : List (Nat × Nat × rHt) := []
set_option maxRecDepth 100000 in
theorem nV36' : rChk 158 (rLk nL36) nHn (rLm nL36) (rHl nH36') nJ0 nOr0 (rTab nT36') 3000 125 nK36 = true := by decide +kernel
def nL33 : List (Nat × Nat × List (Option mI)) := [(182, 4, nC182)]
def nT33' : List (Nat × List rCo) := []
def nH33' : List (Nat × Nat × rHt) := [(182, 2, .inl ([(2, 3, 0, 0, 30, 0, 0)], [0, 1], (0, 1), (0, 0, 0)))]
set_option maxRecDepth 100000 in
theorem nV33' : rChk 158 (rLk nL33) nHn (rLm nL33) (rHl nH33') nJ0 nOr0 (rTab nT33') 3000 182 nK33 = true := by decide +kernel
def nL141 : List (Nat × Nat × List (Option mI)) := [(145, 5, nC145)]
def nT141' : List (Nat × List rCo) := []
def nH141' : List (Nat × Nat × rHt) := [(145, 5, .inl ([(2, 4, 0, 0, 30, 0, 0), (2, 3, 0, -1, 29, 0, 0)], [0, 1], (0, 1), (0, 0, 0)))]
set_option maxRecDepth 100000 in
theorem nV141' : rChk 158 (rLk nL141) nHn (rLm nL141) (rHl nH141') nJ0 nOr0 (rTab nT141') 3000 145 nK141 = true := by decide +kernel
def nL4 : List (Nat × Nat × List (Option mI)) := [(76, 1, nC76)]
def nT4' : List (Nat × List rCo) := []
def nH4' : List (Nat × Nat × rHt) := []
set_option maxRecDepth 100000 in
theorem nV4' : rChk 158 (rLk nL4) nHn (rLm nL4) (rHl nH4') nJ0 nOr0 (rTab nT4') 3000 76 nK4 = true := by decide +kernel
