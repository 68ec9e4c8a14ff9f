/-! THE KERNEL'S CHECKS OF THE CONTRACTS: printed by program -/
set_option maxRecDepth 100000 in
theorem nV156_2 : rPcs nF156 (rPiece 158 (rLk nL156) nHn (rLm nL156) (rHl nH156') nJ0 nOr0 (rTab nT156') 3000 10 103 nK156) 5 2 = true := by decide +kernel
set_option maxRecDepth 100000 in
theorem nV155_0 : rPcs nF155 (rPiece 158 (rLk nL155) nHn (rLm nL155) (rHl nH155') nJ0 nOr0 (rTab nT155') 3000 9 147 nK155) 0 3 = true := by decide +kernel
def nL15 : List (Nat × Nat × List (Option mI)) := [(163, 3, nC163), (155, 1, nC155), (208, 5, nC208), (224, 5, nC224), (228, 3, nC228), (229, 4, nC229), (206, 2, nC206), (230, 2, nC230), (231, 2, nC231), (156, 3, nC156), (209, 3, nC209), (210, 1, nC210)]
def nT15' : List (Nat × List rCo) := [(76, [nK4]), (86, [nK2])]
def nH15' : List (Nat × Nat × rHt) := []
set_option maxRecDepth 100000 in
theorem nV15' : rChk 158 (rLk nL15) nHn (rLm nL15) (rHl nH15') nJ0 nOr0 (rTab nT15') 3000 163 nK15 = true := by decide +kernel
def nL76 : List (Nat × Nat × List (Option mI)) := [(125, 7, nC125), (183, 1, nC183), (217, 1, nC217), (184, 2, nC184), (218, 1, nC218), (219, 2, nC219)]
def nT76' : List (Nat × List rCo) := [(226, [nKc 0 2, nKc 1 2, nKc 0 3, nKc 1 3, nKc 2 3, nKc 0 4, nKc 1 4, nKc 2 4, nKc 3 4]), (185, [nK34])]
def nH76' : List (Nat × Nat × rHt) := []
set_option maxRecDepth 100000 in
theorem nV76' : rChk 158 (rLk nL76) nHn (rLm nL76) (rHl nH76') nJ0 nOr0 (rTab nT76') 3000 125 nK76 = true := by decide +kernel
def nL14 : List (Nat × Nat × List (Option mI)) := [(162, 2, nC162), (197, 1, nC197), (131, 6, nC131), (190, 2, nC190), (138, 1, nC138), (191, 1, nC191), (130, 2, nC130)]
def nT14' : List (Nat × List rCo) := [(192, [nK3]), (76, [nK4])]
def nH14' : List (Nat × Nat × rHt) := []
set_option maxRecDepth 100000 in
theorem nV14' : rChk 158 (rLk nL14) nHn (rLm nL14) (rHl nH14') nJ0 nOr0 (rTab nT14') 3000 162 nK14 = true := by decide +kernel
def nL60 : List (Nat × Nat × List (Option mI)) := [(125, 7, nC125), (183, 1, nC183), (217, 1, nC217), (184, 2, nC184), (218, 1, nC218), (219, 2, nC219)]
def nT60' : List (Nat × List rCo) := [(226, [nKc 0 2, nKc 1 2, nKc 0 3, nKc 1 3, nKc 2 3, nKc 0 4, nKc 1 4, nKc 2 4, nKc 3 4]), (185, [nK34])]
def nH60' : List (Nat × Nat × rHt) := []
set_option maxRecDepth 100000 in
theorem nV60' : rChk 158 (rLk nL60) nHn (rLm nL60) (rHl nH60') nJ0 nOr0 (rTab nT60') 3000 125 nK60 = true := by decide +kernel
def nL66 : List (Nat × Nat × List (Option mI)) := [(125, 7, nC125), (183, 1, nC183), (217, 1, nC217), (184, 2, nC184), (218, 1, nC218), (219, 2, nC219)]
def nT66' : List (Nat × List rCo) := [(226, [nKc 0 2, nKc 1 2, nKc 0 3, nKc 1 3, nKc 2 3, nKc 0 4, nKc 1 4, nKc 2 4, nKc 3 4]), (185, [nK34])]
def nH66' : List (Nat × Nat × rHt) := []
set_option maxRecDepth 100000 in
theorem nV66' : rChk 158 (rLk nL66) nHn (rLm nL66) (rHl nH66') nJ0 nOr0 (rTab nT66') 3000 125 nK66 = true := by decide +kernel
def nL140 : List (Nat × Nat × List (Option mI)) := [(99, 5, nC99), (139, 1, nC139), (36, 3, nC36)]
def nT140' : List (Nat × List rCo) := [(97, [nK139])]
def nH140' : List (Nat × Nat × rHt) := [(99, 5, .inl ([(2, 4, 0, 0, 240, 0, 0), (2, 3, 0, 0, 1, 0, 0), (0, 190, 2, 0, 239, 0, 0), (0, 190, 3, -2147483648, 2147483647, 0, 0), (0, 190, 4, 0, 239, 0, 0), (0, 190, 5, -2147483648, 2147483647, 0, 0)], [0, 1, 2], (0, 1), (0, 0, 0)))]
set_option maxRecDepth 100000 in
theorem nV140' : rChk 158 (rLk nL140) nHn (rLm nL140) (rHl nH140') nJ0 nOr0 (rTab nT140') 3000 99 nK140 = true := by decide +kernel
def nL28 : List (Nat × Nat × List (Option mI)) := []
def nT28' : List (Nat × List rCo) := [(120, [nK27])]
def nH28' : List (Nat × Nat × rHt) := []
set_option maxRecDepth 100000 in
theorem nV28' : rChk 158 (rLk nL28) nHn (rLm nL28) (rHl nH28') nJ0 nOr0 (rTab nT28') 3000 120 nK28 = true := by decide +kernel
def nL102 : List (Nat × Nat × List (Option mI)) := [(93, 2, nC93), (132, 2, nC132)]
def nT102' : List (Nat × List rCo) := [(86, [nK2]), (87, [nK88]), (76, [nK4])]
def nH102' : List (Nat × Nat × rHt) := [(93, 2, .inl ([(2, 1, 0, 0, 30, 0, 0), (0, 169, 8, -2147483648, 2147483647, 0, 0)], [0], (0, 1), (0, 0, 0)))]
set_option maxRecDepth 100000 in
theorem nV102' : rChk 158 (rLk nL102) nHn (rLm nL102) (rHl nH102') nJ0 nOr0 (rTab nT102') 3000 93 nK102 = true := by decide +kernel
def nL113 : List (Nat × Nat × List (Option mI)) := [(46, 2, nC46), (36, 3, nC36)]
def nT113' : List (Nat × List rCo) := []
def nH113' : List (Nat × Nat × rHt) := []
set_option maxRecDepth 100000 in
theorem nV113' : rChk 158 (rLk nL113) nHn (rLm nL113) (rHl nH113') nJ0 nOr0 (rTab nT113') 3000 46 nK113 = true := by decide +kernel
