/-! THE KERNEL'S CHECKS OF THE CONTRACTS: printed by program -/
def nL2 : List (Nat × Nat × List (Option mI)) := [(86, 2, nC86)]
def nT2' : List (Nat × List rCo) := []
def nH2' : List (Nat × Nat × rHt) := []
set_option maxRecDepth 100000 in
theorem nV2' : rChk 158 (rLk nL2) nHn (rLm nL2) (rHl nH2') nJ0 nOr0 (rTab nT2') 3000 86 nK2 = true := by decide +kernel
def nL4 : List (Nat × Nat × List (Option mI)) := [(76, 1, nC76)]
def nT4' : List (Nat × List rCo) := []
def nH4' : List (Nat × Nat × rHt) := []
set_option maxRecDepth 100000 in
theorem nV4' : rChk 158 (rLk nL4) nHn (rLm nL4) (rHl nH4') nJ0 nOr0 (rTab nT4') 3000 76 nK4 = true := by decide +kernel
def nL11 : List (Nat × Nat × List (Option mI)) := [(159, 8, nC159), (138, 1, nC138), (203, 1, nC203), (204, 3, nC204), (191, 1, nC191), (130, 2, nC130), (205, 3, nC205)]
def nT11' : List (Nat × List rCo) := []
def nH11' : List (Nat × Nat × rHt) := []
set_option maxRecDepth 100000 in
theorem nV11' : rChk 158 (rLk nL11) nHn (rLm nL11) (rHl nH11') nJ0 nOr0 (rTab nT11') 3000 159 nK11 = true := by decide +kernel
def nL23 : List (Nat × Nat × List (Option mI)) := [(81, 1, nC81)]
def nT23' : List (Nat × List rCo) := []
def nH23' : List (Nat × Nat × rHt) := [(81, 16, .inl ([(0, 167, 4, 0, 240, 0, 0)], [0], (0, 1), (0, 0, 0)))]
set_option maxRecDepth 100000 in
theorem nV23' : rChk 158 (rLk nL23) nHn (rLm nL23) (rHl nH23') nJ0 nOr0 (rTab nT23') 3000 81 nK23 = true := by decide +kernel
def nL30 : List (Nat × Nat × List (Option mI)) := [(222, 2, nC222)]
def nT30' : List (Nat × List rCo) := []
def nH30' : List (Nat × Nat × rHt) := []
set_option maxRecDepth 100000 in
theorem nV30' : rChk 158 (rLk nL30) nHn (rLm nL30) (rHl nH30') nJ0 nOr0 (rTab nT30') 3000 222 nK30 = true := by decide +kernel
def nL40 : List (Nat × Nat × List (Option mI)) := [(125, 7, nC125), (183, 1, nC183), (217, 1, nC217), (184, 2, nC184), (218, 1, nC218), (219, 2, nC219)]
def nT40' : List (Nat × List rCo) := [(226, [nKc 0 2, nKc 1 2, nKc 0 3, nKc 1 3, nKc 2 3, nKc 0 4, nKc 1 4, nKc 2 4, nKc 3 4]), (185, [nK34])]
def nH40' : List (Nat × Nat × rHt) := []
set_option maxRecDepth 100000 in
theorem nV40' : rChk 158 (rLk nL40) nHn (rLm nL40) (rHl nH40') nJ0 nOr0 (rTab nT40') 3000 125 nK40 = true := by decide +kernel
def nL54 : List (Nat × Nat × List (Option mI)) := [(125, 7, nC125), (183, 1, nC183), (217, 1, nC217), (184, 2, nC184), (218, 1, nC218), (219, 2, nC219)]
def nT54' : List (Nat × List rCo) := [(226, [nKc 0 2, nKc 1 2, nKc 0 3, nKc 1 3, nKc 2 3, nKc 0 4, nKc 1 4, nKc 2 4, nKc 3 4]), (185, [nK34])]
def nH54' : List (Nat × Nat × rHt) := []
set_option maxRecDepth 100000 in
theorem nV54' : rChk 158 (rLk nL54) nHn (rLm nL54) (rHl nH54') nJ0 nOr0 (rTab nT54') 3000 125 nK54 = true := by decide +kernel
def nL63 : List (Nat × Nat × List (Option mI)) := [(125, 7, nC125), (183, 1, nC183), (217, 1, nC217), (184, 2, nC184), (218, 1, nC218), (219, 2, nC219)]
def nT63' : List (Nat × List rCo) := [(226, [nKc 0 2, nKc 1 2, nKc 0 3, nKc 1 3, nKc 2 3, nKc 0 4, nKc 1 4, nKc 2 4, nKc 3 4]), (185, [nK34])]
def nH63' : List (Nat × Nat × rHt) := []
set_option maxRecDepth 100000 in
theorem nV63' : rChk 158 (rLk nL63) nHn (rLm nL63) (rHl nH63') nJ0 nOr0 (rTab nT63') 3000 125 nK63 = true := by decide +kernel
def nL66 : List (Nat × Nat × List (Option mI)) := [(125, 7, nC125), (183, 1, nC183), (217, 1, nC217), (184, 2, nC184), (218, 1, nC218), (219, 2, nC219)]
def nT66' : List (Nat × List rCo) := [(226, [nKc 0 2, nKc 1 2, nKc 0 3, nKc 1 3, nKc 2 3, nKc 0 4, nKc 1 4, nKc 2 4, nKc 3 4]), (185, [nK34])]
def nH66' : List (Nat × Nat × rHt) := []
set_option maxRecDepth 100000 in
theorem nV66' : rChk 158 (rLk nL66) nHn (rLm nL66) (rHl nH66') nJ0 nOr0 (rTab nT66') 3000 125 nK66 = true := by decide +kernel
def nL68 : List (Nat × Nat × List (Option mI)) := [(125, 7, nC125), (183, 1, nC183), (217, 1, nC217), (184, 2, nC184), (218, 1, nC218), (219, 2, nC219)]
def nT68' : List (Nat × List rCo) := [(226, [nKc 0 2, nKc 1 2, nKc 0 3, nKc 1 3, nKc 2 3, nKc 0 4, nKc 1 4, nKc 2 4, nKc 3 4]), (185, [nK34])]
def nH68' : List (Nat × Nat × rHt) := []
set_option maxRecDepth 100000 in
theorem nV68' : rChk 158 (rLk nL68) nHn (rLm nL68) (rHl nH68') nJ0 nOr0 (rTab nT68') 3000 125 nK68 = true := by decide +kernel
def nL77 : List (Nat × Nat × List (Option mI)) := [(125, 7, nC125), (183, 1, nC183), (217, 1, nC217), (184, 2, nC184), (218, 1, nC218), (219, 2, nC219)]
def nT77' : List (Nat × List rCo) := [(226, [nKc 0 2, nKc 1 2, nKc 0 3, nKc 1 3, nKc 2 3, nKc 0 4, nKc 1 4, nKc 2 4, nKc 3 4]), (185, [nK34])]
def nH77' : List (Nat × Nat × rHt) := []
set_option maxRecDepth 100000 in
theorem nV77' : rChk 158 (rLk nL77) nHn (rLm nL77) (rHl nH77') nJ0 nOr0 (rTab nT77') 3000 125 nK77 = true := by decide +kernel
def nL86 : List (Nat × Nat × List (Option mI)) := [(131, 6, nC131), (190, 2, nC190), (138, 1, nC138), (191, 1, nC191), (130, 2, nC130)]
def nT86' : List (Nat × List rCo) := []
def nH86' : List (Nat × Nat × rHt) := []
set_option maxRecDepth 100000 in
theorem nV86' : rChk 158 (rLk nL86) nHn (rLm nL86) (rHl nH86') nJ0 nOr0 (rTab nT86') 3000 131 nK86 = true := by decide +kernel
def nL89 : List (Nat × Nat × List (Option mI)) := [(83, 1, nC83), (119, 1, nC119), (121, 1, nC121), (122, 1, nC122), (123, 2, nC123)]
def nT89' : List (Nat × List rCo) := [(118, [nK26]), (120, [nK27]), (182, [nK33])]
def nH89' : List (Nat × Nat × rHt) := []
set_option maxRecDepth 100000 in
theorem nV89' : rChk 158 (rLk nL89) nHn (rLm nL89) (rHl nH89') nJ0 nOr0 (rTab nT89') 3000 83 nK89 = true := by decide +kernel
def nL97 : List (Nat × Nat × List (Option mI)) := [(88, 1, nC88)]
def nT97' : List (Nat × List rCo) := []
def nH97' : List (Nat × Nat × rHt) := []
set_option maxRecDepth 100000 in
theorem nV97' : rChk 158 (rLk nL97) nHn (rLm nL97) (rHl nH97') nJ0 nOr0 (rTab nT97') 3000 88 nK97 = true := by decide +kernel
def nL98 : List (Nat × Nat × List (Option mI)) := [(89, 5, nC89), (128, 4, nC128), (119, 1, nC119), (130, 2, nC130), (132, 2, nC132), (133, 4, nC133)]
def nT98' : List (Nat × List rCo) := [(126, [nK95]), (127, [nK29]), (189, [nK92]), (129, [nK96]), (131, [nK86]), (76, [nK4])]
def nH98' : List (Nat × Nat × rHt) := []
set_option maxRecDepth 100000 in
theorem nV98' : rChk 158 (rLk nL98) nHn (rLm nL98) (rHl nH98') nJ0 nOr0 (rTab nT98') 3000 89 nK98 = true := by decide +kernel
def nL102 : List (Nat × Nat × List (Option mI)) := [(93, 2, nC93), (132, 2, nC132)]
def nT102' : List (Nat × List rCo) := [(86, [nK2]), (87, [nK88]), (76, [nK4])]
def nH102' : List (Nat × Nat × rHt) := [(93, 2, .inl ([(2, 1, 0, 0, 30, 0, 0), (0, 169, 8, -2147483648, 2147483647, 0, 0)], [0], (0, 1), (0, 0, 0)))]
set_option maxRecDepth 100000 in
theorem nV102' : rChk 158 (rLk nL102) nHn (rLm nL102) (rHl nH102') nJ0 nOr0 (rTab nT102') 3000 93 nK102 = true := by decide +kernel
def nL105 : List (Nat × Nat × List (Option mI)) := [(62, 3, nC62)]
def nT105' : List (Nat × List rCo) := []
def nH105' : List (Nat × Nat × rHt) := [(62, 2, .inl ([(2, 2, 0, 0, 200, 0, 0)], [0, 1], (0, 1), (0, 0, 0)))]
set_option maxRecDepth 100000 in
theorem nV105' : rChk 158 (rLk nL105) nHn (rLm nL105) (rHl nH105') nJ0 nOr0 (rTab nT105') 3000 62 nK105 = true := by decide +kernel
def nL114 : List (Nat × Nat × List (Option mI)) := [(181, 3, nC181)]
def nT114' : List (Nat × List rCo) := []
def nH114' : List (Nat × Nat × rHt) := []
set_option maxRecDepth 100000 in
theorem nV114' : rChk 158 (rLk nL114) nHn (rLm nL114) (rHl nH114') nJ0 nOr0 (rTab nT114') 3000 181 nK114 = true := by decide +kernel
def nL118 : List (Nat × Nat × List (Option mI)) := [(169, 2, nC169), (70, 1, nC70), (214, 1, nC214), (225, 1, nC225)]
def nT118' : List (Nat × List rCo) := [(73, [nK108]), (146, [nK110])]
def nH118' : List (Nat × Nat × rHt) := []
set_option maxRecDepth 100000 in
theorem nV118' : rChk 158 (rLk nL118) nHn (rLm nL118) (rHl nH118') nJ0 nOr0 (rTab nT118') 3000 169 nK118 = true := by decide +kernel
def nL122 : List (Nat × Nat × List (Option mI)) := [(109, 5, nC109), (113, 2, nC113)]
def nT122' : List (Nat × List rCo) := [(168, [nK112]), (46, [nK113]), (169, [nK118]), (170, [nK119]), (171, [nK116]), (172, [nK117]), (173, [nK120])]
def nH122' : List (Nat × Nat × rHt) := []
set_option maxRecDepth 100000 in
theorem nV122' : rChk 158 (rLk nL122) nHn (rLm nL122) (rHl nH122') nJ0 nOr0 (rTab nT122') 3000 109 nK122 = true := by decide +kernel
def nL124 : List (Nat × Nat × List (Option mI)) := [(111, 10, nC111), (113, 2, nC113), (70, 1, nC70)]
def nT124' : List (Nat × List rCo) := [(73, [nK108]), (146, [nK110])]
def nH124' : List (Nat × Nat × rHt) := [(111, 152, .inl ([(2, 9, 0, 0, 10, 0, 0), (3, 4, 0, -9223372036854775808, 9223372036854775807, 0, 0)], [0, 1, 2, 6, 8], (0, 1), (0, 0, 0)))]
set_option maxRecDepth 100000 in
theorem nV124' : rChk 158 (rLk nL124) nHn (rLm nL124) (rHl nH124') nJ0 nOr0 (rTab nT124') 3000 111 nK124 = true := by decide +kernel
def nL129 : List (Nat × Nat × List (Option mI)) := [(116, 4, nC116), (113, 2, nC113)]
def nT129' : List (Nat × List rCo) := [(114, [nK121])]
def nH129' : List (Nat × Nat × rHt) := []
set_option maxRecDepth 100000 in
theorem nV129' : rChk 158 (rLk nL129) nHn (rLm nL129) (rHl nH129') nJ0 nOr0 (rTab nT129') 3000 116 nK129 = true := by decide +kernel
def nL131 : List (Nat × Nat × List (Option mI)) := [(75, 5, nC75), (36, 3, nC36), (71, 1, nC71), (113, 2, nC113), (72, 2, nC72)]
def nT131' : List (Nat × List rCo) := [(109, [nK122]), (110, [nK123]), (111, [nK124]), (112, [nK125]), (114, [nK121]), (115, [nK128]), (116, [nK129]), (117, [nK130])]
def nH131' : List (Nat × Nat × rHt) := []
set_option maxRecDepth 100000 in
theorem nV131' : rChk 158 (rLk nL131) nHn (rLm nL131) (rHl nH131') nJ0 nOr0 (rTab nT131') 3000 75 nK131 = true := by decide +kernel
def nL150 : List (Nat × Nat × List (Option mI)) := [(149, 5, nC149), (148, 1, nC148), (40, 1, nC40), (196, 3, nC196)]
def nT150' : List (Nat × List rCo) := [(194, [nK149]), (195, [nK143, nK144])]
def nH150' : List (Nat × Nat × rHt) := [(149, 50, .inl ([(0, 183, 21, 0, 240, 1, 0), (2, 2, 0, -2147483648, 2147483647, 0, 0), (0, 190, 2, 0, 239, 0, 0), (0, 190, 3, -2147483648, 2147483647, 0, 0), (0, 190, 4, 0, 239, 0, 0), (0, 190, 5, -2147483648, 2147483647, 0, 0)], [0], (0, 1), (0, 0, 0))), (149, 72, .inr (.inl ((2, 3, 0), [47, 48], (0, 0, 0))))]
set_option maxRecDepth 100000 in
theorem nV150' : rChk 158 (rLk nL150) nHn (rLm nL150) (rHl nH150') nJ0 nOr0 (rTab nT150') 3000 149 nK150 = true := by decide +kernel
