/-! THE KERNEL'S CHECKS OF THE CONTRACTS: printed by program -/
def nL5 : List (Nat × Nat × List (Option mI)) := [(212, 2, nC212)]
def nT5' : List (Nat × List rCo) := []
def nH5' : List (Nat × Nat × rHt) := []
set_option maxRecDepth 100000 in
theorem nV5' : rChk 158 (rLk nL5) nHn (rLm nL5) (rHl nH5') nJ0 nOr0 (rTab nT5') 3000 212 nK5 = true := by decide +kernel
def nL8 : List (Nat × Nat × List (Option mI)) := [(106, 4, nC106), (138, 1, nC138)]
def nT8' : List (Nat × List rCo) := [(154, [nK1]), (136, [nK0]), (86, [nK2])]
def nH8' : List (Nat × Nat × rHt) := []
set_option maxRecDepth 100000 in
theorem nV8' : rChk 158 (rLk nL8) nHn (rLm nL8) (rHl nH8') nJ0 nOr0 (rTab nT8') 3000 106 nK8 = true := by decide +kernel
def nL10 : List (Nat × Nat × List (Option mI)) := [(158, 1, nC158), (201, 6, nC201), (203, 1, nC203), (138, 1, nC138), (204, 3, nC204), (191, 1, nC191), (130, 2, nC130), (202, 5, nC202), (205, 3, nC205)]
def nT10' : List (Nat × List rCo) := []
def nH10' : List (Nat × Nat × rHt) := []
set_option maxRecDepth 100000 in
theorem nV10' : rChk 158 (rLk nL10) nHn (rLm nL10) (rHl nH10') nJ0 nOr0 (rTab nT10') 3000 158 nK10 = true := by decide +kernel
def nL16 : List (Nat × Nat × List (Option mI)) := [(164, 1, nC164), (209, 3, nC209), (210, 1, nC210), (211, 2, nC211)]
def nT16' : List (Nat × List rCo) := [(76, [nK4]), (86, [nK2]), (212, [nK5])]
def nH16' : List (Nat × Nat × rHt) := []
set_option maxRecDepth 100000 in
theorem nV16' : rChk 158 (rLk nL16) nHn (rLm nL16) (rHl nH16') nJ0 nOr0 (rTab nT16') 3000 164 nK16 = true := by decide +kernel
def nL20 : List (Nat × Nat × List (Option mI)) := [(108, 1, nC108)]
def nT20' : List (Nat × List rCo) := [(157, [nK9]), (158, [nK10]), (159, [nK11]), (160, [nK12]), (161, [nK13]), (162, [nK14]), (163, [nK15]), (164, [nK16]), (165, [nK17]), (166, [nK18]), (167, [nK19])]
def nH20' : List (Nat × Nat × rHt) := []
set_option maxRecDepth 100000 in
theorem nV20' : rChk 158 (rLk nL20) nHn (rLm nL20) (rHl nH20') nJ0 nOr0 (rTab nT20') 3000 108 nK20 = true := by decide +kernel
def nL26 : List (Nat × Nat × List (Option mI)) := [(118, 1, nC118)]
def nT26' : List (Nat × List rCo) := []
def nH26' : List (Nat × Nat × rHt) := [(118, 8, .inl ([(0, 167, 5, 0, 240, 0, 0)], [0], (0, 1), (0, 0, 0)))]
set_option maxRecDepth 100000 in
theorem nV26' : rChk 158 (rLk nL26) nHn (rLm nL26) (rHl nH26') nJ0 nOr0 (rTab nT26') 3000 118 nK26 = true := by decide +kernel
def nL27 : List (Nat × Nat × List (Option mI)) := [(120, 3, nC120)]
def nT27' : List (Nat × List rCo) := []
def nH27' : List (Nat × Nat × rHt) := [(120, 20, .inl ([(0, 167, 2, 0, 240, 0, 0), (1, 167, 6, -9223372036854775808, 9223372036854775807, 0, 0), (0, 167, 7, 3, 241, 2, 1), (0, 167, 8, 0, 241, 2, 1), (0, 167, 9, -2147483648, 2147483647, 0, 0)], [0], (0, 1), (167, 7, 3))), (120, 41, .inr (.inl ((2, 1, 0), [65, 66, 67, 70, 71, 72, 73, 91], (167, 7, 1))))]
set_option maxRecDepth 100000 in
theorem nV27' : rChk 158 (rLk nL27) nHn (rLm nL27) (rHl nH27') nJ0 nOr0 (rTab nT27') 3000 120 nK27 = true := by decide +kernel
def nL33 : List (Nat × Nat × List (Option mI)) := [(182, 4, nC182)]
def nT33' : List (Nat × List rCo) := []
def nH33' : List (Nat × Nat × rHt) := [(182, 2, .inl ([(2, 3, 0, 0, 30, 0, 0)], [0, 1], (0, 1), (0, 0, 0)))]
set_option maxRecDepth 100000 in
theorem nV33' : rChk 158 (rLk nL33) nHn (rLm nL33) (rHl nH33') nJ0 nOr0 (rTab nT33') 3000 182 nK33 = true := by decide +kernel
def nL43 : List (Nat × Nat × List (Option mI)) := [(125, 7, nC125), (183, 1, nC183), (217, 1, nC217), (184, 2, nC184), (218, 1, nC218), (219, 2, nC219)]
def nT43' : List (Nat × List rCo) := [(226, [nKc 0 2, nKc 1 2, nKc 0 3, nKc 1 3, nKc 2 3, nKc 0 4, nKc 1 4, nKc 2 4, nKc 3 4]), (185, [nK34])]
def nH43' : List (Nat × Nat × rHt) := []
set_option maxRecDepth 100000 in
theorem nV43' : rChk 158 (rLk nL43) nHn (rLm nL43) (rHl nH43') nJ0 nOr0 (rTab nT43') 3000 125 nK43 = true := by decide +kernel
def nL46 : List (Nat × Nat × List (Option mI)) := [(125, 7, nC125), (183, 1, nC183), (217, 1, nC217), (184, 2, nC184), (218, 1, nC218), (219, 2, nC219)]
def nT46' : List (Nat × List rCo) := [(226, [nKc 0 2, nKc 1 2, nKc 0 3, nKc 1 3, nKc 2 3, nKc 0 4, nKc 1 4, nKc 2 4, nKc 3 4]), (185, [nK34])]
def nH46' : List (Nat × Nat × rHt) := []
set_option maxRecDepth 100000 in
theorem nV46' : rChk 158 (rLk nL46) nHn (rLm nL46) (rHl nH46') nJ0 nOr0 (rTab nT46') 3000 125 nK46 = true := by decide +kernel
def nL57 : List (Nat × Nat × List (Option mI)) := [(125, 7, nC125), (183, 1, nC183), (217, 1, nC217), (184, 2, nC184), (218, 1, nC218), (219, 2, nC219)]
def nT57' : List (Nat × List rCo) := [(226, [nKc 0 2, nKc 1 2, nKc 0 3, nKc 1 3, nKc 2 3, nKc 0 4, nKc 1 4, nKc 2 4, nKc 3 4]), (185, [nK34])]
def nH57' : List (Nat × Nat × rHt) := []
set_option maxRecDepth 100000 in
theorem nV57' : rChk 158 (rLk nL57) nHn (rLm nL57) (rHl nH57') nJ0 nOr0 (rTab nT57') 3000 125 nK57 = true := by decide +kernel
def nL58 : List (Nat × Nat × List (Option mI)) := [(125, 7, nC125), (183, 1, nC183), (217, 1, nC217), (184, 2, nC184), (218, 1, nC218), (219, 2, nC219)]
def nT58' : List (Nat × List rCo) := [(226, [nKc 0 2, nKc 1 2, nKc 0 3, nKc 1 3, nKc 2 3, nKc 0 4, nKc 1 4, nKc 2 4, nKc 3 4]), (185, [nK34])]
def nH58' : List (Nat × Nat × rHt) := []
set_option maxRecDepth 100000 in
theorem nV58' : rChk 158 (rLk nL58) nHn (rLm nL58) (rHl nH58') nJ0 nOr0 (rTab nT58') 3000 125 nK58 = true := by decide +kernel
def nL71 : List (Nat × Nat × List (Option mI)) := [(125, 7, nC125), (183, 1, nC183), (217, 1, nC217), (184, 2, nC184), (218, 1, nC218), (219, 2, nC219)]
def nT71' : List (Nat × List rCo) := [(226, [nKc 0 2, nKc 1 2, nKc 0 3, nKc 1 3, nKc 2 3, nKc 0 4, nKc 1 4, nKc 2 4, nKc 3 4]), (185, [nK34])]
def nH71' : List (Nat × Nat × rHt) := []
set_option maxRecDepth 100000 in
theorem nV71' : rChk 158 (rLk nL71) nHn (rLm nL71) (rHl nH71') nJ0 nOr0 (rTab nT71') 3000 125 nK71 = true := by decide +kernel
def nL75 : List (Nat × Nat × List (Option mI)) := [(125, 7, nC125), (183, 1, nC183), (217, 1, nC217), (184, 2, nC184), (218, 1, nC218), (219, 2, nC219)]
def nT75' : List (Nat × List rCo) := [(226, [nKc 0 2, nKc 1 2, nKc 0 3, nKc 1 3, nKc 2 3, nKc 0 4, nKc 1 4, nKc 2 4, nKc 3 4]), (185, [nK34])]
def nH75' : List (Nat × Nat × rHt) := []
set_option maxRecDepth 100000 in
theorem nV75' : rChk 158 (rLk nL75) nHn (rLm nL75) (rHl nH75') nJ0 nOr0 (rTab nT75') 3000 125 nK75 = true := by decide +kernel
def nL81 : List (Nat × Nat × List (Option mI)) := [(125, 7, nC125), (183, 1, nC183), (217, 1, nC217), (184, 2, nC184), (218, 1, nC218), (219, 2, nC219)]
def nT81' : List (Nat × List rCo) := [(226, [nKc 0 2, nKc 1 2, nKc 0 3, nKc 1 3, nKc 2 3, nKc 0 4, nKc 1 4, nKc 2 4, nKc 3 4]), (185, [nK34])]
def nH81' : List (Nat × Nat × rHt) := []
set_option maxRecDepth 100000 in
theorem nV81' : rChk 158 (rLk nL81) nHn (rLm nL81) (rHl nH81') nJ0 nOr0 (rTab nT81') 3000 125 nK81 = true := by decide +kernel
def nL87 : List (Nat × Nat × List (Option mI)) := [(91, 6, nC91), (138, 1, nC138)]
def nT87' : List (Nat × List rCo) := [(131, [nK86])]
def nH87' : List (Nat × Nat × rHt) := [(91, 2, .inl ([(2, 3, 0, 0, 60, 0, 0)], [0, 1, 2], (0, 1), (0, 0, 0)))]
set_option maxRecDepth 100000 in
theorem nV87' : rChk 158 (rLk nL87) nHn (rLm nL87) (rHl nH87') nJ0 nOr0 (rTab nT87') 3000 91 nK87 = true := by decide +kernel
def nL99 : List (Nat × Nat × List (Option mI)) := [(90, 2, nC90), (119, 1, nC119), (135, 2, nC135), (132, 2, nC132), (137, 2, nC137)]
def nT99' : List (Nat × List rCo) := [(134, [nK93]), (87, [nK88]), (136, [nK0]), (76, [nK4])]
def nH99' : List (Nat × Nat × rHt) := []
set_option maxRecDepth 100000 in
theorem nV99' : rChk 158 (rLk nL99) nHn (rLm nL99) (rHl nH99') nJ0 nOr0 (rTab nT99') 3000 90 nK99 = true := by decide +kernel
def nL101 : List (Nat × Nat × List (Option mI)) := [(92, 2, nC92)]
def nT101' : List (Nat × List rCo) := []
def nH101' : List (Nat × Nat × rHt) := [(92, 2, .inl ([(2, 1, 0, 0, 60, 0, 0)], [0], (0, 1), (0, 0, 0)))]
set_option maxRecDepth 100000 in
theorem nV101' : rChk 158 (rLk nL101) nHn (rLm nL101) (rHl nH101') nJ0 nOr0 (rTab nT101') 3000 92 nK101 = true := by decide +kernel
def nL132 : List (Nat × Nat × List (Option mI)) := [(44, 6, nC44), (70, 1, nC70), (36, 3, nC36), (71, 1, nC71), (72, 2, nC72)]
def nT132' : List (Nat × List rCo) := [(46, [nK113]), (73, [nK108]), (74, [nK109]), (75, [nK131])]
def nH132' : List (Nat × Nat × rHt) := []
set_option maxRecDepth 100000 in
theorem nV132' : rChk 158 (rLk nL132) nHn (rLm nL132) (rHl nH132') nJ0 nOr0 (rTab nT132') 3000 44 nK132 = true := by decide +kernel
def nL134 : List (Nat × Nat × List (Option mI)) := [(64, 4, nC64)]
def nT134' : List (Nat × List rCo) := []
def nH134' : List (Nat × Nat × rHt) := [(64, 2, .inl ([(2, 3, 0, 0, 240, 1, 0), (0, 190, 2, 0, 239, 0, 0), (0, 190, 3, -2147483648, 2147483647, 0, 0), (0, 190, 4, 0, 239, 0, 0), (0, 190, 5, -2147483648, 2147483647, 0, 0)], [0, 1, 2], (0, 1), (0, 0, 0)))]
set_option maxRecDepth 100000 in
theorem nV134' : rChk 158 (rLk nL134) nHn (rLm nL134) (rHl nH134') nJ0 nOr0 (rTab nT134') 3000 64 nK134 = true := by decide +kernel
def nL142 : List (Nat × Nat × List (Option mI)) := [(100, 4, nC100), (40, 1, nC40)]
def nT142' : List (Nat × List rCo) := [(140, [nK138]), (145, [nK141])]
def nH142' : List (Nat × Nat × rHt) := []
set_option maxRecDepth 100000 in
theorem nV142' : rChk 158 (rLk nL142) nHn (rLm nL142) (rHl nH142') nJ0 nOr0 (rTab nT142') 3000 100 nK142 = true := by decide +kernel
def nL145 : List (Nat × Nat × List (Option mI)) := [(141, 2, nC141)]
def nT145' : List (Nat × List rCo) := []
def nH145' : List (Nat × Nat × rHt) := []
set_option maxRecDepth 100000 in
theorem nV145' : rChk 158 (rLk nL145) nHn (rLm nL145) (rHl nH145') nJ0 nOr0 (rTab nT145') 3000 141 nK145 = true := by decide +kernel
def nL149 : List (Nat × Nat × List (Option mI)) := [(194, 5, nC194), (148, 1, nC148), (196, 3, nC196), (40, 1, nC40), (139, 1, nC139), (36, 3, nC36)]
def nT149' : List (Nat × List rCo) := [(66, [nK136, nK137]), (97, [nK139]), (74, [nK109]), (99, [nK140]), (140, [nK138]), (145, [nK141])]
def nH149' : List (Nat × Nat × rHt) := [(194, 68, .inl ([(2, 3, 0, 0, 240, 0, 0), (2, 2, 0, 0, 1, 0, 0), (0, 190, 2, 0, 239, 0, 0), (0, 190, 3, -2147483648, 2147483647, 0, 0), (0, 190, 4, 0, 239, 0, 0), (0, 190, 5, -2147483648, 2147483647, 0, 0)], [0, 1], (0, 1), (0, 0, 0))), (194, 113, .inl ([(2, 4, 0, 0, 240, 0, 0), (2, 3, 0, -2147483648, 2147483647, 0, 0), (0, 190, 2, 0, 239, 0, 0), (0, 190, 3, -2147483648, 2147483647, 0, 0), (0, 190, 4, 0, 239, 0, 0), (0, 190, 5, -2147483648, 2147483647, 0, 0)], [0, 1], (0, 1), (0, 0, 0)))]
set_option maxRecDepth 100000 in
theorem nV149' : rChk 158 (rLk nL149) nHn (rLm nL149) (rHl nH149') nJ0 nOr0 (rTab nT149') 3000 194 nK149 = true := by decide +kernel
