/-! THE KERNEL'S CHECKS OF THE CONTRACTS: printed by program -/
def nL6 : List (Nat × Nat × List (Option mI)) := [(198, 11, nC198), (191, 1, nC191), (130, 2, nC130)]
def nT6' : List (Nat × List rCo) := [(136, [nK0])]
def nH6' : List (Nat × Nat × rHt) := []
set_option maxRecDepth 100000 in
theorem nV6' : rChk 158 (rLk nL6) nHn (rLm nL6) (rHl nH6') nJ0 nOr0 (rTab nT6') 3000 198 nK6 = true := by decide +kernel
def nL18 : List (Nat × Nat × List (Option mI)) := [(166, 2, nC166)]
def nT18' : List (Nat × List rCo) := [(198, [nK6]), (207, [nK7])]
def nH18' : List (Nat × Nat × rHt) := []
set_option maxRecDepth 100000 in
theorem nV18' : rChk 158 (rLk nL18) nHn (rLm nL18) (rHl nH18') nJ0 nOr0 (rTab nT18') 3000 166 nK18 = true := by decide +kernel
def nL21 : List (Nat × Nat × List (Option mI)) := [(69, 1, nC69), (107, 1, nC107), (155, 1, nC155), (156, 3, nC156)]
def nT21' : List (Nat × List rCo) := [(76, [nK4]), (106, [nK8]), (108, [nK20])]
def nH21' : List (Nat × Nat × rHt) := []
set_option maxRecDepth 100000 in
theorem nV21' : rChk 158 (rLk nL21) nHn (rLm nL21) (rHl nH21') nJ0 nOr0 (rTab nT21') 3000 69 nK21 = true := by decide +kernel
def nL36 : List (Nat × Nat × List (Option mI)) := [(125, 7, nC125), (183, 1, nC183), (217, 1, nC217), (184, 2, nC184), (218, 1, nC218), (219, 2, nC219)]
def nT36' : List (Nat × List rCo) := [(226, [nKc 0 2, nKc 1 2, nKc 0 3, nKc 1 3, nKc 2 3, nKc 0 4, nKc 1 4, nKc 2 4, nKc 3 4]), (185, [nK34])]
def nH36' : List (Nat × Nat × rHt) := []
set_option maxRecDepth 100000 in
theorem nV36' : rChk 158 (rLk nL36) nHn (rLm nL36) (rHl nH36') nJ0 nOr0 (rTab nT36') 3000 125 nK36 = true := by decide +kernel
def nL44 : List (Nat × Nat × List (Option mI)) := [(125, 7, nC125), (183, 1, nC183), (217, 1, nC217), (184, 2, nC184), (218, 1, nC218), (219, 2, nC219)]
def nT44' : List (Nat × List rCo) := [(226, [nKc 0 2, nKc 1 2, nKc 0 3, nKc 1 3, nKc 2 3, nKc 0 4, nKc 1 4, nKc 2 4, nKc 3 4]), (185, [nK34])]
def nH44' : List (Nat × Nat × rHt) := []
set_option maxRecDepth 100000 in
theorem nV44' : rChk 158 (rLk nL44) nHn (rLm nL44) (rHl nH44') nJ0 nOr0 (rTab nT44') 3000 125 nK44 = true := by decide +kernel
def nL52 : List (Nat × Nat × List (Option mI)) := [(125, 7, nC125), (183, 1, nC183), (217, 1, nC217), (184, 2, nC184), (218, 1, nC218), (219, 2, nC219)]
def nT52' : List (Nat × List rCo) := [(226, [nKc 0 2, nKc 1 2, nKc 0 3, nKc 1 3, nKc 2 3, nKc 0 4, nKc 1 4, nKc 2 4, nKc 3 4]), (185, [nK34])]
def nH52' : List (Nat × Nat × rHt) := []
set_option maxRecDepth 100000 in
theorem nV52' : rChk 158 (rLk nL52) nHn (rLm nL52) (rHl nH52') nJ0 nOr0 (rTab nT52') 3000 125 nK52 = true := by decide +kernel
def nL55 : List (Nat × Nat × List (Option mI)) := [(125, 7, nC125), (183, 1, nC183), (217, 1, nC217), (184, 2, nC184), (218, 1, nC218), (219, 2, nC219)]
def nT55' : List (Nat × List rCo) := [(226, [nKc 0 2, nKc 1 2, nKc 0 3, nKc 1 3, nKc 2 3, nKc 0 4, nKc 1 4, nKc 2 4, nKc 3 4]), (185, [nK34])]
def nH55' : List (Nat × Nat × rHt) := []
set_option maxRecDepth 100000 in
theorem nV55' : rChk 158 (rLk nL55) nHn (rLm nL55) (rHl nH55') nJ0 nOr0 (rTab nT55') 3000 125 nK55 = true := by decide +kernel
def nL60 : List (Nat × Nat × List (Option mI)) := [(125, 7, nC125), (183, 1, nC183), (217, 1, nC217), (184, 2, nC184), (218, 1, nC218), (219, 2, nC219)]
def nT60' : List (Nat × List rCo) := [(226, [nKc 0 2, nKc 1 2, nKc 0 3, nKc 1 3, nKc 2 3, nKc 0 4, nKc 1 4, nKc 2 4, nKc 3 4]), (185, [nK34])]
def nH60' : List (Nat × Nat × rHt) := []
set_option maxRecDepth 100000 in
theorem nV60' : rChk 158 (rLk nL60) nHn (rLm nL60) (rHl nH60') nJ0 nOr0 (rTab nT60') 3000 125 nK60 = true := by decide +kernel
def nL64 : List (Nat × Nat × List (Option mI)) := [(125, 7, nC125), (183, 1, nC183), (217, 1, nC217), (184, 2, nC184), (218, 1, nC218), (219, 2, nC219)]
def nT64' : List (Nat × List rCo) := [(226, [nKc 0 2, nKc 1 2, nKc 0 3, nKc 1 3, nKc 2 3, nKc 0 4, nKc 1 4, nKc 2 4, nKc 3 4]), (185, [nK34])]
def nH64' : List (Nat × Nat × rHt) := []
set_option maxRecDepth 100000 in
theorem nV64' : rChk 158 (rLk nL64) nHn (rLm nL64) (rHl nH64') nJ0 nOr0 (rTab nT64') 3000 125 nK64 = true := by decide +kernel
def nL76 : List (Nat × Nat × List (Option mI)) := [(125, 7, nC125), (183, 1, nC183), (217, 1, nC217), (184, 2, nC184), (218, 1, nC218), (219, 2, nC219)]
def nT76' : List (Nat × List rCo) := [(226, [nKc 0 2, nKc 1 2, nKc 0 3, nKc 1 3, nKc 2 3, nKc 0 4, nKc 1 4, nKc 2 4, nKc 3 4]), (185, [nK34])]
def nH76' : List (Nat × Nat × rHt) := []
set_option maxRecDepth 100000 in
theorem nV76' : rChk 158 (rLk nL76) nHn (rLm nL76) (rHl nH76') nJ0 nOr0 (rTab nT76') 3000 125 nK76 = true := by decide +kernel
def nL83 : List (Nat × Nat × List (Option mI)) := [(125, 7, nC125), (183, 1, nC183), (217, 1, nC217), (184, 2, nC184), (218, 1, nC218), (219, 2, nC219)]
def nT83' : List (Nat × List rCo) := [(226, [nKc 0 2, nKc 1 2, nKc 0 3, nKc 1 3, nKc 2 3, nKc 0 4, nKc 1 4, nKc 2 4, nKc 3 4]), (185, [nK34])]
def nH83' : List (Nat × Nat × rHt) := []
set_option maxRecDepth 100000 in
theorem nV83' : rChk 158 (rLk nL83) nHn (rLm nL83) (rHl nH83') nJ0 nOr0 (rTab nT83') 3000 125 nK83 = true := by decide +kernel
def nL88 : List (Nat × Nat × List (Option mI)) := [(87, 3, nC87)]
def nT88' : List (Nat × List rCo) := [(91, [nK87])]
def nH88' : List (Nat × Nat × rHt) := []
set_option maxRecDepth 100000 in
theorem nV88' : rChk 158 (rLk nL88) nHn (rLm nL88) (rHl nH88') nJ0 nOr0 (rTab nT88') 3000 87 nK88 = true := by decide +kernel
def nL111 : List (Nat × Nat × List (Option mI)) := [(101, 1, nC101)]
def nT111' : List (Nat × List rCo) := [(146, [nK110])]
def nH111' : List (Nat × Nat × rHt) := []
set_option maxRecDepth 100000 in
theorem nV111' : rChk 158 (rLk nL111) nHn (rLm nL111) (rHl nH111') nJ0 nOr0 (rTab nT111') 3000 101 nK111 = true := by decide +kernel
def nL116 : List (Nat × Nat × List (Option mI)) := [(171, 3, nC171), (70, 1, nC70)]
def nT116' : List (Nat × List rCo) := [(73, [nK108]), (146, [nK110])]
def nH116' : List (Nat × Nat × rHt) := []
set_option maxRecDepth 100000 in
theorem nV116' : rChk 158 (rLk nL116) nHn (rLm nL116) (rHl nH116') nJ0 nOr0 (rTab nT116') 3000 171 nK116 = true := by decide +kernel
def nL128 : List (Nat × Nat × List (Option mI)) := [(115, 5, nC115), (71, 1, nC71), (113, 2, nC113), (178, 4, nC178)]
def nT128' : List (Nat × List rCo) := [(179, [nK126]), (180, [nK127])]
def nH128' : List (Nat × Nat × rHt) := []
set_option maxRecDepth 100000 in
theorem nV128' : rChk 158 (rLk nL128) nHn (rLm nL128) (rHl nH128') nJ0 nOr0 (rTab nT128') 3000 115 nK128 = true := by decide +kernel
def nL130 : List (Nat × Nat × List (Option mI)) := [(117, 6, nC117), (113, 2, nC113)]
def nT130' : List (Nat × List rCo) := [(74, [nK109]), (181, [nK114]), (114, [nK121]), (177, [nK115]), (146, [nK110]), (171, [nK116])]
def nH130' : List (Nat × Nat × rHt) := []
set_option maxRecDepth 100000 in
theorem nV130' : rChk 158 (rLk nL130) nHn (rLm nL130) (rHl nH130') nJ0 nOr0 (rTab nT130') 3000 117 nK130 = true := by decide +kernel
def nL133 : List (Nat × Nat × List (Option mI)) := [(14, 3, nC14), (36, 3, nC36), (37, 2, nC37)]
def nT133' : List (Nat × List rCo) := [(44, [nK132])]
def nH133' : List (Nat × Nat × rHt) := [(14, 37, .inl ([(2, 2, 0, 0, 500, 0, 0), (0, 183, 0, -2147483648, 2147483647, 0, 0), (0, 183, 3, 0, 1, 0, 0), (0, 183, 4, 0, 1, 0, 0), (0, 183, 5, -2147483648, 2147483647, 0, 0), (0, 183, 6, -2147483648, 2147483647, 0, 0), (0, 183, 7, -2147483648, 2147483647, 0, 0), (0, 183, 8, -2147483648, 2147483647, 0, 0), (0, 183, 9, -2147483648, 2147483647, 0, 0), (0, 183, 10, -2147483648, 2147483647, 0, 0), (0, 183, 12, 0, 6, 0, 0), (0, 183, 13, 0, 6, 0, 0), (0, 183, 15, -2147483648, 2147483647, 0, 0)], [0, 1], (0, 1), (0, 0, 0)))]
set_option maxRecDepth 100000 in
theorem nV133' : rChk 158 (rLk nL133) nHn (rLm nL133) (rHl nH133') nJ0 nOr0 (rTab nT133') 3000 14 nK133 = true := by decide +kernel
def nL138 : List (Nat × Nat × List (Option mI)) := [(140, 6, nC140)]
def nT138' : List (Nat × List rCo) := []
def nH138' : List (Nat × Nat × rHt) := [(140, 5, .inl ([(2, 5, 0, 0, 240, 0, 0), (3, 3, 0, -9223372036854775808, 9223372036854775807, 0, 0), (0, 190, 2, 0, 239, 0, 0), (0, 190, 3, -2147483648, 2147483647, 0, 0), (0, 190, 4, 0, 239, 0, 0), (0, 190, 5, -2147483648, 2147483647, 0, 0)], [0, 1, 2], (0, 1), (0, 0, 0)))]
set_option maxRecDepth 100000 in
theorem nV138' : rChk 158 (rLk nL138) nHn (rLm nL138) (rHl nH138') nJ0 nOr0 (rTab nT138') 3000 140 nK138 = true := by decide +kernel
def nL143 : List (Nat × Nat × List (Option mI)) := [(195, 1, nC195)]
def nT143' : List (Nat × List rCo) := []
def nH143' : List (Nat × Nat × rHt) := []
set_option maxRecDepth 100000 in
theorem nV143' : rChk 158 (rLk nL143) nHn (rLm nL143) (rHl nH143') nJ0 nOr0 (rTab nT143') 3000 195 nK143 = true := by decide +kernel
def nL148 : List (Nat × Nat × List (Option mI)) := [(144, 2, nC144)]
def nT148' : List (Nat × List rCo) := []
def nH148' : List (Nat × Nat × rHt) := []
set_option maxRecDepth 100000 in
theorem nV148' : rChk 158 (rLk nL148) nHn (rLm nL148) (rHl nH148') nJ0 nOr0 (rTab nT148') 3000 144 nK148 = true := by decide +kernel
def nL154 : List (Nat × Nat × List (Option mI)) := [(102, 3, nC102)]
def nT154' : List (Nat × List rCo) := [(105, [nK152, nK153])]
def nH154' : List (Nat × Nat × rHt) := []
set_option maxRecDepth 100000 in
theorem nV154' : rChk 158 (rLk nL154) nHn (rLm nL154) (rHl nH154') nJ0 nOr0 (rTab nT154') 3000 102 nK154 = true := by decide +kernel
def nL157 : List (Nat × Nat × List (Option mI)) := [(153, 2, nC153), (151, 3, nC151), (40, 1, nC40)]
def nT157' : List (Nat × List rCo) := [(101, [nK111]), (102, [nK154]), (46, [nK113]), (105, [nK152, nK153])]
def nH157' : List (Nat × Nat × rHt) := [(153, 2, .inl ([(2, 1, 0, 0, 30, 0, 0), (0, 183, 24, -2147483648, 2147483647, 0, 0)], [0], (0, 1), (0, 0, 0))), (153, 65, .inl ([(2, 1, 0, 0, 20, 0, 0), (0, 183, 24, -2147483648, 2147483647, 0, 0)], [0], (0, 1), (0, 0, 0))), (153, 129, .inl ([(2, 1, 0, 0, 60, 0, 0), (0, 183, 23, 0, 1, 0, 0)], [0], (0, 1), (0, 0, 0)))]
set_option maxRecDepth 100000 in
theorem nV157' : rChk 158 (rLk nL157) nHn (rLm nL157) (rHl nH157') nJ0 nOr0 (rTab nT157') 3000 153 nK157 = true := by decide +kernel
def nL159 : List (Nat × Nat × List (Option mI)) := [(98, 12, nC98)]
def nT159' : List (Nat × List rCo) := [(140, [nK138]), (141, [nK145]), (142, [nK146]), (143, [nK147]), (144, [nK148])]
def nH159' : List (Nat × Nat × rHt) := [(98, 0, .inr (.inl ((2, 2, 0), [1], (0, 0, 0))))]
set_option maxRecDepth 100000 in
theorem nV159' : rChk 158 (rLk nL159) nHn (rLm nL159) (rHl nH159') nJ0 nOr0 (rTab nT159') 3000 98 nK159 = true := by decide +kernel
def nL160 : List (Nat × Nat × List (Option mI)) := [(67, 12, nC67), (40, 1, nC40)]
def nT160' : List (Nat × List rCo) := [(97, [nK139]), (98, [nK159]), (99, [nK140]), (66, [nK136, nK137]), (100, [nK142]), (101, [nK111]), (102, [nK154]), (103, [nK156]), (104, [nK158]), (105, [nK152, nK153])]
def nH160' : List (Nat × Nat × rHt) := [(67, 35, .inr (.inr 1))]
set_option maxRecDepth 100000 in
theorem nV160' : rChk 158 (rLk nL160) nHn (rLm nL160) (rHl nH160') nJ0 nOr0 (rTab nT160') 3000 67 nK160 = true := by decide +kernel
