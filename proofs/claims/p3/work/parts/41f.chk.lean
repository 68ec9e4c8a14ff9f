/-! THE KERNEL'S CHECKS OF THE CONTRACTS: printed by program -/
def nL7 : List (Nat × Nat × List (Option mI)) := [(207, 4, nC207), (138, 1, nC138), (191, 1, nC191), (130, 2, nC130)]
def nT7' : List (Nat × List rCo) := []
def nH7' : List (Nat × Nat × rHt) := []
set_option maxRecDepth 100000 in
theorem nV7' : rChk 158 (rLk nL7) nHn (rLm nL7) (rHl nH7') nJ0 nOr0 (rTab nT7') 3000 207 nK7 = true := by decide +kernel
def nL15 : List (Nat × Nat × List (Option mI)) := [(163, 3, nC163), (155, 1, nC155), (208, 5, nC208), (224, 5, nC224), (228, 3, nC228), (229, 4, nC229), (206, 2, nC206), (230, 2, nC230), (231, 2, nC231), (156, 3, nC156), (209, 3, nC209), (210, 1, nC210)]
def nT15' : List (Nat × List rCo) := [(76, [nK4]), (86, [nK2])]
def nH15' : List (Nat × Nat × rHt) := []
set_option maxRecDepth 100000 in
theorem nV15' : rChk 158 (rLk nL15) nHn (rLm nL15) (rHl nH15') nJ0 nOr0 (rTab nT15') 3000 163 nK15 = true := by decide +kernel
def nL28 : List (Nat × Nat × List (Option mI)) := []
def nT28' : List (Nat × List rCo) := [(120, [nK27])]
def nH28' : List (Nat × Nat × rHt) := []
set_option maxRecDepth 100000 in
theorem nV28' : rChk 158 (rLk nL28) nHn (rLm nL28) (rHl nH28') nJ0 nOr0 (rTab nT28') 3000 120 nK28 = true := by decide +kernel
def nL31 : List (Nat × Nat × List (Option mI)) := [(68, 4, nC68)]
def nT31' : List (Nat × List rCo) := []
def nH31' : List (Nat × Nat × rHt) := [(68, 2, .inl ([(2, 3, 0, 0, 30, 0, 0)], [0, 1], (0, 1), (0, 0, 0)))]
set_option maxRecDepth 100000 in
theorem nV31' : rChk 158 (rLk nL31) nHn (rLm nL31) (rHl nH31') nJ0 nOr0 (rTab nT31') 3000 68 nK31 = true := by decide +kernel
def nL35 : List (Nat × Nat × List (Option mI)) := [(125, 7, nC125), (183, 1, nC183), (217, 1, nC217), (184, 2, nC184), (218, 1, nC218), (219, 2, nC219)]
def nT35' : List (Nat × List rCo) := [(226, [nKc 0 2, nKc 1 2, nKc 0 3, nKc 1 3, nKc 2 3, nKc 0 4, nKc 1 4, nKc 2 4, nKc 3 4]), (185, [nK34])]
def nH35' : List (Nat × Nat × rHt) := []
set_option maxRecDepth 100000 in
theorem nV35' : rChk 158 (rLk nL35) nHn (rLm nL35) (rHl nH35') nJ0 nOr0 (rTab nT35') 3000 125 nK35 = true := by decide +kernel
def nL42 : List (Nat × Nat × List (Option mI)) := [(125, 7, nC125), (183, 1, nC183), (217, 1, nC217), (184, 2, nC184), (218, 1, nC218), (219, 2, nC219)]
def nT42' : List (Nat × List rCo) := [(226, [nKc 0 2, nKc 1 2, nKc 0 3, nKc 1 3, nKc 2 3, nKc 0 4, nKc 1 4, nKc 2 4, nKc 3 4]), (185, [nK34])]
def nH42' : List (Nat × Nat × rHt) := []
set_option maxRecDepth 100000 in
theorem nV42' : rChk 158 (rLk nL42) nHn (rLm nL42) (rHl nH42') nJ0 nOr0 (rTab nT42') 3000 125 nK42 = true := by decide +kernel
def nL49 : List (Nat × Nat × List (Option mI)) := [(125, 7, nC125), (183, 1, nC183), (217, 1, nC217), (184, 2, nC184), (218, 1, nC218), (219, 2, nC219)]
def nT49' : List (Nat × List rCo) := [(226, [nKc 0 2, nKc 1 2, nKc 0 3, nKc 1 3, nKc 2 3, nKc 0 4, nKc 1 4, nKc 2 4, nKc 3 4]), (185, [nK34])]
def nH49' : List (Nat × Nat × rHt) := []
set_option maxRecDepth 100000 in
theorem nV49' : rChk 158 (rLk nL49) nHn (rLm nL49) (rHl nH49') nJ0 nOr0 (rTab nT49') 3000 125 nK49 = true := by decide +kernel
def nL50 : List (Nat × Nat × List (Option mI)) := [(125, 7, nC125), (183, 1, nC183), (217, 1, nC217), (184, 2, nC184), (218, 1, nC218), (219, 2, nC219)]
def nT50' : List (Nat × List rCo) := [(226, [nKc 0 2, nKc 1 2, nKc 0 3, nKc 1 3, nKc 2 3, nKc 0 4, nKc 1 4, nKc 2 4, nKc 3 4]), (185, [nK34])]
def nH50' : List (Nat × Nat × rHt) := []
set_option maxRecDepth 100000 in
theorem nV50' : rChk 158 (rLk nL50) nHn (rLm nL50) (rHl nH50') nJ0 nOr0 (rTab nT50') 3000 125 nK50 = true := by decide +kernel
def nL56 : List (Nat × Nat × List (Option mI)) := [(125, 7, nC125), (183, 1, nC183), (217, 1, nC217), (184, 2, nC184), (218, 1, nC218), (219, 2, nC219)]
def nT56' : List (Nat × List rCo) := [(226, [nKc 0 2, nKc 1 2, nKc 0 3, nKc 1 3, nKc 2 3, nKc 0 4, nKc 1 4, nKc 2 4, nKc 3 4]), (185, [nK34])]
def nH56' : List (Nat × Nat × rHt) := []
set_option maxRecDepth 100000 in
theorem nV56' : rChk 158 (rLk nL56) nHn (rLm nL56) (rHl nH56') nJ0 nOr0 (rTab nT56') 3000 125 nK56 = true := by decide +kernel
def nL69 : List (Nat × Nat × List (Option mI)) := [(125, 7, nC125), (183, 1, nC183), (217, 1, nC217), (184, 2, nC184), (218, 1, nC218), (219, 2, nC219)]
def nT69' : List (Nat × List rCo) := [(226, [nKc 0 2, nKc 1 2, nKc 0 3, nKc 1 3, nKc 2 3, nKc 0 4, nKc 1 4, nKc 2 4, nKc 3 4]), (185, [nK34])]
def nH69' : List (Nat × Nat × rHt) := []
set_option maxRecDepth 100000 in
theorem nV69' : rChk 158 (rLk nL69) nHn (rLm nL69) (rHl nH69') nJ0 nOr0 (rTab nT69') 3000 125 nK69 = true := by decide +kernel
def nL70 : List (Nat × Nat × List (Option mI)) := [(125, 7, nC125), (183, 1, nC183), (217, 1, nC217), (184, 2, nC184), (218, 1, nC218), (219, 2, nC219)]
def nT70' : List (Nat × List rCo) := [(226, [nKc 0 2, nKc 1 2, nKc 0 3, nKc 1 3, nKc 2 3, nKc 0 4, nKc 1 4, nKc 2 4, nKc 3 4]), (185, [nK34])]
def nH70' : List (Nat × Nat × rHt) := []
set_option maxRecDepth 100000 in
theorem nV70' : rChk 158 (rLk nL70) nHn (rLm nL70) (rHl nH70') nJ0 nOr0 (rTab nT70') 3000 125 nK70 = true := by decide +kernel
def nL74 : List (Nat × Nat × List (Option mI)) := [(125, 7, nC125), (183, 1, nC183), (217, 1, nC217), (184, 2, nC184), (218, 1, nC218), (219, 2, nC219)]
def nT74' : List (Nat × List rCo) := [(226, [nKc 0 2, nKc 1 2, nKc 0 3, nKc 1 3, nKc 2 3, nKc 0 4, nKc 1 4, nKc 2 4, nKc 3 4]), (185, [nK34])]
def nH74' : List (Nat × Nat × rHt) := []
set_option maxRecDepth 100000 in
theorem nV74' : rChk 158 (rLk nL74) nHn (rLm nL74) (rHl nH74') nJ0 nOr0 (rTab nT74') 3000 125 nK74 = true := by decide +kernel
def nL80 : List (Nat × Nat × List (Option mI)) := [(125, 7, nC125), (183, 1, nC183), (217, 1, nC217), (184, 2, nC184), (218, 1, nC218), (219, 2, nC219)]
def nT80' : List (Nat × List rCo) := [(226, [nKc 0 2, nKc 1 2, nKc 0 3, nKc 1 3, nKc 2 3, nKc 0 4, nKc 1 4, nKc 2 4, nKc 3 4]), (185, [nK34])]
def nH80' : List (Nat × Nat × rHt) := []
set_option maxRecDepth 100000 in
theorem nV80' : rChk 158 (rLk nL80) nHn (rLm nL80) (rHl nH80') nJ0 nOr0 (rTab nT80') 3000 125 nK80 = true := by decide +kernel
def nL85 : List (Nat × Nat × List (Option mI)) := [(84, 2, nC84), (119, 1, nC119)]
def nT85' : List (Nat × List rCo) := [(124, [nK25]), (118, [nK26]), (120, [nK28]), (125, [nK35, nK36, nK37, nK38, nK39, nK40, nK41, nK42, nK43, nK44, nK45, nK46, nK47, nK48, nK49, nK50, nK51, nK52, nK53, nK54, nK55, nK56, nK57, nK58, nK59, nK60, nK61, nK62, nK63, nK64, nK65, nK66, nK67, nK68, nK69, nK70, nK71, nK72, nK73, nK74, nK75, nK76, nK77, nK78, nK79, nK80, nK81, nK82, nK83, nK84])]
def nH85' : List (Nat × Nat × rHt) := []
set_option maxRecDepth 100000 in
theorem nV85' : rChk 158 (rLk nL85) nHn (rLm nL85) (rHl nH85') nJ0 nOr0 (rTab nT85') 3000 84 nK85 = true := by decide +kernel
def nL107 : List (Nat × Nat × List (Option mI)) := [(38, 2, nC38), (59, 1, nC59), (63, 2, nC63)]
def nT107' : List (Nat × List rCo) := [(58, [nK106]), (60, [nK100]), (61, [nK104]), (62, [nK105])]
def nH107' : List (Nat × Nat × rHt) := [(38, 9, .inl ([(2, 1, 0, 0, 241, 0, 0), (0, 167, 2, 0, 240, 0, 0), (0, 167, 3, 0, 241, 0, 0), (0, 167, 4, 0, 240, 0, 0), (0, 167, 5, 0, 240, 0, 0), (1, 167, 6, -9223372036854775808, 9223372036854775807, 0, 0), (0, 167, 7, -2147483648, 2147483647, 0, 0), (0, 167, 8, -2147483648, 2147483647, 0, 0), (0, 167, 9, -2147483648, 2147483647, 0, 0), (0, 169, 7, 0, 20, 0, 0), (0, 169, 8, -2147483648, 2147483647, 0, 0), (0, 169, 9, -2147483648, 2147483647, 0, 0), (0, 169, 10, 0, 1, 0, 0), (0, 169, 11, -2147483648, 2147483647, 0, 0), (0, 169, 12, -2147483648, 2147483647, 0, 0), (0, 169, 13, 0, 29, 0, 0), (0, 169, 14, -2147483648, 2147483647, 0, 0), (0, 169, 16, -2147483648, 2147483647, 0, 0), (0, 169, 17, -2147483648, 2147483647, 0, 0), (0, 170, 2, 0, 30, 0, 0), (0, 176, 3, 0, 60, 0, 0), (5, 169, 15, 2, 51, 0, 0)], [0], (0, 1), (0, 0, 0)))]
set_option maxRecDepth 100000 in
theorem nV107' : rChk 158 (rLk nL107) nHn (rLm nL107) (rHl nH107') nJ0 nOr0 (rTab nT107') 3000 38 nK107 = true := by decide +kernel
def nL113 : List (Nat × Nat × List (Option mI)) := [(46, 2, nC46), (36, 3, nC36)]
def nT113' : List (Nat × List rCo) := []
def nH113' : List (Nat × Nat × rHt) := []
set_option maxRecDepth 100000 in
theorem nV113' : rChk 158 (rLk nL113) nHn (rLm nL113) (rHl nH113') nJ0 nOr0 (rTab nT113') 3000 46 nK113 = true := by decide +kernel
def nL121 : List (Nat × Nat × List (Option mI)) := [(114, 3, nC114), (113, 2, nC113)]
def nT121' : List (Nat × List rCo) := [(46, [nK113]), (146, [nK110])]
def nH121' : List (Nat × Nat × rHt) := []
set_option maxRecDepth 100000 in
theorem nV121' : rChk 158 (rLk nL121) nHn (rLm nL121) (rHl nH121') nJ0 nOr0 (rTab nT121') 3000 114 nK121 = true := by decide +kernel
def nL126 : List (Nat × Nat × List (Option mI)) := [(179, 4, nC179), (113, 2, nC113), (176, 4, nC176)]
def nT126' : List (Nat × List rCo) := [(46, [nK113])]
def nH126' : List (Nat × Nat × rHt) := [(179, 152, .inl ([(2, 3, 0, 0, 20, 0, 0)], [0, 1, 2], (0, 1), (0, 0, 0)))]
set_option maxRecDepth 100000 in
theorem nV126' : rChk 158 (rLk nL126) nHn (rLm nL126) (rHl nH126') nJ0 nOr0 (rTab nT126') 3000 179 nK126 = true := by decide +kernel
def nL135 : List (Nat × Nat × List (Option mI)) := [(65, 4, nC65)]
def nT135' : List (Nat × List rCo) := []
def nH135' : List (Nat × Nat × rHt) := [(65, 2, .inl ([(2, 3, 0, 0, 240, 1, 0), (0, 190, 2, 0, 239, 0, 0), (0, 190, 3, -2147483648, 2147483647, 0, 0), (0, 190, 4, 0, 239, 0, 0), (0, 190, 5, -2147483648, 2147483647, 0, 0)], [0, 1, 2], (0, 1), (0, 0, 0)))]
set_option maxRecDepth 100000 in
theorem nV135' : rChk 158 (rLk nL135) nHn (rLm nL135) (rHl nH135') nJ0 nOr0 (rTab nT135') 3000 65 nK135 = true := by decide +kernel
def nL140 : List (Nat × Nat × List (Option mI)) := [(99, 5, nC99), (139, 1, nC139), (36, 3, nC36)]
def nT140' : List (Nat × List rCo) := [(97, [nK139])]
def nH140' : List (Nat × Nat × rHt) := [(99, 5, .inl ([(2, 4, 0, 0, 240, 0, 0), (2, 3, 0, 0, 1, 0, 0), (0, 190, 2, 0, 239, 0, 0), (0, 190, 3, -2147483648, 2147483647, 0, 0), (0, 190, 4, 0, 239, 0, 0), (0, 190, 5, -2147483648, 2147483647, 0, 0)], [0, 1, 2], (0, 1), (0, 0, 0)))]
set_option maxRecDepth 100000 in
theorem nV140' : rChk 158 (rLk nL140) nHn (rLm nL140) (rHl nH140') nJ0 nOr0 (rTab nT140') 3000 99 nK140 = true := by decide +kernel
def nL146 : List (Nat × Nat × List (Option mI)) := [(142, 2, nC142)]
def nT146' : List (Nat × List rCo) := []
def nH146' : List (Nat × Nat × rHt) := []
set_option maxRecDepth 100000 in
theorem nV146' : rChk 158 (rLk nL146) nHn (rLm nL146) (rHl nH146') nJ0 nOr0 (rTab nT146') 3000 142 nK146 = true := by decide +kernel
def nL147 : List (Nat × Nat × List (Option mI)) := [(143, 1, nC143), (36, 3, nC36)]
def nT147' : List (Nat × List rCo) := []
def nH147' : List (Nat × Nat × rHt) := []
set_option maxRecDepth 100000 in
theorem nV147' : rChk 158 (rLk nL147) nHn (rLm nL147) (rHl nH147') nJ0 nOr0 (rTab nT147') 3000 143 nK147 = true := by decide +kernel
def nL158 : List (Nat × Nat × List (Option mI)) := [(104, 4, nC104), (40, 1, nC40), (151, 3, nC151)]
def nT158' : List (Nat × List rCo) := [(152, [nK151]), (74, [nK109]), (46, [nK113]), (153, [nK157])]
def nH158' : List (Nat × Nat × rHt) := []
set_option maxRecDepth 100000 in
theorem nV158' : rChk 158 (rLk nL158) nHn (rLm nL158) (rHl nH158') nJ0 nOr0 (rTab nT158') 3000 104 nK158 = true := by decide +kernel
def nL162 : List (Nat × Nat × List (Option mI)) := [(39, 2, nC39)]
def nT162' : List (Nat × List rCo) := []
def nH162' : List (Nat × Nat × rHt) := [(39, 53, .inl ([(2, 1, 0, 0, 200, 0, 0)], [0], (0, 1), (0, 0, 0))), (39, 73, .inr (.inr 3))]
set_option maxRecDepth 100000 in
theorem nV162' : rChk 158 (rLk nL162) nHn (rLm nL162) (rHl nH162') nJ0 nOr0 (rTab nT162') 3000 39 nK162 = true := by decide +kernel
