/-! THE KERNEL'S CHECKS OF THE CONTRACTS: printed by program -/
def nL1 : List (Nat × Nat × List (Option mI)) := [(154, 3, nC154), (138, 1, nC138), (190, 2, nC190), (191, 1, nC191), (130, 2, nC130)]
def nT1' : List (Nat × List rCo) := []
def nH1' : List (Nat × Nat × rHt) := []
set_option maxRecDepth 100000 in
theorem nV1' : rChk 158 (rLk nL1) nHn (rLm nL1) (rHl nH1') nJ0 nOr0 (rTab nT1') 3000 154 nK1 = true := by decide +kernel
def nL19 : List (Nat × Nat × List (Option mI)) := [(167, 2, nC167), (197, 1, nC197), (213, 2, nC213)]
def nT19' : List (Nat × List rCo) := [(192, [nK3]), (76, [nK4]), (154, [nK1]), (136, [nK0])]
def nH19' : List (Nat × Nat × rHt) := []
set_option maxRecDepth 100000 in
theorem nV19' : rChk 158 (rLk nL19) nHn (rLm nL19) (rHl nH19') nJ0 nOr0 (rTab nT19') 3000 167 nK19 = true := by decide +kernel
def nL29 : List (Nat × Nat × List (Option mI)) := [(127, 2, nC127)]
def nT29' : List (Nat × List rCo) := []
def nH29' : List (Nat × Nat × rHt) := []
set_option maxRecDepth 100000 in
theorem nV29' : rChk 158 (rLk nL29) nHn (rLm nL29) (rHl nH29') nJ0 nOr0 (rTab nT29') 3000 127 nK29 = true := by decide +kernel
def nL37 : List (Nat × Nat × List (Option mI)) := [(125, 7, nC125), (183, 1, nC183), (217, 1, nC217), (184, 2, nC184), (218, 1, nC218), (219, 2, nC219)]
def nT37' : List (Nat × List rCo) := [(226, [nKc 0 2, nKc 1 2, nKc 0 3, nKc 1 3, nKc 2 3, nKc 0 4, nKc 1 4, nKc 2 4, nKc 3 4]), (185, [nK34])]
def nH37' : List (Nat × Nat × rHt) := []
set_option maxRecDepth 100000 in
theorem nV37' : rChk 158 (rLk nL37) nHn (rLm nL37) (rHl nH37') nJ0 nOr0 (rTab nT37') 3000 125 nK37 = true := by decide +kernel
def nL47 : List (Nat × Nat × List (Option mI)) := [(125, 7, nC125), (183, 1, nC183), (217, 1, nC217), (184, 2, nC184), (218, 1, nC218), (219, 2, nC219)]
def nT47' : List (Nat × List rCo) := [(226, [nKc 0 2, nKc 1 2, nKc 0 3, nKc 1 3, nKc 2 3, nKc 0 4, nKc 1 4, nKc 2 4, nKc 3 4]), (185, [nK34])]
def nH47' : List (Nat × Nat × rHt) := []
set_option maxRecDepth 100000 in
theorem nV47' : rChk 158 (rLk nL47) nHn (rLm nL47) (rHl nH47') nJ0 nOr0 (rTab nT47') 3000 125 nK47 = true := by decide +kernel
def nL59 : List (Nat × Nat × List (Option mI)) := [(125, 7, nC125), (183, 1, nC183), (217, 1, nC217), (184, 2, nC184), (218, 1, nC218), (219, 2, nC219)]
def nT59' : List (Nat × List rCo) := [(226, [nKc 0 2, nKc 1 2, nKc 0 3, nKc 1 3, nKc 2 3, nKc 0 4, nKc 1 4, nKc 2 4, nKc 3 4]), (185, [nK34])]
def nH59' : List (Nat × Nat × rHt) := []
set_option maxRecDepth 100000 in
theorem nV59' : rChk 158 (rLk nL59) nHn (rLm nL59) (rHl nH59') nJ0 nOr0 (rTab nT59') 3000 125 nK59 = true := by decide +kernel
def nL61 : List (Nat × Nat × List (Option mI)) := [(125, 7, nC125), (183, 1, nC183), (217, 1, nC217), (184, 2, nC184), (218, 1, nC218), (219, 2, nC219)]
def nT61' : List (Nat × List rCo) := [(226, [nKc 0 2, nKc 1 2, nKc 0 3, nKc 1 3, nKc 2 3, nKc 0 4, nKc 1 4, nKc 2 4, nKc 3 4]), (185, [nK34])]
def nH61' : List (Nat × Nat × rHt) := []
set_option maxRecDepth 100000 in
theorem nV61' : rChk 158 (rLk nL61) nHn (rLm nL61) (rHl nH61') nJ0 nOr0 (rTab nT61') 3000 125 nK61 = true := by decide +kernel
def nL65 : List (Nat × Nat × List (Option mI)) := [(125, 7, nC125), (183, 1, nC183), (217, 1, nC217), (184, 2, nC184), (218, 1, nC218), (219, 2, nC219)]
def nT65' : List (Nat × List rCo) := [(226, [nKc 0 2, nKc 1 2, nKc 0 3, nKc 1 3, nKc 2 3, nKc 0 4, nKc 1 4, nKc 2 4, nKc 3 4]), (185, [nK34])]
def nH65' : List (Nat × Nat × rHt) := []
set_option maxRecDepth 100000 in
theorem nV65' : rChk 158 (rLk nL65) nHn (rLm nL65) (rHl nH65') nJ0 nOr0 (rTab nT65') 3000 125 nK65 = true := by decide +kernel
def nL72 : List (Nat × Nat × List (Option mI)) := [(125, 7, nC125), (183, 1, nC183), (217, 1, nC217), (184, 2, nC184), (218, 1, nC218), (219, 2, nC219)]
def nT72' : List (Nat × List rCo) := [(226, [nKc 0 2, nKc 1 2, nKc 0 3, nKc 1 3, nKc 2 3, nKc 0 4, nKc 1 4, nKc 2 4, nKc 3 4]), (185, [nK34])]
def nH72' : List (Nat × Nat × rHt) := []
set_option maxRecDepth 100000 in
theorem nV72' : rChk 158 (rLk nL72) nHn (rLm nL72) (rHl nH72') nJ0 nOr0 (rTab nT72') 3000 125 nK72 = true := by decide +kernel
def nL84 : List (Nat × Nat × List (Option mI)) := [(125, 7, nC125), (183, 1, nC183), (217, 1, nC217), (184, 2, nC184), (218, 1, nC218), (219, 2, nC219)]
def nT84' : List (Nat × List rCo) := [(226, [nKc 0 2, nKc 1 2, nKc 0 3, nKc 1 3, nKc 2 3, nKc 0 4, nKc 1 4, nKc 2 4, nKc 3 4]), (185, [nK34])]
def nH84' : List (Nat × Nat × rHt) := []
set_option maxRecDepth 100000 in
theorem nV84' : rChk 158 (rLk nL84) nHn (rLm nL84) (rHl nH84') nJ0 nOr0 (rTab nT84') 3000 125 nK84 = true := by decide +kernel
def nL91 : List (Nat × Nat × List (Option mI)) := [(221, 3, nC221), (121, 1, nC121), (122, 1, nC122)]
def nT91' : List (Nat × List rCo) := [(127, [nK29]), (120, [nK27]), (68, [nK31, nK32]), (136, [nK0])]
def nH91' : List (Nat × Nat × rHt) := []
set_option maxRecDepth 100000 in
theorem nV91' : rChk 158 (rLk nL91) nHn (rLm nL91) (rHl nH91') nJ0 nOr0 (rTab nT91') 3000 221 nK91 = true := by decide +kernel
def nL93 : List (Nat × Nat × List (Option mI)) := [(134, 7, nC134)]
def nT93' : List (Nat × List rCo) := [(189, [nK92]), (86, [nK2]), (127, [nK29]), (192, [nK3]), (131, [nK86])]
def nH93' : List (Nat × Nat × rHt) := [(134, 6, .inl ([(2, 3, 0, 0, 240, 0, 0), (2, 1, 0, -2147483648, 2147483647, 0, 0), (2, 2, 0, 0, 1, 0, 0), (0, 169, 17, -2147483648, 2147483647, 0, 0), (0, 167, 2, 0, 240, 0, 0), (0, 167, 4, 0, 240, 0, 0), (0, 167, 5, 0, 240, 0, 0), (1, 167, 6, -9223372036854775808, 9223372036854775807, 0, 0), (0, 167, 7, -2147483648, 2147483647, 0, 0), (0, 167, 8, -2147483648, 2147483647, 0, 0), (0, 167, 9, -2147483648, 2147483647, 0, 0)], [0], (0, 1), (0, 0, 0)))]
set_option maxRecDepth 100000 in
theorem nV93' : rChk 158 (rLk nL93) nHn (rLm nL93) (rHl nH93') nJ0 nOr0 (rTab nT93') 3000 134 nK93 = true := by decide +kernel
def nL95 : List (Nat × Nat × List (Option mI)) := [(126, 4, nC126), (186, 1, nC186), (187, 2, nC187)]
def nT95' : List (Nat × List rCo) := [(127, [nK29]), (134, [nK93]), (120, [nK28]), (188, [nK94]), (189, [nK92]), (86, [nK2])]
def nH95' : List (Nat × Nat × rHt) := []
set_option maxRecDepth 100000 in
theorem nV95' : rChk 158 (rLk nL95) nHn (rLm nL95) (rHl nH95') nJ0 nOr0 (rTab nT95') 3000 126 nK95 = true := by decide +kernel
def nL106 : List (Nat × Nat × List (Option mI)) := [(58, 1, nC58), (80, 4, nC80)]
def nT106' : List (Nat × List rCo) := []
def nH106' : List (Nat × Nat × rHt) := [(80, 5, .inl ([(2, 2, 0, 0, 300, 0, 0)], [0, 1, 3], (0, 1), (0, 0, 0)))]
set_option maxRecDepth 100000 in
theorem nV106' : rChk 158 (rLk nL106) nHn (rLm nL106) (rHl nH106') nJ0 nOr0 (rTab nT106') 3000 58 nK106 = true := by decide +kernel
def nL110 : List (Nat × Nat × List (Option mI)) := [(146, 2, nC146)]
def nT110' : List (Nat × List rCo) := []
def nH110' : List (Nat × Nat × rHt) := []
set_option maxRecDepth 100000 in
theorem nV110' : rChk 158 (rLk nL110) nHn (rLm nL110) (rHl nH110') nJ0 nOr0 (rTab nT110') 3000 146 nK110 = true := by decide +kernel
def nL112 : List (Nat × Nat × List (Option mI)) := [(168, 1, nC168)]
def nT112' : List (Nat × List rCo) := []
def nH112' : List (Nat × Nat × rHt) := []
set_option maxRecDepth 100000 in
theorem nV112' : rChk 158 (rLk nL112) nHn (rLm nL112) (rHl nH112') nJ0 nOr0 (rTab nT112') 3000 168 nK112 = true := by decide +kernel
def nL115 : List (Nat × Nat × List (Option mI)) := [(177, 9, nC177)]
def nT115' : List (Nat × List rCo) := [(74, [nK109]), (73, [nK108]), (146, [nK110])]
def nH115' : List (Nat × Nat × rHt) := []
set_option maxRecDepth 100000 in
theorem nV115' : rChk 158 (rLk nL115) nHn (rLm nL115) (rHl nH115') nJ0 nOr0 (rTab nT115') 3000 177 nK115 = true := by decide +kernel
def nL117 : List (Nat × Nat × List (Option mI)) := [(172, 5, nC172), (70, 1, nC70), (214, 1, nC214), (225, 1, nC225)]
def nT117' : List (Nat × List rCo) := [(73, [nK108]), (146, [nK110])]
def nH117' : List (Nat × Nat × rHt) := []
set_option maxRecDepth 100000 in
theorem nV117' : rChk 158 (rLk nL117) nHn (rLm nL117) (rHl nH117') nJ0 nOr0 (rTab nT117') 3000 172 nK117 = true := by decide +kernel
def nL119 : List (Nat × Nat × List (Option mI)) := [(170, 3, nC170), (215, 5, nC215), (70, 1, nC70), (216, 6, nC216)]
def nT119' : List (Nat × List rCo) := [(74, [nK109]), (177, [nK115]), (73, [nK108]), (146, [nK110])]
def nH119' : List (Nat × Nat × rHt) := []
set_option maxRecDepth 100000 in
theorem nV119' : rChk 158 (rLk nL119) nHn (rLm nL119) (rHl nH119') nJ0 nOr0 (rTab nT119') 3000 170 nK119 = true := by decide +kernel
def nL125 : List (Nat × Nat × List (Option mI)) := [(112, 5, nC112), (176, 4, nC176)]
def nT125' : List (Nat × List rCo) := [(74, [nK109]), (46, [nK113]), (177, [nK115])]
def nH125' : List (Nat × Nat × rHt) := [(112, 0, .inr (.inl ((2, 1, 0), [1, 2, 3, 4, 5, 6, 7, 8, 9, 10, 11, 12, 13, 14, 15, 16, 17, 18, 19, 20, 21, 22, 23, 24, 25, 26, 27, 28, 29, 30, 31, 32, 33, 34, 35, 36, 37, 38, 39, 40, 41, 42, 43, 44, 45, 46, 47, 48, 49, 50, 51, 52, 53, 54, 55, 56, 57, 58, 59, 60, 61, 62, 63], (0, 0, 0)))), (112, 36, .inl ([(2, 4, 0, 0, 63, 0, 0)], [0, 1, 2, 3], (0, 1), (0, 0, 0)))]
set_option maxRecDepth 100000 in
theorem nV125' : rChk 158 (rLk nL125) nHn (rLm nL125) (rHl nH125') nJ0 nOr0 (rTab nT125') 3000 112 nK125 = true := by decide +kernel
def nL139 : List (Nat × Nat × List (Option mI)) := [(97, 4, nC97), (139, 1, nC139), (36, 3, nC36)]
def nT139' : List (Nat × List rCo) := []
def nH139' : List (Nat × Nat × rHt) := [(97, 0, .inr (.inl ((2, 1, 0), [239, 240], (0, 0, 0))))]
set_option maxRecDepth 100000 in
theorem nV139' : rChk 158 (rLk nL139) nHn (rLm nL139) (rHl nH139') nJ0 nOr0 (rTab nT139') 3000 97 nK139 = true := by decide +kernel
def nL161 : List (Nat × Nat × List (Option mI)) := [(41, 8, nC41), (40, 1, nC40)]
def nT161' : List (Nat × List rCo) := [(64, [nK134]), (65, [nK135]), (66, [nK136, nK137]), (67, [nK160])]
def nH161' : List (Nat × Nat × rHt) := []
set_option maxRecDepth 100000 in
theorem nV161' : rChk 158 (rLk nL161) nHn (rLm nL161) (rHl nH161') nJ0 nOr0 (rTab nT161') 3000 41 nK161 = true := by decide +kernel
