/-! THE KERNEL'S CHECKS OF THE CONTRACTS: printed by program -/
def nL0 : List (Nat × Nat × List (Option mI)) := [(136, 1, nC136)]
def nT0' : List (Nat × List rCo) := []
def nH0' : List (Nat × Nat × rHt) := []
set_option maxRecDepth 100000 in
theorem nV0' : rChk 158 (rLk nL0) nHn (rLm nL0) (rHl nH0') nJ0 nOr0 (rTab nT0') 3000 136 nK0 = true := by decide +kernel
def nL9 : List (Nat × Nat × List (Option mI)) := [(157, 2, nC157), (197, 1, nC197), (199, 5, nC199), (191, 1, nC191), (138, 1, nC138), (130, 2, nC130), (200, 6, nC200), (203, 1, nC203)]
def nT9' : List (Nat × List rCo) := [(192, [nK3]), (76, [nK4]), (154, [nK1]), (136, [nK0]), (198, [nK6])]
def nH9' : List (Nat × Nat × rHt) := []
set_option maxRecDepth 100000 in
theorem nV9' : rChk 158 (rLk nL9) nHn (rLm nL9) (rHl nH9') nJ0 nOr0 (rTab nT9') 3000 157 nK9 = true := by decide +kernel
def nL13 : List (Nat × Nat × List (Option mI)) := [(161, 2, nC161), (197, 1, nC197)]
def nT13' : List (Nat × List rCo) := [(192, [nK3]), (76, [nK4]), (154, [nK1]), (207, [nK7])]
def nH13' : List (Nat × Nat × rHt) := []
set_option maxRecDepth 100000 in
theorem nV13' : rChk 158 (rLk nL13) nHn (rLm nL13) (rHl nH13') nJ0 nOr0 (rTab nT13') 3000 161 nK13 = true := by decide +kernel
def nL14 : List (Nat × Nat × List (Option mI)) := [(162, 2, nC162), (197, 1, nC197), (131, 6, nC131), (190, 2, nC190), (138, 1, nC138), (191, 1, nC191), (130, 2, nC130)]
def nT14' : List (Nat × List rCo) := [(192, [nK3]), (76, [nK4])]
def nH14' : List (Nat × Nat × rHt) := []
set_option maxRecDepth 100000 in
theorem nV14' : rChk 158 (rLk nL14) nHn (rLm nL14) (rHl nH14') nJ0 nOr0 (rTab nT14') 3000 162 nK14 = true := by decide +kernel
def nL22 : List (Nat × Nat × List (Option mI)) := [(43, 4, nC43)]
def nT22' : List (Nat × List rCo) := [(69, [nK21])]
def nH22' : List (Nat × Nat × rHt) := [(43, 52, .inl ([(2, 3, 0, 0, 500, 0, 0), (0, 160, 8, 0, 501, 2, 1), (0, 160, 5, 0, 6, 0, 0), (0, 160, 6, 0, 5, 0, 0), (0, 160, 7, 0, 6, 0, 0), (0, 165, 3, 0, 1, 0, 0), (0, 165, 4, -2147483648, 2147483647, 0, 0), (0, 165, 5, -2147483648, 2147483647, 0, 0), (0, 165, 6, -2147483648, 2147483647, 0, 0), (0, 165, 7, -2147483648, 2147483647, 0, 0), (0, 165, 8, -2147483648, 2147483647, 0, 0), (0, 165, 9, -2147483648, 2147483647, 0, 0), (0, 165, 10, -2147483648, 2147483647, 0, 0), (0, 165, 11, -2147483648, 2147483647, 0, 0), (0, 165, 12, -2147483648, 2147483647, 0, 0), (0, 165, 13, -2147483648, 2147483647, 0, 0), (0, 165, 14, -2147483648, 2147483647, 0, 0)], [0, 1, 2], (0, 1), (0, 0, 0)))]
set_option maxRecDepth 100000 in
theorem nV22' : rChk 158 (rLk nL22) nHn (rLm nL22) (rHl nH22') nJ0 nOr0 (rTab nT22') 3000 43 nK22 = true := by decide +kernel
def nL32 : List (Nat × Nat × List (Option mI)) := [(68, 4, nC68)]
def nT32' : List (Nat × List rCo) := []
def nH32' : List (Nat × Nat × rHt) := [(68, 2, .inl ([(2, 3, 0, 0, 30, 0, 0)], [0, 1], (0, 1), (0, 0, 0)))]
set_option maxRecDepth 100000 in
theorem nV32' : rChk 158 (rLk nL32) nHn (rLm nL32) (rHl nH32') nJ0 nOr0 (rTab nT32') 3000 68 nK32 = true := by decide +kernel
def nL34 : List (Nat × Nat × List (Option mI)) := [(185, 2, nC185), (220, 3, nC220), (218, 1, nC218), (183, 1, nC183), (217, 1, nC217), (227, 4, nC227), (233, 1, nC233), (234, 6, nC234)]
def nT34' : List (Nat × List rCo) := []
def nH34' : List (Nat × Nat × rHt) := []
set_option maxRecDepth 100000 in
theorem nV34' : rChk 158 (rLk nL34) nHn (rLm nL34) (rHl nH34') nJ0 nOr0 (rTab nT34') 3000 185 nK34 = true := by decide +kernel
def nL38 : List (Nat × Nat × List (Option mI)) := [(125, 7, nC125), (183, 1, nC183), (217, 1, nC217), (184, 2, nC184), (218, 1, nC218), (219, 2, nC219)]
def nT38' : List (Nat × List rCo) := [(226, [nKc 0 2, nKc 1 2, nKc 0 3, nKc 1 3, nKc 2 3, nKc 0 4, nKc 1 4, nKc 2 4, nKc 3 4]), (185, [nK34])]
def nH38' : List (Nat × Nat × rHt) := []
set_option maxRecDepth 100000 in
theorem nV38' : rChk 158 (rLk nL38) nHn (rLm nL38) (rHl nH38') nJ0 nOr0 (rTab nT38') 3000 125 nK38 = true := by decide +kernel
def nL45 : List (Nat × Nat × List (Option mI)) := [(125, 7, nC125), (183, 1, nC183), (217, 1, nC217), (184, 2, nC184), (218, 1, nC218), (219, 2, nC219)]
def nT45' : List (Nat × List rCo) := [(226, [nKc 0 2, nKc 1 2, nKc 0 3, nKc 1 3, nKc 2 3, nKc 0 4, nKc 1 4, nKc 2 4, nKc 3 4]), (185, [nK34])]
def nH45' : List (Nat × Nat × rHt) := []
set_option maxRecDepth 100000 in
theorem nV45' : rChk 158 (rLk nL45) nHn (rLm nL45) (rHl nH45') nJ0 nOr0 (rTab nT45') 3000 125 nK45 = true := by decide +kernel
def nL48 : List (Nat × Nat × List (Option mI)) := [(125, 7, nC125), (183, 1, nC183), (217, 1, nC217), (184, 2, nC184), (218, 1, nC218), (219, 2, nC219)]
def nT48' : List (Nat × List rCo) := [(226, [nKc 0 2, nKc 1 2, nKc 0 3, nKc 1 3, nKc 2 3, nKc 0 4, nKc 1 4, nKc 2 4, nKc 3 4]), (185, [nK34])]
def nH48' : List (Nat × Nat × rHt) := []
set_option maxRecDepth 100000 in
theorem nV48' : rChk 158 (rLk nL48) nHn (rLm nL48) (rHl nH48') nJ0 nOr0 (rTab nT48') 3000 125 nK48 = true := by decide +kernel
def nL62 : List (Nat × Nat × List (Option mI)) := [(125, 7, nC125), (183, 1, nC183), (217, 1, nC217), (184, 2, nC184), (218, 1, nC218), (219, 2, nC219)]
def nT62' : List (Nat × List rCo) := [(226, [nKc 0 2, nKc 1 2, nKc 0 3, nKc 1 3, nKc 2 3, nKc 0 4, nKc 1 4, nKc 2 4, nKc 3 4]), (185, [nK34])]
def nH62' : List (Nat × Nat × rHt) := []
set_option maxRecDepth 100000 in
theorem nV62' : rChk 158 (rLk nL62) nHn (rLm nL62) (rHl nH62') nJ0 nOr0 (rTab nT62') 3000 125 nK62 = true := by decide +kernel
def nL73 : List (Nat × Nat × List (Option mI)) := [(125, 7, nC125), (183, 1, nC183), (217, 1, nC217), (184, 2, nC184), (218, 1, nC218), (219, 2, nC219)]
def nT73' : List (Nat × List rCo) := [(226, [nKc 0 2, nKc 1 2, nKc 0 3, nKc 1 3, nKc 2 3, nKc 0 4, nKc 1 4, nKc 2 4, nKc 3 4]), (185, [nK34])]
def nH73' : List (Nat × Nat × rHt) := []
set_option maxRecDepth 100000 in
theorem nV73' : rChk 158 (rLk nL73) nHn (rLm nL73) (rHl nH73') nJ0 nOr0 (rTab nT73') 3000 125 nK73 = true := by decide +kernel
def nL79 : List (Nat × Nat × List (Option mI)) := [(125, 7, nC125), (183, 1, nC183), (217, 1, nC217), (184, 2, nC184), (218, 1, nC218), (219, 2, nC219)]
def nT79' : List (Nat × List rCo) := [(226, [nKc 0 2, nKc 1 2, nKc 0 3, nKc 1 3, nKc 2 3, nKc 0 4, nKc 1 4, nKc 2 4, nKc 3 4]), (185, [nK34])]
def nH79' : List (Nat × Nat × rHt) := []
set_option maxRecDepth 100000 in
theorem nV79' : rChk 158 (rLk nL79) nHn (rLm nL79) (rHl nH79') nJ0 nOr0 (rTab nT79') 3000 125 nK79 = true := by decide +kernel
def nL90 : List (Nat × Nat × List (Option mI)) := [(223, 7, nC223)]
def nT90' : List (Nat × List rCo) := []
def nH90' : List (Nat × Nat × rHt) := [(223, 0, .inr (.inl ((2, 2, 0), [47, 48], (0, 0, 0))))]
set_option maxRecDepth 100000 in
theorem nV90' : rChk 158 (rLk nL90) nHn (rLm nL90) (rHl nH90') nJ0 nOr0 (rTab nT90') 3000 223 nK90 = true := by decide +kernel
def nL96 : List (Nat × Nat × List (Option mI)) := [(129, 1, nC129)]
def nT96' : List (Nat × List rCo) := []
def nH96' : List (Nat × Nat × rHt) := []
set_option maxRecDepth 100000 in
theorem nV96' : rChk 158 (rLk nL96) nHn (rLm nL96) (rHl nH96') nJ0 nOr0 (rTab nT96') 3000 129 nK96 = true := by decide +kernel
def nL103 : List (Nat × Nat × List (Option mI)) := [(94, 2, nC94), (132, 2, nC132)]
def nT103' : List (Nat × List rCo) := [(86, [nK2]), (91, [nK87]), (76, [nK4])]
def nH103' : List (Nat × Nat × rHt) := [(94, 2, .inl ([(2, 1, 0, 0, 20, 0, 0), (0, 169, 8, -2147483648, 2147483647, 0, 0)], [0], (0, 1), (0, 0, 0)))]
set_option maxRecDepth 100000 in
theorem nV103' : rChk 158 (rLk nL103) nHn (rLm nL103) (rHl nH103') nJ0 nOr0 (rTab nT103') 3000 94 nK103 = true := by decide +kernel
def nL127 : List (Nat × Nat × List (Option mI)) := [(180, 4, nC180), (113, 2, nC113), (176, 4, nC176)]
def nT127' : List (Nat × List rCo) := [(46, [nK113])]
def nH127' : List (Nat × Nat × rHt) := []
set_option maxRecDepth 100000 in
theorem nV127' : rChk 158 (rLk nL127) nHn (rLm nL127) (rHl nH127') nJ0 nOr0 (rTab nT127') 3000 180 nK127 = true := by decide +kernel
def nL137 : List (Nat × Nat × List (Option mI)) := [(66, 3, nC66), (96, 1, nC96), (139, 1, nC139), (36, 3, nC36)]
def nT137' : List (Nat × List rCo) := []
def nH137' : List (Nat × Nat × rHt) := [(66, 0, .inr (.inl ((0, 183, 22), [240], (0, 0, 0)))), (66, 2, .inl ([(2, 2, 0, 0, 0, 4, 183022), (0, 190, 2, 0, 239, 0, 0), (0, 190, 3, -2147483648, 2147483647, 0, 0), (0, 190, 4, 0, 239, 0, 0), (0, 190, 5, -2147483648, 2147483647, 0, 0)], [0, 1], (0, 1), (0, 0, 0))), (66, 28, .inr (.inl ((2, 2, 0), [240], (0, 0, 0))))]
set_option maxRecDepth 100000 in
theorem nV137' : rChk 158 (rLk nL137) nHn (rLm nL137) (rHl nH137') nJ0 nOr0 (rTab nT137') 3000 66 nK137 = true := by decide +kernel
def nL141 : List (Nat × Nat × List (Option mI)) := [(145, 5, nC145)]
def nT141' : List (Nat × List rCo) := []
def nH141' : List (Nat × Nat × rHt) := [(145, 5, .inl ([(2, 4, 0, 0, 30, 0, 0), (2, 3, 0, -1, 29, 0, 0)], [0, 1], (0, 1), (0, 0, 0)))]
set_option maxRecDepth 100000 in
theorem nV141' : rChk 158 (rLk nL141) nHn (rLm nL141) (rHl nH141') nJ0 nOr0 (rTab nT141') 3000 145 nK141 = true := by decide +kernel
def nL144 : List (Nat × Nat × List (Option mI)) := [(195, 1, nC195)]
def nT144' : List (Nat × List rCo) := []
def nH144' : List (Nat × Nat × rHt) := []
set_option maxRecDepth 100000 in
theorem nV144' : rChk 158 (rLk nL144) nHn (rLm nL144) (rHl nH144') nJ0 nOr0 (rTab nT144') 3000 195 nK144 = true := by decide +kernel
def nL151 : List (Nat × Nat × List (Option mI)) := [(152, 5, nC152), (148, 1, nC148), (150, 2, nC150), (40, 1, nC40)]
def nT151' : List (Nat × List rCo) := [(149, [nK150]), (168, [nK112]), (101, [nK111]), (172, [nK117])]
def nH151' : List (Nat × Nat × rHt) := [(152, 4, .inl ([(0, 183, 21, 0, 240, 1, 0), (2, 1, 0, -2147483648, 2147483647, 0, 0), (2, 2, 0, 0, 1, 0, 0), (0, 190, 2, 0, 239, 0, 0), (0, 190, 3, -2147483648, 2147483647, 0, 0), (0, 190, 4, 0, 239, 0, 0), (0, 190, 5, -2147483648, 2147483647, 0, 0)], [0], (0, 1), (0, 0, 0)))]
set_option maxRecDepth 100000 in
theorem nV151' : rChk 158 (rLk nL151) nHn (rLm nL151) (rHl nH151') nJ0 nOr0 (rTab nT151') 3000 152 nK151 = true := by decide +kernel
def nL153 : List (Nat × Nat × List (Option mI)) := [(105, 6, nC105), (70, 1, nC70), (40, 1, nC40)]
def nT153' : List (Nat × List rCo) := [(73, [nK108]), (146, [nK110])]
def nH153' : List (Nat × Nat × rHt) := [(105, 0, .inr (.inl ((0, 183, 37), [1, 2, 3, 4, 5, 6, 7, 8, 9, 10, 11, 12, 13, 14, 15, 16, 17, 18, 19, 20, 21, 22, 23, 24, 25, 26, 27, 28, 29, 30, 31, 32, 33, 34, 35, 36, 37, 38, 39, 40, 41, 42, 43, 44, 45, 46, 47, 48, 49, 50, 51, 52, 53, 54, 55, 56, 57, 58, 59, 60], (0, 0, 0)))), (105, 3, .inl ([(2, 5, 0, 0, 60, 0, 0)], [0, 1, 2, 3, 4], (0, 1), (0, 0, 0)))]
set_option maxRecDepth 100000 in
theorem nV153' : rChk 158 (rLk nL153) nHn (rLm nL153) (rHl nH153') nJ0 nOr0 (rTab nT153') 3000 105 nK153 = true := by decide +kernel
def nL156 : List (Nat × Nat × List (Option mI)) := [(103, 6, nC103), (148, 1, nC148), (40, 1, nC40), (150, 2, nC150), (70, 1, nC70), (151, 3, nC151)]
def nT156' : List (Nat × List rCo) := [(147, [nK155]), (149, [nK150]), (101, [nK111]), (73, [nK108]), (146, [nK110]), (46, [nK113])]
def nH156' : List (Nat × Nat × rHt) := [(103, 203, .inr (.inr 2))]
set_option maxRecDepth 100000 in
theorem nV156' : rChk 158 (rLk nL156) nHn (rLm nL156) (rHl nH156') nJ0 nOr0 (rTab nT156') 3000 103 nK156 = true := by decide +kernel
