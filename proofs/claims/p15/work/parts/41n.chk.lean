/-! THE KERNEL'S CHECKS OF THE CONTRACTS: printed by program -/
set_option maxRecDepth 100000 in
theorem nU156_1 : rPcs nF156 (rPiece 158 (rLk nL156) nHn (rLm nL156) (rHl nH156') nJ0 nOr0 (rTab nT156') 3000 10 103 nK156) 2 1 = true := by decide +kernel
set_option maxRecDepth 100000 in
theorem nU100_0 : rPcs nF100 (rPiece 158 (rLk nL100) nHn (rLm nL100) (rHl nH100') nJ0 nOr0 (rTab nT100') 3000 11 60 nK100) 0 8 = true := by decide +kernel
def nL115 : List (Nat × Nat × List (Option mI)) := [(177, 9, nC177)]
def nT115' : List (Nat × List rCo) := [(74, [nK109]), (73, [nK108]), (146, [nK110])]
def nH115' : List (Nat × Nat × rHt) := []
set_option maxRecDepth 100000 in
theorem nV115' : rChk 158 (rLk nL115) nHn (rLm nL115) (rHl nH115') nJ0 nOr0 (rTab nT115') 3000 177 nK115 = true := by decide +kernel
def nL92 : List (Nat × Nat × List (Option mI)) := [(189, 6, nC189)]
def nT92' : List (Nat × List rCo) := [(127, [nK29]), (221, [nK91]), (222, [nK30]), (223, [nK90])]
def nH92' : List (Nat × Nat × rHt) := [(189, 43, .inl ([(2, 4, 0, 0, 240, 0, 0), (3, 2, 0, -9223372036854775808, 9223372036854775807, 0, 0), (0, 167, 2, 0, 240, 0, 0), (0, 167, 4, 0, 240, 0, 0), (0, 167, 5, 0, 240, 0, 0), (1, 167, 6, -9223372036854775808, 9223372036854775807, 0, 0), (0, 167, 7, -2147483648, 2147483647, 0, 0), (0, 167, 8, -2147483648, 2147483647, 0, 0), (0, 167, 9, -2147483648, 2147483647, 0, 0)], [0, 1], (0, 1), (0, 0, 0)))]
set_option maxRecDepth 100000 in
theorem nV92' : rChk 158 (rLk nL92) nHn (rLm nL92) (rHl nH92') nJ0 nOr0 (rTab nT92') 3000 189 nK92 = true := by decide +kernel
def nL117 : List (Nat × Nat × List (Option mI)) := [(172, 5, nC172), (70, 1, nC70), (214, 1, nC214), (225, 1, nC225)]
def nT117' : List (Nat × List rCo) := [(73, [nK108]), (146, [nK110])]
def nH117' : List (Nat × Nat × rHt) := []
set_option maxRecDepth 100000 in
theorem nV117' : rChk 158 (rLk nL117) nHn (rLm nL117) (rHl nH117') nJ0 nOr0 (rTab nT117') 3000 172 nK117 = true := by decide +kernel
def nL55 : List (Nat × Nat × List (Option mI)) := [(125, 7, nC125), (183, 1, nC183), (217, 1, nC217), (184, 2, nC184), (218, 1, nC218), (219, 2, nC219)]
def nT55' : List (Nat × List rCo) := [(226, [nKc 0 2, nKc 1 2, nKc 0 3, nKc 1 3, nKc 2 3, nKc 0 4, nKc 1 4, nKc 2 4, nKc 3 4]), (185, [nK34])]
def nH55' : List (Nat × Nat × rHt) := []
set_option maxRecDepth 100000 in
theorem nV55' : rChk 158 (rLk nL55) nHn (rLm nL55) (rHl nH55') nJ0 nOr0 (rTab nT55') 3000 125 nK55 = true := by decide +kernel
def nL34 : List (Nat × Nat × List (Option mI)) := [(185, 2, nC185), (220, 3, nC220), (218, 1, nC218), (183, 1, nC183), (217, 1, nC217), (227, 4, nC227), (233, 1, nC233), (234, 6, nC234)]
def nT34' : List (Nat × List rCo) := []
def nH34' : List (Nat × Nat × rHt) := []
set_option maxRecDepth 100000 in
theorem nV34' : rChk 158 (rLk nL34) nHn (rLm nL34) (rHl nH34') nJ0 nOr0 (rTab nT34') 3000 185 nK34 = true := by decide +kernel
def nL35 : List (Nat × Nat × List (Option mI)) := [(125, 7, nC125), (183, 1, nC183), (217, 1, nC217), (184, 2, nC184), (218, 1, nC218), (219, 2, nC219)]
def nT35' : List (Nat × List rCo) := [(226, [nKc 0 2, nKc 1 2, nKc 0 3, nKc 1 3, nKc 2 3, nKc 0 4, nKc 1 4, nKc 2 4, nKc 3 4]), (185, [nK34])]
def nH35' : List (Nat × Nat × rHt) := []
set_option maxRecDepth 100000 in
theorem nV35' : rChk 158 (rLk nL35) nHn (rLm nL35) (rHl nH35') nJ0 nOr0 (rTab nT35') 3000 125 nK35 = true := by decide +kernel
def nL19 : List (Nat × Nat × List (Option mI)) := [(167, 2, nC167), (197, 1, nC197), (213, 2, nC213)]
def nT19' : List (Nat × List rCo) := [(192, [nK3]), (76, [nK4]), (154, [nK1]), (136, [nK0])]
def nH19' : List (Nat × Nat × rHt) := []
set_option maxRecDepth 100000 in
theorem nV19' : rChk 158 (rLk nL19) nHn (rLm nL19) (rHl nH19') nJ0 nOr0 (rTab nT19') 3000 167 nK19 = true := by decide +kernel
def nL121 : List (Nat × Nat × List (Option mI)) := [(114, 3, nC114), (113, 2, nC113)]
def nT121' : List (Nat × List rCo) := [(46, [nK113]), (146, [nK110])]
def nH121' : List (Nat × Nat × rHt) := []
set_option maxRecDepth 100000 in
theorem nV121' : rChk 158 (rLk nL121) nHn (rLm nL121) (rHl nH121') nJ0 nOr0 (rTab nT121') 3000 114 nK121 = true := by decide +kernel
def nL2 : List (Nat × Nat × List (Option mI)) := [(86, 2, nC86)]
def nT2' : List (Nat × List rCo) := []
def nH2' : List (Nat × Nat × rHt) := []
set_option maxRecDepth 100000 in
theorem nV2' : rChk 158 (rLk nL2) nHn (rLm nL2) (rHl nH2') nJ0 nOr0 (rTab nT2') 3000 86 nK2 = true := by decide +kernel
