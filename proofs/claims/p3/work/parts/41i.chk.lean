/-! THE KERNEL'S CHECKS OF THE CONTRACTS: printed by program -/
set_option maxRecDepth 100000 in
theorem nV125_0 : rPcs nF125 (rPiece 158 (rLk nL125) nHn (rLm nL125) (rHl nH125') nJ0 nOr0 (rTab nT125') 3000 5 112 nK125) 0 19 = true := by decide +kernel
def nL6 : List (Nat × Nat × List (Option mI)) := [(198, 11, nC198), (191, 1, nC191), (130, 2, nC130)]
def nT6' : List (Nat × List rCo) := [(136, [nK0])]
def nH6' : List (Nat × Nat × rHt) := []
set_option maxRecDepth 100000 in
theorem nV6' : rChk 158 (rLk nL6) nHn (rLm nL6) (rHl nH6') nJ0 nOr0 (rTab nT6') 3000 198 nK6 = true := by decide +kernel
def nL100 : List (Nat × Nat × List (Option mI)) := [(60, 3, nC60), (85, 3, nC85)]
def nT100' : List (Nat × List rCo) := [(81, [nK23]), (82, [nK24]), (83, [nK89]), (84, [nK85]), (86, [nK2]), (87, [nK88]), (88, [nK97]), (89, [nK98]), (90, [nK99]), (91, [nK87])]
def nH100' : List (Nat × Nat × rHt) := []
set_option maxRecDepth 100000 in
theorem nV100' : rChk 158 (rLk nL100) nHn (rLm nL100) (rHl nH100') nJ0 nOr0 (rTab nT100') 3000 60 nK100 = true := by decide +kernel
def nL123 : List (Nat × Nat × List (Option mI)) := [(110, 5, nC110), (113, 2, nC113), (174, 2, nC174), (70, 1, nC70), (175, 6, nC175)]
def nT123' : List (Nat × List rCo) := [(73, [nK108]), (146, [nK110])]
def nH123' : List (Nat × Nat × rHt) := []
set_option maxRecDepth 100000 in
theorem nV123' : rChk 158 (rLk nL123) nHn (rLm nL123) (rHl nH123') nJ0 nOr0 (rTab nT123') 3000 110 nK123 = true := by decide +kernel
def nL55 : List (Nat × Nat × List (Option mI)) := [(125, 7, nC125), (183, 1, nC183), (217, 1, nC217), (184, 2, nC184), (218, 1, nC218), (219, 2, nC219)]
def nT55' : List (Nat × List rCo) := [(226, [nKc 0 2, nKc 1 2, nKc 0 3, nKc 1 3, nKc 2 3, nKc 0 4, nKc 1 4, nKc 2 4, nKc 3 4]), (185, [nK34])]
def nH55' : List (Nat × Nat × rHt) := []
set_option maxRecDepth 100000 in
theorem nV55' : rChk 158 (rLk nL55) nHn (rLm nL55) (rHl nH55') nJ0 nOr0 (rTab nT55') 3000 125 nK55 = true := by decide +kernel
def nL44 : List (Nat × Nat × List (Option mI)) := [(125, 7, nC125), (183, 1, nC183), (217, 1, nC217), (184, 2, nC184), (218, 1, nC218), (219, 2, nC219)]
def nT44' : List (Nat × List rCo) := [(226, [nKc 0 2, nKc 1 2, nKc 0 3, nKc 1 3, nKc 2 3, nKc 0 4, nKc 1 4, nKc 2 4, nKc 3 4]), (185, [nK34])]
def nH44' : List (Nat × Nat × rHt) := []
set_option maxRecDepth 100000 in
theorem nV44' : rChk 158 (rLk nL44) nHn (rLm nL44) (rHl nH44') nJ0 nOr0 (rTab nT44') 3000 125 nK44 = true := by decide +kernel
def nL130 : List (Nat × Nat × List (Option mI)) := [(117, 6, nC117), (113, 2, nC113)]
def nT130' : List (Nat × List rCo) := [(74, [nK109]), (181, [nK114]), (114, [nK121]), (177, [nK115]), (146, [nK110]), (171, [nK116])]
def nH130' : List (Nat × Nat × rHt) := []
set_option maxRecDepth 100000 in
theorem nV130' : rChk 158 (rLk nL130) nHn (rLm nL130) (rHl nH130') nJ0 nOr0 (rTab nT130') 3000 117 nK130 = true := by decide +kernel
def nL118 : List (Nat × Nat × List (Option mI)) := [(169, 2, nC169), (70, 1, nC70), (214, 1, nC214), (225, 1, nC225)]
def nT118' : List (Nat × List rCo) := [(73, [nK108]), (146, [nK110])]
def nH118' : List (Nat × Nat × rHt) := []
set_option maxRecDepth 100000 in
theorem nV118' : rChk 158 (rLk nL118) nHn (rLm nL118) (rHl nH118') nJ0 nOr0 (rTab nT118') 3000 169 nK118 = true := by decide +kernel
def nL121 : List (Nat × Nat × List (Option mI)) := [(114, 3, nC114), (113, 2, nC113)]
def nT121' : List (Nat × List rCo) := [(46, [nK113]), (146, [nK110])]
def nH121' : List (Nat × Nat × rHt) := []
set_option maxRecDepth 100000 in
theorem nV121' : rChk 158 (rLk nL121) nHn (rLm nL121) (rHl nH121') nJ0 nOr0 (rTab nT121') 3000 114 nK121 = true := by decide +kernel
def nL23 : List (Nat × Nat × List (Option mI)) := [(81, 1, nC81)]
def nT23' : List (Nat × List rCo) := []
def nH23' : List (Nat × Nat × rHt) := [(81, 16, .inl ([(0, 167, 4, 0, 240, 0, 0)], [0], (0, 1), (0, 0, 0)))]
set_option maxRecDepth 100000 in
theorem nV23' : rChk 158 (rLk nL23) nHn (rLm nL23) (rHl nH23') nJ0 nOr0 (rTab nT23') 3000 81 nK23 = true := by decide +kernel
def nL134 : List (Nat × Nat × List (Option mI)) := [(64, 4, nC64)]
def nT134' : List (Nat × List rCo) := []
def nH134' : List (Nat × Nat × rHt) := [(64, 2, .inl ([(2, 3, 0, 0, 240, 1, 0), (0, 190, 2, 0, 239, 0, 0), (0, 190, 3, -2147483648, 2147483647, 0, 0), (0, 190, 4, 0, 239, 0, 0), (0, 190, 5, -2147483648, 2147483647, 0, 0)], [0, 1, 2], (0, 1), (0, 0, 0)))]
set_option maxRecDepth 100000 in
theorem nV134' : rChk 158 (rLk nL134) nHn (rLm nL134) (rHl nH134') nJ0 nOr0 (rTab nT134') 3000 64 nK134 = true := by decide +kernel
