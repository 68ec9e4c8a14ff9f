/-! THE KERNEL'S CHECKS OF THE CONTRACTS: printed by program -/
set_option maxRecDepth 100000 in
theorem nV155_9 : rPcs nF155 (rPiece 158 (rLk nL155) nHn (rLm nL155) (rHl nH155') nJ0 nOr0 (rTab nT155') 3000 9 147 nK155) 18 8 = true := by decide +kernel
set_option maxRecDepth 100000 in
theorem nV155_4 : rPcs nF155 (rPiece 158 (rLk nL155) nHn (rLm nL155) (rHl nH155') nJ0 nOr0 (rTab nT155') 3000 9 147 nK155) 8 4 = true := by decide +kernel
set_option maxRecDepth 100000 in
theorem nV150_1 : rPcs nF150 (rPiece 158 (rLk nL150) nHn (rLm nL150) (rHl nH150') nJ0 nOr0 (rTab nT150') 3000 7 149 nK150) 1 1 = true := by decide +kernel
def nL129 : List (Nat × Nat × List (Option mI)) := [(116, 4, nC116), (113, 2, nC113)]
def nT129' : List (Nat × List rCo) := [(114, [nK121])]
def nH129' : List (Nat × Nat × rHt) := []
set_option maxRecDepth 100000 in
theorem nV129' : rChk 158 (rLk nL129) nHn (rLm nL129) (rHl nH129') nJ0 nOr0 (rTab nT129') 3000 116 nK129 = true := by decide +kernel
def nL59 : List (Nat × Nat × List (Option mI)) := [(125, 7, nC125), (183, 1, nC183), (217, 1, nC217), (184, 2, nC184), (218, 1, nC218), (219, 2, nC219)]
def nT59' : List (Nat × List rCo) := [(226, [nKc 0 2, nKc 1 2, nKc 0 3, nKc 1 3, nKc 2 3, nKc 0 4, nKc 1 4, nKc 2 4, nKc 3 4]), (185, [nK34])]
def nH59' : List (Nat × Nat × rHt) := []
set_option maxRecDepth 100000 in
theorem nV59' : rChk 158 (rLk nL59) nHn (rLm nL59) (rHl nH59') nJ0 nOr0 (rTab nT59') 3000 125 nK59 = true := by decide +kernel
def nL47 : List (Nat × Nat × List (Option mI)) := [(125, 7, nC125), (183, 1, nC183), (217, 1, nC217), (184, 2, nC184), (218, 1, nC218), (219, 2, nC219)]
def nT47' : List (Nat × List rCo) := [(226, [nKc 0 2, nKc 1 2, nKc 0 3, nKc 1 3, nKc 2 3, nKc 0 4, nKc 1 4, nKc 2 4, nKc 3 4]), (185, [nK34])]
def nH47' : List (Nat × Nat × rHt) := []
set_option maxRecDepth 100000 in
theorem nV47' : rChk 158 (rLk nL47) nHn (rLm nL47) (rHl nH47') nJ0 nOr0 (rTab nT47') 3000 125 nK47 = true := by decide +kernel
def nL119 : List (Nat × Nat × List (Option mI)) := [(170, 3, nC170), (215, 5, nC215), (70, 1, nC70), (216, 6, nC216)]
def nT119' : List (Nat × List rCo) := [(74, [nK109]), (177, [nK115]), (73, [nK108]), (146, [nK110])]
def nH119' : List (Nat × Nat × rHt) := []
set_option maxRecDepth 100000 in
theorem nV119' : rChk 158 (rLk nL119) nHn (rLm nL119) (rHl nH119') nJ0 nOr0 (rTab nT119') 3000 170 nK119 = true := by decide +kernel
def nL136 : List (Nat × Nat × List (Option mI)) := [(66, 3, nC66), (96, 1, nC96), (139, 1, nC139), (36, 3, nC36)]
def nT136' : List (Nat × List rCo) := []
def nH136' : List (Nat × Nat × rHt) := [(66, 0, .inr (.inl ((0, 183, 22), [240], (0, 0, 0)))), (66, 2, .inl ([(2, 2, 0, 0, 0, 4, 183022), (0, 190, 2, 0, 239, 0, 0), (0, 190, 3, -2147483648, 2147483647, 0, 0), (0, 190, 4, 0, 239, 0, 0), (0, 190, 5, -2147483648, 2147483647, 0, 0)], [0, 1], (0, 1), (0, 0, 0))), (66, 28, .inr (.inl ((2, 2, 0), [240], (0, 0, 0))))]
set_option maxRecDepth 100000 in
theorem nV136' : rChk 158 (rLk nL136) nHn (rLm nL136) (rHl nH136') nJ0 nOr0 (rTab nT136') 3000 66 nK136 = true := by decide +kernel
def nL144 : List (Nat × Nat × List (Option mI)) := [(195, 1, nC195)]
def nT144' : List (Nat × List rCo) := []
def nH144' : List (Nat × Nat × rHt) := []
set_option maxRecDepth 100000 in
theorem nV144' : rChk 158 (rLk nL144) nHn (rLm nL144) (rHl nH144') nJ0 nOr0 (rTab nT144') 3000 195 nK144 = true := by decide +kernel
def nL120 : List (Nat × Nat × List (Option mI)) := [(173, 6, nC173)]
def nT120' : List (Nat × List rCo) := [(169, [nK118]), (74, [nK109])]
def nH120' : List (Nat × Nat × rHt) := []
set_option maxRecDepth 100000 in
theorem nV120' : rChk 158 (rLk nL120) nHn (rLm nL120) (rHl nH120') nJ0 nOr0 (rTab nT120') 3000 173 nK120 = true := by decide +kernel
def nL135 : List (Nat × Nat × List (Option mI)) := [(65, 4, nC65)]
def nT135' : List (Nat × List rCo) := []
def nH135' : List (Nat × Nat × rHt) := [(65, 2, .inl ([(2, 3, 0, 0, 240, 1, 0), (0, 190, 2, 0, 239, 0, 0), (0, 190, 3, -2147483648, 2147483647, 0, 0), (0, 190, 4, 0, 239, 0, 0), (0, 190, 5, -2147483648, 2147483647, 0, 0)], [0, 1, 2], (0, 1), (0, 0, 0)))]
set_option maxRecDepth 100000 in
theorem nV135' : rChk 158 (rLk nL135) nHn (rLm nL135) (rHl nH135') nJ0 nOr0 (rTab nT135') 3000 65 nK135 = true := by decide +kernel
