/-! THE METHODS HOLD -/
def nH120 : List (Nat × Nat) := [(1, 153), (1, 154), (1, 155), (1, 156), (1, 146), (1, 151), (1, 142), (2, 219), (2, 220), (2, 221), (1, 4), (1, 137)]
set_option maxRecDepth 100000 in
theorem nV120 : kVM (nS nH120) nCl nZ0 nDflt nStrs nNcs nEX nCt nCods nHn nMt 120 = true := by decide +kernel
def nH121 : List (Nat × Nat) := [(1, 155), (1, 154), (1, 153), (2, 223), (2, 224), (2, 225), (1, 4), (1, 137)]
set_option maxRecDepth 100000 in
theorem nV121 : kVM (nS nH121) nCl nZ0 nDflt nStrs nNcs nEX nCt nCods nHn nMt 121 = true := by decide +kernel
def nH122 : List (Nat × Nat) := [(1, 153), (2, 83), (2, 230), (2, 231), (2, 232), (1, 4), (1, 137)]
set_option maxRecDepth 100000 in
theorem nV122 : kVM (nS nH122) nCl nZ0 nDflt nStrs nNcs nEX nCt nCods nHn nMt 122 = true := by decide +kernel
def nH123 : List (Nat × Nat) := [(1, 231), (1, 230), (1, 152), (2, 237), (2, 226), (3, 1), (2, 228), (2, 234), (2, 235), (2, 236), (11, 2), (2, 238), (2, 239), (3, 0), (2, 131), (2, 132), (1, 5), (1, 181), (1, 14), (2, 88)]
set_option maxRecDepth 100000 in
theorem nV123 : kVM (nS nH123) nCl nZ0 nDflt nStrs nNcs nEX nCt nCods nHn nMt 123 = true := by decide +kernel
def nH124 : List (Nat × Nat) := [(1, 146), (1, 150), (1, 142), (3, 8), (3, 9), (3, 10), (1, 4), (1, 137)]
set_option maxRecDepth 100000 in
theorem nV124 : kVM (nS nH124) nCl nZ0 nDflt nStrs nNcs nEX nCt nCods nHn nMt 124 = true := by decide +kernel
def nH125 : List (Nat × Nat) := [(7, 187), (3, 17), (3, 27), (3, 65), (3, 66), (3, 67), (7, 190), (3, 18), (3, 19), (3, 20), (3, 68), (3, 69), (3, 70), (3, 14), (3, 15), (3, 16), (3, 28), (3, 29), (3, 30), (1, 9)]
set_option maxRecDepth 100000 in
theorem nV125 : kVM (nS nH125) nCl nZ0 nDflt nStrs nNcs nEX nCt nCods nHn nMt 125 = true := by decide +kernel
def nH126 : List (Nat × Nat) := [(2, 9), (1, 230), (3, 176), (3, 180), (3, 184), (3, 223), (1, 147), (2, 218), (3, 228), (3, 188), (3, 232), (3, 233), (2, 226), (3, 150), (2, 228), (3, 136), (3, 173), (3, 174), (3, 175), (11, 8), (3, 229), (3, 230), (3, 231), (11, 13), (3, 177), (3, 178), (3, 179), (2, 219), (2, 220), (2, 221), (3, 185), (3, 186), (3, 187), (11, 9), (3, 137), (3, 138), (3, 181), (3, 182), (3, 183), (2, 131), (2, 132), (3, 224), (3, 225), (3, 226), (11, 12), (3, 189), (3, 190), (3, 191), (11, 10), (1, 5), (1, 181), (1, 14), (2, 88)]
set_option maxRecDepth 100000 in
theorem nV126 : kVM (nS nH126) nCl nZ0 nDflt nStrs nNcs nEX nCt nCods nHn nMt 126 = true := by decide +kernel
def nH127 : List (Nat × Nat) := [(1, 146), (1, 151), (1, 142), (3, 181), (3, 182), (3, 183), (1, 4), (1, 137)]
set_option maxRecDepth 100000 in
theorem nV127 : kVM (nS nH127) nCl nZ0 nDflt nStrs nNcs nEX nCt nCods nHn nMt 127 = true := by decide +kernel
def nH128 : List (Nat × Nat) := [(3, 188), (2, 226), (3, 238), (2, 228), (2, 131), (2, 132), (3, 235), (3, 236), (3, 237), (11, 14), (3, 189), (3, 190), (3, 191), (11, 10), (1, 5), (1, 181), (1, 14), (2, 88)]
set_option maxRecDepth 100000 in
theorem nV128 : kVM (nS nH128) nCl nZ0 nDflt nStrs nNcs nEX nCt nCods nHn nMt 128 = true := by decide +kernel
def nH129 : List (Nat × Nat) := [(7, 190), (4, 0), (4, 1), (4, 2), (1, 9)]
set_option maxRecDepth 100000 in
theorem nV129 : kVM (nS nH129) nCl nZ0 nDflt nStrs nNcs nEX nCt nCods nHn nMt 129 = true := by decide +kernel
def nH130 : List (Nat × Nat) := [(3, 162), (3, 163), (1, 23)]
set_option maxRecDepth 100000 in
theorem nV130 : kVM (nS nH130) nCl nZ0 nDflt nStrs nNcs nEX nCt nCods nHn nMt 130 = true := by decide +kernel
def nH131 : List (Nat × Nat) := [(3, 154), (3, 157), (3, 158), (3, 161), (3, 162), (3, 163), (3, 148), (3, 149), (3, 155), (3, 156), (3, 159), (3, 160), (3, 152), (3, 153), (1, 23)]
set_option maxRecDepth 100000 in
theorem nV131 : kVM (nS nH131) nCl nZ0 nDflt nStrs nNcs nEX nCt nCods nHn nMt 131 = true := by decide +kernel
def nH132 : List (Nat × Nat) := [(1, 239), (4, 10), (2, 226), (4, 13), (2, 228), (1, 235), (4, 11), (4, 12), (2, 131), (2, 132), (4, 7), (4, 8), (4, 9), (11, 15), (1, 5), (1, 181), (1, 14), (2, 88)]
set_option maxRecDepth 100000 in
theorem nV132 : kVM (nS nH132) nCl nZ0 nDflt nStrs nNcs nEX nCt nCods nHn nMt 132 = true := by decide +kernel
def nH133 : List (Nat × Nat) := [(1, 217), (1, 211), (1, 213), (1, 215), (4, 15), (4, 16), (4, 17), (1, 7), (1, 206)]
set_option maxRecDepth 100000 in
theorem nV133 : kVM (nS nH133) nCl nZ0 nDflt nStrs nNcs nEX nCt nCods nHn nMt 133 = true := by decide +kernel
def nH134 : List (Nat × Nat) := [(3, 188), (3, 136), (3, 216), (1, 230), (3, 180), (3, 217), (2, 226), (3, 222), (2, 228), (3, 151), (3, 185), (3, 186), (3, 187), (11, 9), (3, 137), (3, 138), (3, 181), (3, 182), (3, 183), (3, 152), (3, 153), (2, 131), (2, 132), (3, 218), (3, 219), (3, 189), (3, 190), (3, 191), (11, 10), (1, 5), (1, 181), (1, 14), (2, 88)]
set_option maxRecDepth 100000 in
theorem nV134 : kVM (nS nH134) nCl nZ0 nDflt nStrs nNcs nEX nCt nCods nHn nMt 134 = true := by decide +kernel
def nH135 : List (Nat × Nat) := [(2, 4), (2, 5), (3, 139), (4, 25), (4, 26), (4, 27), (12, 1), (3, 140), (3, 141), (3, 142), (11, 5), (1, 5), (1, 181)]
set_option maxRecDepth 100000 in
theorem nV135 : kVM (nS nH135) nCl nZ0 nDflt nStrs nNcs nEX nCt nCods nHn nMt 135 = true := by decide +kernel
def nH136 : List (Nat × Nat) := [(3, 202), (3, 203), (1, 23)]
set_option maxRecDepth 100000 in
theorem nV136 : kVM (nS nH136) nCl nZ0 nDflt nStrs nNcs nEX nCt nCods nHn nMt 136 = true := by decide +kernel
def nH137 : List (Nat × Nat) := [(3, 201), (2, 0), (4, 10), (2, 226), (4, 36), (2, 228), (2, 1), (4, 11), (4, 12), (2, 131), (2, 132), (4, 33), (4, 34), (4, 35), (12, 2), (3, 202), (3, 203), (1, 5), (1, 181), (1, 14), (2, 88)]
set_option maxRecDepth 100000 in
theorem nV137 : kVM (nS nH137) nCl nZ0 nDflt nStrs nNcs nEX nCt nCods nHn nMt 137 = true := by decide +kernel
def nH138 : List (Nat × Nat) := [(3, 148), (3, 149), (1, 23)]
set_option maxRecDepth 100000 in
theorem nV138 : kVM (nS nH138) nCl nZ0 nDflt nStrs nNcs nEX nCt nCods nHn nMt 138 = true := by decide +kernel
def nH139 : List (Nat × Nat) := [(6, 40), (6, 232), (6, 233), (6, 41), (6, 42), (1, 10), (5, 130)]
set_option maxRecDepth 100000 in
theorem nV139 : kVM (nS nH139) nCl nZ0 nDflt nStrs nNcs nEX nCt nCods nHn nMt 139 = true := by decide +kernel
def nH140 : List (Nat × Nat) := [(5, 154), (7, 7), (7, 8), (7, 9), (16, 8), (1, 10), (5, 130)]
set_option maxRecDepth 100000 in
theorem nV140 : kVM (nS nH140) nCl nZ0 nDflt nStrs nNcs nEX nCt nCods nHn nMt 140 = true := by decide +kernel
def nH141 : List (Nat × Nat) := [(7, 13), (7, 14), (7, 15), (7, 16), (7, 17), (7, 18), (7, 19), (7, 20), (7, 21), (7, 22), (7, 23), (7, 24), (7, 25), (7, 26), (7, 27), (7, 28), (7, 11), (7, 12), (1, 10), (5, 130)]
set_option maxRecDepth 100000 in
theorem nV141 : kVM (nS nH141) nCl nZ0 nDflt nStrs nNcs nEX nCt nCods nHn nMt 141 = true := by decide +kernel
def nH142 : List (Nat × Nat) := [(7, 32), (7, 33), (7, 34), (7, 35), (7, 36), (7, 37), (7, 38), (7, 39), (7, 40), (7, 41), (7, 42), (7, 43), (7, 44), (7, 45), (7, 46), (7, 47), (7, 48), (7, 49), (7, 50), (7, 51), (7, 30), (7, 31), (1, 10), (5, 130)]
set_option maxRecDepth 100000 in
theorem nV142 : kVM (nS nH142) nCl nZ0 nDflt nStrs nNcs nEX nCt nCods nHn nMt 142 = true := by decide +kernel
def nH143 : List (Nat × Nat) := [(6, 40), (6, 41), (6, 42), (7, 54), (7, 55), (1, 10), (5, 130)]
set_option maxRecDepth 100000 in
theorem nV143 : kVM (nS nH143) nCl nZ0 nDflt nStrs nNcs nEX nCt nCods nHn nMt 143 = true := by decide +kernel
def nH144 : List (Nat × Nat) := [(7, 60), (7, 61), (7, 62), (7, 63), (7, 64), (7, 65), (7, 58), (7, 59), (1, 10), (5, 130)]
set_option maxRecDepth 100000 in
theorem nV144 : kVM (nS nH144) nCl nZ0 nDflt nStrs nNcs nEX nCt nCods nHn nMt 144 = true := by decide +kernel
def nH145 : List (Nat × Nat) := [(5, 164), (5, 165), (7, 81), (7, 82), (7, 83), (16, 11), (1, 10), (5, 130)]
set_option maxRecDepth 100000 in
theorem nV145 : kVM (nS nH145) nCl nZ0 nDflt nStrs nNcs nEX nCt nCods nHn nMt 145 = true := by decide +kernel
def nH146 : List (Nat × Nat) := [(6, 96), (6, 97), (1, 10), (5, 130)]
set_option maxRecDepth 100000 in
theorem nV146 : kVM (nS nH146) nCl nZ0 nDflt nStrs nNcs nEX nCt nCods nHn nMt 146 = true := by decide +kernel
def nH147 : List (Nat × Nat) := [(7, 104), (5, 156), (7, 108), (7, 129), (5, 158), (5, 168), (6, 208), (5, 169), (7, 133), (6, 224), (5, 157), (5, 154), (6, 238), (7, 72), (7, 6), (7, 80), (5, 166), (7, 76), (7, 112), (7, 73), (7, 74), (7, 75), (16, 9), (7, 134), (7, 135), (7, 136), (17, 6), (7, 101), (7, 102), (7, 103), (16, 15), (7, 105), (7, 106), (7, 107), (17, 0), (7, 113), (7, 114), (7, 115), (17, 2), (7, 7), (7, 8), (7, 9), (16, 8), (7, 81), (7, 82), (7, 83), (16, 11), (7, 77), (7, 78), (7, 79), (16, 10), (7, 109), (7, 110), (7, 111), (17, 1), (7, 130), (7, 131), (7, 132), (17, 5), (6, 225), (6, 226), (6, 227), (16, 4), (6, 239), (7, 0), (7, 1), (16, 6), (6, 209), (6, 210), (6, 211), (16, 0), (1, 10), (5, 130)]
set_option maxRecDepth 100000 in
theorem nV147_0 : kL (kE (nS nH147) nCl nZ0 nDflt nStrs nEX nHn nMt 147) 0 nC147_0 = true := by decide +kernel
set_option maxRecDepth 100000 in
theorem nV147_1 : kL (kE (nS nH147) nCl nZ0 nDflt nStrs nEX nHn nMt 147) 200 nC147_1 = true := by decide +kernel
set_option maxRecDepth 100000 in
theorem nV147_L : kL (kE (nS nH147) nCl nZ0 nDflt nStrs nEX nHn nMt 147) 0 (nCods 147) = true := by
  show kL (kE (nS nH147) nCl nZ0 nDflt nStrs nEX nHn nMt 147) 0 (nC147_0 ++ (nC147_1)) = true
  exact kL_two nV147_0 (nV147_1)
set_option maxRecDepth 100000 in
theorem nV147 : kVM (nS nH147) nCl nZ0 nDflt nStrs nNcs nEX nCt nCods nHn nMt 147 = true := by
  unfold kVM
  rw [nV147_L, Bool.true_and]
  decide +kernel
def nH148 : List (Nat × Nat) := [(5, 156), (5, 157), (5, 154), (7, 105), (7, 106), (7, 107), (17, 0), (1, 10), (5, 130)]
set_option maxRecDepth 100000 in
theorem nV148 : kVM (nS nH148) nCl nZ0 nDflt nStrs nNcs nEX nCt nCods nHn nMt 148 = true := by decide +kernel
def nH149 : List (Nat × Nat) := [(7, 104), (5, 156), (7, 116), (5, 158), (7, 125), (6, 208), (7, 128), (7, 120), (7, 105), (7, 106), (7, 107), (17, 0), (7, 113), (7, 114), (7, 115), (17, 2), (7, 117), (7, 118), (7, 119), (17, 3), (7, 121), (7, 122), (7, 123), (17, 4), (7, 126), (7, 127), (6, 209), (6, 210), (6, 211), (16, 0), (1, 10), (5, 130)]
set_option maxRecDepth 100000 in
theorem nV149 : kVM (nS nH149) nCl nZ0 nDflt nStrs nNcs nEX nCt nCods nHn nMt 149 = true := by decide +kernel
def nH150 : List (Nat × Nat) := [(7, 104), (6, 208), (5, 156), (7, 105), (7, 106), (7, 107), (17, 0), (6, 209), (6, 210), (6, 211), (16, 0), (7, 130), (7, 131), (7, 132), (17, 5), (1, 10), (5, 130)]
set_option maxRecDepth 100000 in
theorem nV150 : kVM (nS nH150) nCl nZ0 nDflt nStrs nNcs nEX nCt nCods nHn nMt 150 = true := by decide +kernel
def nH151 : List (Nat × Nat) := [(6, 51), (6, 208), (5, 162), (5, 163), (7, 138), (7, 139), (7, 140), (17, 7), (6, 209), (6, 210), (6, 211), (16, 0), (6, 52), (6, 53), (6, 54), (14, 7), (1, 10), (5, 130)]
set_option maxRecDepth 100000 in
theorem nV151 : kVM (nS nH151) nCl nZ0 nDflt nStrs nNcs nEX nCt nCods nHn nMt 151 = true := by decide +kernel
def nH152 : List (Nat × Nat) := [(5, 158), (7, 112), (7, 104), (5, 156), (7, 129), (6, 79), (6, 208), (7, 84), (6, 120), (7, 85), (7, 86), (6, 121), (6, 122), (7, 105), (7, 106), (7, 107), (17, 0), (7, 113), (7, 114), (7, 115), (17, 2), (6, 80), (6, 81), (7, 109), (7, 110), (7, 111), (17, 1), (7, 130), (7, 131), (7, 132), (17, 5), (6, 209), (6, 210), (6, 211), (16, 0), (1, 10), (5, 130)]
set_option maxRecDepth 100000 in
theorem nV152 : kVM (nS nH152) nCl nZ0 nDflt nStrs nNcs nEX nCt nCods nHn nMt 152 = true := by decide +kernel
def nH153 : List (Nat × Nat) := [(5, 164), (5, 158), (5, 166), (5, 159), (7, 84), (7, 87), (7, 137), (5, 168), (5, 172), (7, 91), (5, 169), (5, 176), (5, 161), (7, 85), (7, 86), (7, 88), (7, 89), (7, 90), (16, 12), (7, 92), (7, 93), (7, 94), (16, 13), (7, 146), (7, 147), (7, 148), (17, 9), (7, 138), (7, 139), (7, 140), (17, 7), (1, 10), (5, 130)]
set_option maxRecDepth 100000 in
theorem nV153 : kVM (nS nH153) nCl nZ0 nDflt nStrs nNcs nEX nCt nCods nHn nMt 153 = true := by decide +kernel
def nH154 : List (Nat × Nat) := [(3, 157), (3, 154), (3, 158), (3, 161), (3, 162), (3, 163), (3, 155), (3, 156), (3, 148), (3, 149), (4, 115), (4, 116), (3, 159), (3, 160), (1, 23)]
set_option maxRecDepth 100000 in
theorem nV154 : kVM (nS nH154) nCl nZ0 nDflt nStrs nNcs nEX nCt nCods nHn nMt 154 = true := by decide +kernel
def nH155 : List (Nat × Nat) := [(4, 124), (4, 125), (1, 2), (1, 37)]
set_option maxRecDepth 100000 in
theorem nV155 : kVM (nS nH155) nCl nZ0 nDflt nStrs nNcs nEX nCt nCods nHn nMt 155 = true := by decide +kernel
def nH156 : List (Nat × Nat) := [(1, 49), (4, 127), (4, 128), (4, 129), (1, 2), (1, 37)]
set_option maxRecDepth 100000 in
theorem nV156 : kVM (nS nH156) nCl nZ0 nDflt nStrs nNcs nEX nCt nCods nHn nMt 156 = true := by decide +kernel
def nH157 : List (Nat × Nat) := [(4, 138), (1, 83), (1, 103), (1, 101), (4, 114), (1, 100), (4, 117), (4, 143), (4, 150), (4, 155), (4, 144), (4, 145), (4, 146), (12, 10), (4, 115), (4, 116), (4, 139), (4, 140), (4, 141), (12, 9), (4, 151), (4, 152), (4, 153), (12, 11), (4, 135), (4, 136), (4, 137), (12, 8), (4, 156), (4, 157), (4, 158), (12, 12), (3, 202), (3, 203), (1, 3), (1, 78)]
set_option maxRecDepth 100000 in
theorem nV157 : kVM (nS nH157) nCl nZ0 nDflt nStrs nNcs nEX nCt nCods nHn nMt 157 = true := by decide +kernel
def nH158 : List (Nat × Nat) := [(1, 101), (4, 167), (4, 177), (1, 93), (4, 168), (4, 169), (4, 170), (12, 15), (4, 164), (4, 165), (4, 166), (12, 14), (4, 178), (4, 179), (4, 180), (13, 1), (1, 3), (1, 78)]
set_option maxRecDepth 100000 in
theorem nV158 : kVM (nS nH158) nCl nZ0 nDflt nStrs nNcs nEX nCt nCods nHn nMt 158 = true := by decide +kernel
def nH159 : List (Nat × Nat) := [(1, 103), (1, 101), (4, 189), (1, 85), (4, 113), (4, 159), (4, 154), (4, 173), (4, 190), (4, 181), (3, 86), (3, 87), (4, 174), (4, 175), (4, 176), (13, 0), (4, 186), (4, 187), (4, 188), (13, 3), (3, 148), (3, 149), (4, 182), (4, 183), (4, 184), (13, 2), (4, 160), (4, 161), (4, 162), (12, 13), (1, 3), (1, 78), (1, 21)]
set_option maxRecDepth 100000 in
theorem nV159 : kVM (nS nH159) nCl nZ0 nDflt nStrs nNcs nEX nCt nCods nHn nMt 159 = true := by decide +kernel
def nH160 : List (Nat × Nat) := [(1, 101), (1, 85), (4, 117), (1, 103), (4, 195), (1, 83), (4, 143), (4, 192), (4, 193), (4, 194), (13, 4), (4, 196), (4, 197), (3, 202), (3, 203), (4, 144), (4, 145), (4, 146), (12, 10), (1, 3), (1, 78)]
set_option maxRecDepth 100000 in
theorem nV160 : kVM (nS nH160) nCl nZ0 nDflt nStrs nNcs nEX nCt nCods nHn nMt 160 = true := by decide +kernel
def nH161 : List (Nat × Nat) := [(4, 138), (1, 83), (1, 103), (1, 101), (4, 114), (1, 100), (4, 202), (4, 203), (4, 204), (4, 205), (13, 6), (4, 139), (4, 140), (4, 141), (12, 9), (4, 199), (4, 200), (4, 201), (13, 5), (4, 115), (4, 116), (1, 3), (1, 78)]
set_option maxRecDepth 100000 in
theorem nV161 : kVM (nS nH161) nCl nZ0 nDflt nStrs nNcs nEX nCt nCods nHn nMt 161 = true := by decide +kernel
def nH162 : List (Nat × Nat) := [(4, 138), (1, 100), (1, 83), (1, 103), (1, 101), (1, 85), (4, 210), (3, 152), (3, 153), (4, 139), (4, 140), (4, 141), (12, 9), (4, 207), (4, 208), (4, 209), (13, 7), (1, 3), (1, 78)]
set_option maxRecDepth 100000 in
theorem nV162 : kVM (nS nH162) nCl nZ0 nDflt nStrs nNcs nEX nCt nCods nHn nMt 162 = true := by decide +kernel
def nH163 : List (Nat × Nat) := [(1, 101), (4, 123), (1, 100), (1, 84), (1, 103), (1, 95), (4, 215), (4, 126), (5, 3), (4, 124), (4, 125), (4, 127), (4, 128), (4, 129), (4, 212), (4, 213), (4, 214), (13, 8), (5, 4), (5, 5), (5, 6), (13, 14), (4, 216), (4, 217), (4, 218), (1, 3), (1, 78)]
set_option maxRecDepth 100000 in
theorem nV163 : kVM (nS nH163) nCl nZ0 nDflt nStrs nNcs nEX nCt nCods nHn nMt 163 = true := by decide +kernel
def nH164 : List (Nat × Nat) := [(1, 101), (5, 3), (5, 7), (5, 15), (1, 90), (5, 19), (5, 12), (5, 13), (5, 14), (14, 0), (5, 4), (5, 5), (5, 6), (13, 14), (5, 20), (5, 21), (5, 8), (5, 9), (5, 10), (13, 15), (5, 16), (5, 17), (5, 18), (14, 1), (1, 3), (1, 78)]
set_option maxRecDepth 100000 in
theorem nV164 : kVM (nS nH164) nCl nZ0 nDflt nStrs nNcs nEX nCt nCods nHn nMt 164 = true := by decide +kernel
def nH165 : List (Nat × Nat) := [(1, 101), (1, 85), (1, 100), (4, 117), (5, 19), (5, 3), (5, 20), (5, 21), (5, 23), (5, 24), (5, 25), (14, 2), (3, 202), (3, 203), (5, 4), (5, 5), (5, 6), (13, 14), (1, 3), (1, 78)]
set_option maxRecDepth 100000 in
theorem nV165 : kVM (nS nH165) nCl nZ0 nDflt nStrs nNcs nEX nCt nCods nHn nMt 165 = true := by decide +kernel
def nH166 : List (Nat × Nat) := [(1, 100), (1, 101), (1, 103), (4, 143), (1, 104), (4, 202), (4, 203), (4, 204), (4, 205), (13, 6), (5, 27), (5, 28), (5, 29), (14, 3), (4, 144), (4, 145), (4, 146), (12, 10), (1, 3), (1, 78)]
set_option maxRecDepth 100000 in
theorem nV166 : kVM (nS nH166) nCl nZ0 nDflt nStrs nNcs nEX nCt nCods nHn nMt 166 = true := by decide +kernel
def nH167 : List (Nat × Nat) := [(4, 138), (1, 85), (1, 100), (1, 101), (4, 114), (4, 117), (1, 83), (1, 103), (5, 34), (1, 90), (5, 35), (5, 36), (4, 115), (4, 116), (4, 139), (4, 140), (4, 141), (12, 9), (5, 31), (5, 32), (5, 33), (14, 4), (3, 202), (3, 203), (1, 3), (1, 78)]
set_option maxRecDepth 100000 in
theorem nV167 : kVM (nS nH167) nCl nZ0 nDflt nStrs nNcs nEX nCt nCods nHn nMt 167 = true := by decide +kernel
def nH168 : List (Nat × Nat) := [(6, 80), (6, 81), (1, 10), (5, 130)]
set_option maxRecDepth 100000 in
theorem nV168 : kVM (nS nH168) nCl nZ0 nDflt nStrs nNcs nEX nCt nCods nHn nMt 168 = true := by decide +kernel
def nH169 : List (Nat × Nat) := [(6, 55), (6, 89), (6, 65), (6, 95), (6, 56), (6, 57), (6, 96), (6, 97), (6, 87), (6, 88), (6, 90), (6, 91), (6, 66), (6, 67), (1, 10), (5, 130)]
set_option maxRecDepth 100000 in
theorem nV169 : kVM (nS nH169) nCl nZ0 nDflt nStrs nNcs nEX nCt nCods nHn nMt 169 = true := by decide +kernel
def nH170 : List (Nat × Nat) := [(6, 68), (6, 102), (6, 107), (6, 112), (6, 113), (6, 114), (6, 115), (14, 15), (6, 108), (6, 109), (6, 110), (14, 14), (6, 99), (6, 100), (6, 101), (14, 12), (6, 103), (6, 104), (6, 105), (14, 13), (6, 69), (6, 70), (1, 10), (5, 130)]
set_option maxRecDepth 100000 in
theorem nV170 : kVM (nS nH170) nCl nZ0 nDflt nStrs nNcs nEX nCt nCods nHn nMt 170 = true := by decide +kernel
def nH171 : List (Nat × Nat) := [(5, 137), (6, 55), (6, 65), (6, 95), (6, 117), (6, 118), (6, 119), (15, 0), (6, 56), (6, 57), (6, 96), (6, 97), (6, 66), (6, 67), (1, 10), (5, 130)]
set_option maxRecDepth 100000 in
theorem nV171 : kVM (nS nH171) nCl nZ0 nDflt nStrs nNcs nEX nCt nCods nHn nMt 171 = true := by decide +kernel
def nH172 : List (Nat × Nat) := [(6, 55), (6, 89), (6, 65), (6, 95), (6, 56), (6, 57), (6, 96), (6, 97), (6, 121), (6, 122), (6, 90), (6, 91), (6, 66), (6, 67), (1, 10), (5, 130)]
set_option maxRecDepth 100000 in
theorem nV172 : kVM (nS nH172) nCl nZ0 nDflt nStrs nNcs nEX nCt nCods nHn nMt 172 = true := by decide +kernel
def nH173 : List (Nat × Nat) := [(5, 137), (6, 86), (6, 68), (5, 140), (6, 69), (6, 70), (6, 87), (6, 88), (6, 124), (6, 125), (6, 126), (15, 1), (1, 10), (5, 130)]
set_option maxRecDepth 100000 in
theorem nV173 : kVM (nS nH173) nCl nZ0 nDflt nStrs nNcs nEX nCt nCods nHn nMt 173 = true := by decide +kernel
def nH174 : List (Nat × Nat) := [(6, 55), (6, 133), (6, 134), (6, 56), (6, 57), (1, 10), (5, 130)]
set_option maxRecDepth 100000 in
theorem nV174 : kVM (nS nH174) nCl nZ0 nDflt nStrs nNcs nEX nCt nCods nHn nMt 174 = true := by decide +kernel
def nH175 : List (Nat × Nat) := [(5, 137), (6, 55), (6, 131), (6, 140), (6, 65), (6, 95), (6, 111), (6, 56), (6, 57), (6, 96), (6, 97), (6, 66), (6, 67), (6, 137), (6, 138), (6, 139), (15, 3), (1, 10), (5, 130)]
set_option maxRecDepth 100000 in
theorem nV175 : kVM (nS nH175) nCl nZ0 nDflt nStrs nNcs nEX nCt nCods nHn nMt 175 = true := by decide +kernel
def nH176 : List (Nat × Nat) := [(6, 51), (5, 139), (6, 152), (6, 153), (6, 154), (15, 6), (6, 52), (6, 53), (6, 54), (14, 7), (1, 10), (5, 130)]
set_option maxRecDepth 100000 in
theorem nV176 : kVM (nS nH176) nCl nZ0 nDflt nStrs nNcs nEX nCt nCods nHn nMt 176 = true := by decide +kernel
def nH177 : List (Nat × Nat) := [(6, 106), (5, 137), (6, 68), (5, 138), (6, 65), (6, 95), (6, 103), (6, 104), (6, 105), (14, 13), (6, 69), (6, 70), (6, 96), (6, 97), (6, 66), (6, 67), (1, 10), (5, 130)]
set_option maxRecDepth 100000 in
theorem nV177 : kVM (nS nH177) nCl nZ0 nDflt nStrs nNcs nEX nCt nCods nHn nMt 177 = true := by decide +kernel
def nH178 : List (Nat × Nat) := [(6, 82), (5, 139), (5, 147), (6, 83), (6, 84), (6, 85), (14, 11), (6, 164), (6, 165), (6, 166), (15, 9), (1, 10), (5, 130)]
set_option maxRecDepth 100000 in
theorem nV178 : kVM (nS nH178) nCl nZ0 nDflt nStrs nNcs nEX nCt nCods nHn nMt 178 = true := by decide +kernel
def nH179 : List (Nat × Nat) := [(5, 147), (5, 148), (6, 82), (6, 151), (5, 139), (5, 136), (5, 146), (5, 149), (6, 168), (6, 169), (6, 170), (15, 10), (6, 152), (6, 153), (6, 154), (15, 6), (6, 83), (6, 84), (6, 85), (14, 11), (1, 10), (5, 130)]
set_option maxRecDepth 100000 in
theorem nV179 : kVM (nS nH179) nCl nZ0 nDflt nStrs nNcs nEX nCt nCods nHn nMt 179 = true := by decide +kernel
