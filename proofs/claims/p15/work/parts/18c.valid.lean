/-! THE METHODS HOLD -/
def nH60 : List (Nat × Nat) := [(2, 2), (1, 230), (2, 198), (2, 202), (2, 206), (3, 3), (3, 127), (1, 239), (3, 136), (2, 4), (2, 7), (3, 131), (2, 5), (3, 139), (3, 164), (3, 168), (4, 19), (2, 6), (3, 143), (1, 237), (2, 203), (2, 204), (2, 205), (2, 195), (2, 196), (2, 197), (2, 199), (2, 200), (2, 201), (3, 140), (3, 141), (3, 142), (11, 5), (3, 169), (3, 170), (3, 171), (11, 7), (2, 207), (2, 208), (2, 209), (11, 1), (4, 20), (4, 21), (4, 22), (12, 0), (3, 128), (3, 129), (3, 130), (11, 4), (3, 4), (3, 5), (3, 6), (11, 3), (3, 165), (3, 166), (3, 167), (3, 137), (3, 138), (3, 144), (3, 145), (3, 146), (11, 6), (1, 5), (1, 181)]
set_option maxRecDepth 100000 in
theorem nV60 : kVM (nS nH60) nCl nZ0 nDflt nStrs nNcs nEX nCt nCods nHn nMt 60 = true := by decide +kernel
def nH61 : List (Nat × Nat) := [(2, 1), (2, 2), (2, 226), (4, 41), (2, 228), (1, 234), (4, 42), (4, 46), (4, 47), (4, 51), (1, 232), (1, 231), (4, 55), (2, 0), (4, 56), (4, 57), (4, 58), (4, 52), (4, 53), (4, 54), (12, 4), (4, 43), (4, 44), (4, 45), (4, 38), (4, 39), (4, 40), (2, 131), (2, 132), (4, 48), (4, 49), (4, 50), (12, 3), (1, 5), (1, 181), (1, 14), (2, 88)]
set_option maxRecDepth 100000 in
theorem nV61 : kVM (nS nH61) nCl nZ0 nDflt nStrs nNcs nEX nCt nCods nHn nMt 61 = true := by decide +kernel
def nH62 : List (Nat × Nat) := [(1, 235), (4, 63), (4, 64), (4, 65), (1, 5), (1, 181)]
set_option maxRecDepth 100000 in
theorem nV62 : kVM (nS nH62) nCl nZ0 nDflt nStrs nNcs nEX nCt nCods nHn nMt 62 = true := by decide +kernel
def nH63 : List (Nat × Nat) := [(1, 91), (1, 93), (4, 67), (4, 68), (4, 69), (1, 3), (1, 78)]
set_option maxRecDepth 100000 in
theorem nV63 : kVM (nS nH63) nCl nZ0 nDflt nStrs nNcs nEX nCt nCods nHn nMt 63 = true := by decide +kernel
def nH64 : List (Nat × Nat) := [(5, 154), (6, 217), (6, 218), (6, 219), (16, 2), (1, 10), (5, 130)]
set_option maxRecDepth 100000 in
theorem nV64 : kVM (nS nH64) nCl nZ0 nDflt nStrs nNcs nEX nCt nCods nHn nMt 64 = true := by decide +kernel
def nH65 : List (Nat × Nat) := [(5, 154), (6, 221), (6, 222), (6, 223), (16, 3), (1, 10), (5, 130)]
set_option maxRecDepth 100000 in
theorem nV65 : kVM (nS nH65) nCl nZ0 nDflt nStrs nNcs nEX nCt nCods nHn nMt 65 = true := by decide +kernel
def nH66 : List (Nat × Nat) := [(5, 157), (5, 154), (6, 228), (6, 225), (6, 226), (6, 227), (16, 4), (6, 229), (6, 230), (1, 10), (5, 130)]
set_option maxRecDepth 100000 in
theorem nV66 : kVM (nS nH66) nCl nZ0 nDflt nStrs nNcs nEX nCt nCods nHn nMt 66 = true := by decide +kernel
def nH67 : List (Nat × Nat) := [(6, 238), (7, 2), (7, 72), (6, 224), (6, 208), (5, 158), (7, 76), (5, 166), (5, 159), (5, 172), (7, 84), (7, 87), (7, 96), (7, 141), (5, 154), (7, 91), (5, 170), (5, 171), (6, 235), (6, 236), (6, 237), (16, 5), (7, 73), (7, 74), (7, 75), (16, 9), (7, 85), (7, 86), (6, 225), (6, 226), (6, 227), (16, 4), (7, 97), (7, 98), (7, 99), (16, 14), (7, 88), (7, 89), (7, 90), (16, 12), (7, 92), (7, 93), (7, 94), (16, 13), (7, 142), (7, 143), (7, 144), (17, 8), (7, 77), (7, 78), (7, 79), (16, 10), (7, 3), (7, 4), (7, 5), (16, 7), (6, 239), (7, 0), (7, 1), (16, 6), (6, 209), (6, 210), (6, 211), (16, 0), (1, 10), (5, 130)]
set_option maxRecDepth 100000 in
theorem nV67_0 : kL (kE (nS nH67) nCl nZ0 nDflt nStrs nEX nHn nMt 67) 0 nC67_0 = true := by decide +kernel
set_option maxRecDepth 100000 in
theorem nV67_1 : kL (kE (nS nH67) nCl nZ0 nDflt nStrs nEX nHn nMt 67) 200 nC67_1 = true := by decide +kernel
set_option maxRecDepth 100000 in
theorem nV67_L : kL (kE (nS nH67) nCl nZ0 nDflt nStrs nEX nHn nMt 67) 0 (nCods 67) = true := by
  show kL (kE (nS nH67) nCl nZ0 nDflt nStrs nEX nHn nMt 67) 0 (nC67_0 ++ (nC67_1)) = true
  exact kL_two nV67_0 (nV67_1)
set_option maxRecDepth 100000 in
theorem nV67 : kVM (nS nH67) nCl nZ0 nDflt nStrs nNcs nEX nCt nCods nHn nMt 67 = true := by
  unfold kVM
  rw [nV67_L, Bool.true_and]
  decide +kernel
def nH68 : List (Nat × Nat) := [(1, 195), (1, 192), (1, 193), (3, 197), (3, 198), (3, 199), (1, 6), (1, 187)]
set_option maxRecDepth 100000 in
theorem nV68 : kVM (nS nH68) nCl nZ0 nDflt nStrs nNcs nEX nCt nCods nHn nMt 68 = true := by decide +kernel
def nH69 : List (Nat × Nat) := [(1, 91), (4, 108), (1, 93), (1, 83), (4, 109), (4, 119), (1, 97), (1, 95), (1, 102), (4, 130), (1, 99), (4, 105), (4, 106), (4, 107), (4, 131), (4, 132), (4, 133), (12, 7), (4, 110), (4, 111), (4, 112), (12, 5), (4, 120), (4, 121), (4, 122), (12, 6), (4, 11), (4, 12), (1, 3), (1, 78)]
set_option maxRecDepth 100000 in
theorem nV69 : kVM (nS nH69) nCl nZ0 nDflt nStrs nNcs nEX nCt nCods nHn nMt 69 = true := by decide +kernel
def nH70 : List (Nat × Nat) := [(6, 56), (6, 57), (1, 10), (5, 130)]
set_option maxRecDepth 100000 in
theorem nV70 : kVM (nS nH70) nCl nZ0 nDflt nStrs nNcs nEX nCt nCods nHn nMt 70 = true := by decide +kernel
def nH71 : List (Nat × Nat) := [(6, 59), (6, 60), (1, 10), (5, 130)]
set_option maxRecDepth 100000 in
theorem nV71 : kVM (nS nH71) nCl nZ0 nDflt nStrs nNcs nEX nCt nCods nHn nMt 71 = true := by decide +kernel
def nH72 : List (Nat × Nat) := [(5, 143), (5, 152), (6, 62), (6, 63), (6, 64), (14, 8), (1, 10), (5, 130)]
set_option maxRecDepth 100000 in
theorem nV72 : kVM (nS nH72) nCl nZ0 nDflt nStrs nNcs nEX nCt nCods nHn nMt 72 = true := by decide +kernel
def nH73 : List (Nat × Nat) := [(6, 66), (6, 67), (1, 10), (5, 130)]
set_option maxRecDepth 100000 in
theorem nV73 : kVM (nS nH73) nCl nZ0 nDflt nStrs nNcs nEX nCt nCods nHn nMt 73 = true := by decide +kernel
def nH74 : List (Nat × Nat) := [(6, 65), (6, 55), (6, 69), (6, 70), (6, 56), (6, 57), (6, 66), (6, 67), (1, 10), (5, 130)]
set_option maxRecDepth 100000 in
theorem nV74 : kVM (nS nH74) nCl nZ0 nDflt nStrs nNcs nEX nCt nCods nHn nMt 74 = true := by decide +kernel
def nH75 : List (Nat × Nat) := [(6, 40), (6, 75), (6, 127), (6, 141), (6, 147), (6, 58), (6, 82), (5, 139), (6, 61), (6, 155), (6, 159), (6, 175), (6, 179), (6, 148), (6, 149), (6, 150), (15, 5), (6, 76), (6, 77), (6, 78), (14, 10), (6, 59), (6, 60), (6, 72), (6, 73), (6, 74), (14, 9), (6, 176), (6, 177), (6, 178), (15, 12), (6, 62), (6, 63), (6, 64), (14, 8), (6, 41), (6, 42), (6, 180), (6, 181), (6, 182), (15, 13), (6, 160), (6, 161), (6, 162), (15, 8), (6, 156), (6, 157), (6, 158), (15, 7), (6, 142), (6, 143), (6, 144), (15, 4), (6, 83), (6, 84), (6, 85), (14, 11), (6, 128), (6, 129), (6, 130), (15, 2), (1, 10), (5, 130)]
set_option maxRecDepth 100000 in
theorem nV75 : kVM (nS nH75) nCl nZ0 nDflt nStrs nNcs nEX nCt nCods nHn nMt 75 = true := by decide +kernel
def nH76 : List (Nat × Nat) := [(4, 11), (4, 12), (1, 1), (1, 29)]
set_option maxRecDepth 100000 in
theorem nV76 : kVM (nS nH76) nCl nZ0 nDflt nStrs nNcs nEX nCt nCods nHn nMt 76 = true := by decide +kernel
def nH77 : List (Nat × Nat) := [(1, 52), (1, 53), (1, 47), (5, 94), (5, 95), (5, 96), (1, 2), (1, 37)]
set_option maxRecDepth 100000 in
theorem nV77 : kVM (nS nH77) nCl nZ0 nDflt nStrs nNcs nEX nCt nCods nHn nMt 77 = true := by decide +kernel
def nH78 : List (Nat × Nat) := [(1, 55), (4, 227), (3, 86), (3, 87), (5, 105), (5, 106), (5, 107), (1, 21), (1, 2), (1, 37)]
set_option maxRecDepth 100000 in
theorem nV78 : kVM (nS nH78) nCl nZ0 nDflt nStrs nNcs nEX nCt nCods nHn nMt 78 = true := by decide +kernel
def nH79 : List (Nat × Nat) := [(1, 48), (1, 55), (5, 110), (5, 111), (5, 112), (1, 2), (1, 37)]
set_option maxRecDepth 100000 in
theorem nV79 : kVM (nS nH79) nCl nZ0 nDflt nStrs nNcs nEX nCt nCods nHn nMt 79 = true := by decide +kernel
def nH80 : List (Nat × Nat) := [(2, 188), (2, 189), (1, 16)]
set_option maxRecDepth 100000 in
theorem nV80 : kVM (nS nH80) nCl nZ0 nDflt nStrs nNcs nEX nCt nCods nHn nMt 80 = true := by decide +kernel
def nH81 : List (Nat × Nat) := [(1, 149), (1, 146), (1, 150), (1, 144), (1, 142), (2, 199), (2, 200), (2, 201), (1, 4), (1, 137)]
set_option maxRecDepth 100000 in
theorem nV81 : kVM (nS nH81) nCl nZ0 nDflt nStrs nNcs nEX nCt nCods nHn nMt 81 = true := by decide +kernel
def nH82 : List (Nat × Nat) := [(1, 146), (1, 150), (1, 142), (2, 203), (2, 204), (2, 205), (1, 4), (1, 137)]
set_option maxRecDepth 100000 in
theorem nV82 : kVM (nS nH82) nCl nZ0 nDflt nStrs nNcs nEX nCt nCods nHn nMt 82 = true := by decide +kernel
def nH83 : List (Nat × Nat) := [(1, 230), (2, 210), (2, 4), (2, 214), (2, 218), (2, 222), (2, 226), (2, 227), (2, 228), (2, 229), (2, 6), (2, 233), (2, 5), (1, 231), (1, 194), (3, 2), (2, 211), (2, 212), (2, 213), (2, 207), (2, 208), (2, 209), (11, 1), (2, 234), (2, 235), (2, 236), (11, 2), (2, 219), (2, 220), (2, 221), (2, 223), (2, 224), (2, 225), (2, 215), (2, 216), (2, 217), (2, 131), (2, 132), (2, 230), (2, 231), (2, 232), (1, 5), (1, 181), (1, 14), (2, 88)]
set_option maxRecDepth 100000 in
theorem nV83 : kVM (nS nH83) nCl nZ0 nDflt nStrs nNcs nEX nCt nCods nHn nMt 83 = true := by decide +kernel
def nH84 : List (Nat × Nat) := [(1, 230), (3, 7), (2, 210), (2, 218), (2, 8), (3, 11), (2, 7), (1, 152), (3, 13), (2, 214), (2, 226), (3, 126), (2, 228), (2, 211), (2, 212), (2, 213), (3, 14), (3, 15), (3, 16), (3, 8), (3, 9), (3, 10), (2, 219), (2, 220), (2, 221), (3, 4), (3, 5), (3, 6), (11, 3), (2, 215), (2, 216), (2, 217), (2, 131), (2, 132), (1, 5), (1, 181), (1, 14), (2, 88)]
set_option maxRecDepth 100000 in
theorem nV84 : kVM (nS nH84) nCl nZ0 nDflt nStrs nNcs nEX nCt nCods nHn nMt 84 = true := by decide +kernel
def nH85 : List (Nat × Nat) := [(2, 7), (3, 131), (2, 4), (3, 133), (2, 226), (3, 135), (2, 228), (3, 128), (3, 129), (3, 130), (11, 4), (2, 131), (2, 132), (1, 5), (1, 181), (1, 14), (2, 88)]
set_option maxRecDepth 100000 in
theorem nV85 : kVM (nS nH85) nCl nZ0 nDflt nStrs nNcs nEX nCt nCods nHn nMt 85 = true := by decide +kernel
def nH86 : List (Nat × Nat) := [(3, 137), (3, 138), (1, 23)]
set_option maxRecDepth 100000 in
theorem nV86 : kVM (nS nH86) nCl nZ0 nDflt nStrs nNcs nEX nCt nCods nHn nMt 86 = true := by decide +kernel
def nH87 : List (Nat × Nat) := [(1, 231), (1, 194), (3, 143), (3, 144), (3, 145), (3, 146), (11, 6), (3, 140), (3, 141), (3, 142), (11, 5), (1, 5), (1, 181)]
set_option maxRecDepth 100000 in
theorem nV87 : kVM (nS nH87) nCl nZ0 nDflt nStrs nNcs nEX nCt nCods nHn nMt 87 = true := by decide +kernel
def nH88 : List (Nat × Nat) := [(7, 190), (3, 165), (3, 166), (3, 167), (1, 9)]
set_option maxRecDepth 100000 in
theorem nV88 : kVM (nS nH88) nCl nZ0 nDflt nStrs nNcs nEX nCt nCods nHn nMt 88 = true := by decide +kernel
def nH89 : List (Nat × Nat) := [(3, 172), (1, 230), (3, 180), (3, 234), (2, 7), (7, 191), (3, 239), (2, 226), (4, 3), (2, 228), (2, 214), (4, 4), (1, 239), (2, 8), (4, 5), (3, 151), (4, 6), (2, 9), (1, 234), (2, 2), (4, 14), (4, 18), (3, 169), (3, 170), (3, 171), (11, 7), (3, 162), (3, 163), (3, 173), (3, 174), (3, 175), (11, 8), (3, 235), (3, 236), (3, 237), (11, 14), (4, 0), (4, 1), (4, 2), (4, 15), (4, 16), (4, 17), (4, 7), (4, 8), (4, 9), (11, 15), (3, 181), (3, 182), (3, 183), (2, 215), (2, 216), (2, 217), (3, 152), (3, 153), (2, 131), (2, 132), (1, 5), (1, 181), (1, 14), (2, 88)]
set_option maxRecDepth 100000 in
theorem nV89 : kVM (nS nH89) nCl nZ0 nDflt nStrs nNcs nEX nCt nCods nHn nMt 89 = true := by decide +kernel
def nH90 : List (Nat × Nat) := [(3, 184), (1, 230), (2, 214), (2, 226), (4, 23), (2, 228), (2, 7), (3, 131), (4, 24), (4, 28), (3, 201), (1, 239), (4, 30), (4, 6), (4, 32), (4, 33), (4, 34), (4, 35), (12, 2), (4, 20), (4, 21), (4, 22), (12, 0), (3, 185), (3, 186), (3, 187), (11, 9), (4, 7), (4, 8), (4, 9), (11, 15), (2, 215), (2, 216), (2, 217), (2, 131), (2, 132), (4, 25), (4, 26), (4, 27), (12, 1), (3, 202), (3, 203), (1, 5), (1, 181), (1, 14), (2, 88)]
set_option maxRecDepth 100000 in
theorem nV90 : kVM (nS nH90) nCl nZ0 nDflt nStrs nNcs nEX nCt nCods nHn nMt 90 = true := by decide +kernel
def nH91 : List (Nat × Nat) := [(1, 234), (1, 218), (1, 212), (1, 216), (2, 2), (3, 147), (2, 226), (3, 150), (2, 228), (1, 214), (1, 235), (3, 151), (3, 152), (3, 153), (2, 131), (2, 132), (3, 144), (3, 145), (3, 146), (11, 6), (3, 148), (3, 149), (1, 5), (1, 181), (1, 14), (2, 88)]
set_option maxRecDepth 100000 in
theorem nV91 : kVM (nS nH91) nCl nZ0 nDflt nStrs nNcs nEX nCt nCods nHn nMt 91 = true := by decide +kernel
def nH92 : List (Nat × Nat) := [(1, 217), (1, 211), (4, 43), (4, 44), (4, 45), (1, 7), (1, 206)]
set_option maxRecDepth 100000 in
theorem nV92 : kVM (nS nH92) nCl nZ0 nDflt nStrs nNcs nEX nCt nCods nHn nMt 92 = true := by decide +kernel
def nH93 : List (Nat × Nat) := [(1, 231), (1, 196), (1, 194), (1, 239), (3, 136), (3, 139), (4, 6), (4, 7), (4, 8), (4, 9), (11, 15), (3, 137), (3, 138), (3, 140), (3, 141), (3, 142), (11, 5), (4, 48), (4, 49), (4, 50), (12, 3), (1, 5), (1, 181)]
set_option maxRecDepth 100000 in
theorem nV93 : kVM (nS nH93) nCl nZ0 nDflt nStrs nNcs nEX nCt nCods nHn nMt 93 = true := by decide +kernel
def nH94 : List (Nat × Nat) := [(1, 238), (1, 239), (3, 136), (3, 143), (1, 236), (4, 6), (3, 144), (3, 145), (3, 146), (11, 6), (3, 137), (3, 138), (4, 52), (4, 53), (4, 54), (12, 4), (4, 7), (4, 8), (4, 9), (11, 15), (1, 5), (1, 181)]
set_option maxRecDepth 100000 in
theorem nV94 : kVM (nS nH94) nCl nZ0 nDflt nStrs nNcs nEX nCt nCods nHn nMt 94 = true := by decide +kernel
def nH95 : List (Nat × Nat) := [(1, 192), (4, 59), (1, 193), (1, 195), (4, 60), (4, 61), (4, 56), (4, 57), (4, 58), (1, 6), (1, 187), (1, 24)]
set_option maxRecDepth 100000 in
theorem nV95 : kVM (nS nH95) nCl nZ0 nDflt nStrs nNcs nEX nCt nCods nHn nMt 95 = true := by decide +kernel
def nH96 : List (Nat × Nat) := [(6, 231), (6, 40), (6, 232), (6, 233), (6, 41), (6, 42), (6, 229), (6, 230), (1, 10), (5, 130)]
set_option maxRecDepth 100000 in
theorem nV96 : kVM (nS nH96) nCl nZ0 nDflt nStrs nNcs nEX nCt nCods nHn nMt 96 = true := by decide +kernel
def nH97 : List (Nat × Nat) := [(5, 154), (6, 231), (6, 239), (7, 0), (7, 1), (16, 6), (6, 232), (6, 233), (1, 10), (5, 130)]
set_option maxRecDepth 100000 in
theorem nV97 : kVM (nS nH97) nCl nZ0 nDflt nStrs nNcs nEX nCt nCods nHn nMt 97 = true := by decide +kernel
def nH98 : List (Nat × Nat) := [(7, 6), (7, 10), (7, 29), (7, 52), (6, 195), (7, 53), (5, 154), (7, 56), (7, 57), (7, 66), (7, 67), (7, 68), (7, 69), (7, 70), (7, 71), (7, 58), (7, 59), (7, 54), (7, 55), (7, 7), (7, 8), (7, 9), (16, 8), (7, 3), (7, 4), (7, 5), (16, 7), (7, 11), (7, 12), (7, 30), (7, 31), (1, 10), (5, 130)]
set_option maxRecDepth 100000 in
theorem nV98_0 : kL (kE (nS nH98) nCl nZ0 nDflt nStrs nEX nHn nMt 98) 0 nC98_0 = true := by decide +kernel
set_option maxRecDepth 100000 in
theorem nV98_1 : kL (kE (nS nH98) nCl nZ0 nDflt nStrs nEX nHn nMt 98) 200 nC98_1 = true := by decide +kernel
set_option maxRecDepth 100000 in
theorem nV98_L : kL (kE (nS nH98) nCl nZ0 nDflt nStrs nEX nHn nMt 98) 0 (nCods 98) = true := by
  show kL (kE (nS nH98) nCl nZ0 nDflt nStrs nEX nHn nMt 98) 0 (nC98_0 ++ (nC98_1)) = true
  exact kL_two nV98_0 (nV98_1)
set_option maxRecDepth 100000 in
theorem nV98 : kVM (nS nH98) nCl nZ0 nDflt nStrs nNcs nEX nCt nCods nHn nMt 98 = true := by
  unfold kVM
  rw [nV98_L, Bool.true_and]
  decide +kernel
def nH99 : List (Nat × Nat) := [(5, 154), (6, 231), (6, 238), (7, 73), (7, 74), (7, 75), (16, 9), (6, 232), (6, 233), (6, 239), (7, 0), (7, 1), (16, 6), (1, 10), (5, 130)]
set_option maxRecDepth 100000 in
theorem nV99 : kVM (nS nH99) nCl nZ0 nDflt nStrs nNcs nEX nCt nCods nHn nMt 99 = true := by decide +kernel
def nH100 : List (Nat × Nat) := [(7, 6), (7, 80), (5, 164), (6, 208), (5, 165), (5, 166), (7, 7), (7, 8), (7, 9), (16, 8), (6, 209), (6, 210), (6, 211), (16, 0), (7, 81), (7, 82), (7, 83), (16, 11), (7, 77), (7, 78), (7, 79), (16, 10), (1, 10), (5, 130)]
set_option maxRecDepth 100000 in
theorem nV100 : kVM (nS nH100) nCl nZ0 nDflt nStrs nNcs nEX nCt nCods nHn nMt 100 = true := by decide +kernel
def nH101 : List (Nat × Nat) := [(6, 95), (6, 96), (6, 97), (7, 85), (7, 86), (1, 10), (5, 130)]
set_option maxRecDepth 100000 in
theorem nV101 : kVM (nS nH101) nCl nZ0 nDflt nStrs nNcs nEX nCt nCods nHn nMt 101 = true := by decide +kernel
def nH102 : List (Nat × Nat) := [(5, 166), (5, 167), (5, 172), (7, 91), (7, 88), (7, 89), (7, 90), (16, 12), (7, 92), (7, 93), (7, 94), (16, 13), (1, 10), (5, 130)]
set_option maxRecDepth 100000 in
theorem nV102 : kVM (nS nH102) nCl nZ0 nDflt nStrs nNcs nEX nCt nCods nHn nMt 102 = true := by decide +kernel
def nH103 : List (Nat × Nat) := [(7, 100), (5, 158), (7, 104), (5, 156), (7, 112), (6, 208), (7, 129), (5, 157), (7, 84), (5, 159), (6, 55), (6, 65), (6, 95), (7, 137), (7, 138), (7, 139), (7, 140), (17, 7), (6, 56), (6, 57), (6, 96), (6, 97), (7, 85), (7, 86), (7, 101), (7, 102), (7, 103), (16, 15), (7, 97), (7, 98), (7, 99), (16, 14), (7, 105), (7, 106), (7, 107), (17, 0), (7, 113), (7, 114), (7, 115), (17, 2), (6, 66), (6, 67), (7, 130), (7, 131), (7, 132), (17, 5), (6, 209), (6, 210), (6, 211), (16, 0), (1, 10), (5, 130)]
set_option maxRecDepth 100000 in
theorem nV103 : kVM (nS nH103) nCl nZ0 nDflt nStrs nNcs nEX nCt nCods nHn nMt 103 = true := by decide +kernel
def nH104 : List (Nat × Nat) := [(7, 108), (5, 156), (5, 157), (6, 208), (5, 158), (6, 68), (5, 159), (7, 137), (5, 160), (6, 51), (7, 145), (6, 209), (6, 210), (6, 211), (16, 0), (7, 146), (7, 147), (7, 148), (17, 9), (7, 142), (7, 143), (7, 144), (17, 8), (7, 109), (7, 110), (7, 111), (17, 1), (6, 69), (6, 70), (7, 138), (7, 139), (7, 140), (17, 7), (6, 52), (6, 53), (6, 54), (14, 7), (1, 10), (5, 130)]
set_option maxRecDepth 100000 in
theorem nV104 : kVM (nS nH104) nCl nZ0 nDflt nStrs nNcs nEX nCt nCods nHn nMt 104 = true := by decide +kernel
def nH105 : List (Nat × Nat) := [(5, 158), (5, 176), (5, 173), (5, 174), (6, 55), (6, 208), (5, 162), (5, 175), (7, 95), (6, 65), (6, 95), (6, 56), (6, 57), (6, 96), (6, 97), (6, 209), (6, 210), (6, 211), (16, 0), (7, 92), (7, 93), (7, 94), (16, 13), (6, 66), (6, 67), (1, 10), (5, 130)]
set_option maxRecDepth 100000 in
theorem nV105 : kVM (nS nH105) nCl nZ0 nDflt nStrs nNcs nEX nCt nCods nHn nMt 105 = true := by decide +kernel
def nH106 : List (Nat × Nat) := [(4, 113), (1, 100), (1, 101), (1, 102), (4, 114), (4, 117), (1, 103), (1, 104), (1, 85), (4, 118), (1, 91), (1, 99), (4, 110), (4, 111), (4, 112), (12, 5), (3, 148), (3, 149), (4, 115), (4, 116), (3, 137), (3, 138), (3, 202), (3, 203), (1, 3), (1, 78)]
set_option maxRecDepth 100000 in
theorem nV106 : kVM (nS nH106) nCl nZ0 nDflt nStrs nNcs nEX nCt nCods nHn nMt 106 = true := by decide +kernel
def nH107 : List (Nat × Nat) := [(1, 100), (1, 84), (1, 101), (4, 123), (1, 95), (4, 126), (4, 127), (4, 128), (4, 129), (4, 124), (4, 125), (4, 120), (4, 121), (4, 122), (12, 6), (1, 3), (1, 78)]
set_option maxRecDepth 100000 in
theorem nV107 : kVM (nS nH107) nCl nZ0 nDflt nStrs nNcs nEX nCt nCods nHn nMt 107 = true := by decide +kernel
def nH108 : List (Nat × Nat) := [(1, 100), (4, 134), (4, 163), (4, 185), (4, 191), (4, 198), (4, 206), (4, 211), (5, 11), (5, 22), (5, 26), (5, 30), (5, 12), (5, 13), (5, 14), (14, 0), (4, 131), (4, 132), (4, 133), (12, 7), (4, 212), (4, 213), (4, 214), (13, 8), (4, 186), (4, 187), (4, 188), (13, 3), (5, 23), (5, 24), (5, 25), (14, 2), (5, 27), (5, 28), (5, 29), (14, 3), (4, 207), (4, 208), (4, 209), (13, 7), (4, 135), (4, 136), (4, 137), (12, 8), (5, 31), (5, 32), (5, 33), (14, 4), (4, 192), (4, 193), (4, 194), (13, 4), (4, 164), (4, 165), (4, 166), (12, 14), (4, 199), (4, 200), (4, 201), (13, 5), (1, 3), (1, 78)]
set_option maxRecDepth 100000 in
theorem nV108 : kVM (nS nH108) nCl nZ0 nDflt nStrs nNcs nEX nCt nCods nHn nMt 108 = true := by decide +kernel
def nH109 : List (Nat × Nat) := [(6, 79), (6, 51), (6, 82), (5, 139), (5, 136), (6, 86), (6, 98), (6, 116), (5, 137), (6, 120), (6, 123), (6, 117), (6, 118), (6, 119), (15, 0), (6, 76), (6, 77), (6, 78), (14, 10), (6, 124), (6, 125), (6, 126), (15, 1), (6, 121), (6, 122), (6, 80), (6, 81), (6, 87), (6, 88), (6, 99), (6, 100), (6, 101), (14, 12), (6, 83), (6, 84), (6, 85), (14, 11), (6, 52), (6, 53), (6, 54), (14, 7), (1, 10), (5, 130)]
set_option maxRecDepth 100000 in
theorem nV109 : kVM (nS nH109) nCl nZ0 nDflt nStrs nNcs nEX nCt nCods nHn nMt 109 = true := by decide +kernel
def nH110 : List (Nat × Nat) := [(6, 82), (5, 139), (6, 131), (5, 137), (6, 132), (6, 135), (6, 65), (6, 95), (6, 136), (5, 145), (6, 96), (6, 97), (6, 133), (6, 134), (6, 83), (6, 84), (6, 85), (14, 11), (6, 66), (6, 67), (6, 137), (6, 138), (6, 139), (15, 3), (6, 128), (6, 129), (6, 130), (15, 2), (1, 10), (5, 130)]
set_option maxRecDepth 100000 in
theorem nV110 : kVM (nS nH110) nCl nZ0 nDflt nStrs nNcs nEX nCt nCods nHn nMt 110 = true := by decide +kernel
def nH111 : List (Nat × Nat) := [(6, 82), (5, 139), (5, 137), (6, 55), (6, 135), (6, 65), (6, 95), (6, 145), (6, 146), (6, 111), (6, 96), (6, 97), (6, 56), (6, 57), (6, 142), (6, 143), (6, 144), (15, 4), (6, 83), (6, 84), (6, 85), (14, 11), (6, 66), (6, 67), (1, 10), (5, 130)]
set_option maxRecDepth 100000 in
theorem nV111 : kVM (nS nH111) nCl nZ0 nDflt nStrs nNcs nEX nCt nCods nHn nMt 111 = true := by decide +kernel
def nH112 : List (Nat × Nat) := [(5, 137), (6, 68), (6, 151), (5, 136), (6, 102), (6, 148), (6, 149), (6, 150), (15, 5), (6, 69), (6, 70), (6, 103), (6, 104), (6, 105), (14, 13), (6, 152), (6, 153), (6, 154), (15, 6), (1, 10), (5, 130)]
set_option maxRecDepth 100000 in
theorem nV112 : kVM (nS nH112) nCl nZ0 nDflt nStrs nNcs nEX nCt nCods nHn nMt 112 = true := by decide +kernel
def nH113 : List (Nat × Nat) := [(5, 139), (6, 83), (6, 84), (6, 85), (14, 11), (1, 10), (5, 130)]
set_option maxRecDepth 100000 in
theorem nV113 : kVM (nS nH113) nCl nZ0 nDflt nStrs nNcs nEX nCt nCods nHn nMt 113 = true := by decide +kernel
def nH114 : List (Nat × Nat) := [(6, 51), (6, 82), (5, 139), (5, 137), (5, 141), (6, 95), (5, 142), (6, 83), (6, 84), (6, 85), (14, 11), (6, 96), (6, 97), (6, 156), (6, 157), (6, 158), (15, 7), (6, 52), (6, 53), (6, 54), (14, 7), (1, 10), (5, 130)]
set_option maxRecDepth 100000 in
theorem nV114 : kVM (nS nH114) nCl nZ0 nDflt nStrs nNcs nEX nCt nCods nHn nMt 114 = true := by decide +kernel
def nH115 : List (Nat × Nat) := [(6, 58), (6, 82), (5, 139), (6, 163), (6, 167), (6, 171), (5, 152), (5, 143), (6, 59), (6, 60), (6, 172), (6, 173), (6, 174), (15, 11), (6, 168), (6, 169), (6, 170), (15, 10), (6, 164), (6, 165), (6, 166), (15, 9), (6, 160), (6, 161), (6, 162), (15, 8), (6, 83), (6, 84), (6, 85), (14, 11), (1, 10), (5, 130)]
set_option maxRecDepth 100000 in
theorem nV115 : kVM (nS nH115) nCl nZ0 nDflt nStrs nNcs nEX nCt nCods nHn nMt 115 = true := by decide +kernel
def nH116 : List (Nat × Nat) := [(6, 82), (5, 139), (5, 138), (5, 140), (6, 155), (6, 156), (6, 157), (6, 158), (15, 7), (6, 176), (6, 177), (6, 178), (15, 12), (6, 83), (6, 84), (6, 85), (14, 11), (1, 10), (5, 130)]
set_option maxRecDepth 100000 in
theorem nV116 : kVM (nS nH116) nCl nZ0 nDflt nStrs nNcs nEX nCt nCods nHn nMt 116 = true := by decide +kernel
def nH117 : List (Nat × Nat) := [(6, 82), (5, 139), (5, 137), (6, 68), (6, 183), (6, 155), (6, 102), (6, 95), (6, 116), (6, 117), (6, 118), (6, 119), (15, 0), (6, 96), (6, 97), (6, 180), (6, 181), (6, 182), (15, 13), (6, 156), (6, 157), (6, 158), (15, 7), (6, 184), (6, 185), (6, 186), (15, 14), (6, 69), (6, 70), (6, 83), (6, 84), (6, 85), (14, 11), (6, 103), (6, 104), (6, 105), (14, 13), (1, 10), (5, 130)]
set_option maxRecDepth 100000 in
theorem nV117 : kVM (nS nH117) nCl nZ0 nDflt nStrs nNcs nEX nCt nCods nHn nMt 117 = true := by decide +kernel
def nH118 : List (Nat × Nat) := [(1, 146), (1, 151), (1, 150), (1, 142), (2, 211), (2, 212), (2, 213), (1, 4), (1, 137)]
set_option maxRecDepth 100000 in
theorem nV118 : kVM (nS nH118) nCl nZ0 nDflt nStrs nNcs nEX nCt nCods nHn nMt 118 = true := by decide +kernel
def nH119 : List (Nat × Nat) := [(1, 146), (1, 151), (2, 215), (2, 216), (2, 217), (1, 4), (1, 137)]
set_option maxRecDepth 100000 in
theorem nV119 : kVM (nS nH119) nCl nZ0 nDflt nStrs nNcs nEX nCt nCods nHn nMt 119 = true := by decide +kernel
