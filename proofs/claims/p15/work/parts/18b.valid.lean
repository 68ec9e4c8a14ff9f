/-! THE METHODS HOLD -/
def nH1 : List (Nat × Nat) := [(1, 33), (1, 76), (1, 179), (1, 204), (2, 155), (6, 31), (2, 47), (1, 36), (1, 38), (2, 48), (1, 77), (1, 79), (2, 49), (1, 136), (1, 138), (2, 50), (1, 180), (1, 182), (2, 51), (1, 34), (1, 35), (1, 139), (1, 140), (1, 80), (1, 81), (1, 31), (1, 32), (1, 39), (1, 40), (1, 183), (1, 184), (1, 3), (1, 78), (1, 5), (1, 181), (1, 2), (1, 37), (1, 1), (1, 29), (1, 21), (1, 4), (1, 137)]
set_option maxRecDepth 100000 in
theorem nV1 : kVM (nS nH1) nCl nZ0 nDflt nStrs nNcs nEX nCt nCods nHn nMt 1 = true := by decide +kernel
def nH2 : List (Nat × Nat) := [(5, 134), (1, 76), (1, 179), (1, 204), (2, 155), (6, 31), (5, 136), (5, 137), (5, 145), (5, 146), (5, 149), (5, 151), (5, 152), (5, 154), (5, 155), (5, 162), (5, 163), (5, 165), (5, 166), (5, 167), (5, 169), (5, 170), (5, 171), (5, 173), (5, 174), (5, 175), (5, 176), (5, 178), (5, 179), (5, 132), (5, 133), (1, 34), (1, 35), (1, 10), (5, 130), (1, 21)]
set_option maxRecDepth 100000 in
theorem nV2 : kVM (nS nH2) nCl nZ0 nDflt nStrs nNcs nEX nCt nCods nHn nMt 2 = true := by decide +kernel
def nH3 : List (Nat × Nat) := [(2, 76), (2, 89), (2, 158), (4, 81), (5, 56), (2, 74), (2, 75), (2, 72), (2, 73), (2, 77), (2, 78), (2, 79), (1, 0)]
set_option maxRecDepth 100000 in
theorem nV3 : kVM (nS nH3) nCl nZ0 nDflt nStrs nNcs nEX nCt nCods nHn nMt 3 = true := by decide +kernel
def nH4 : List (Nat × Nat) := [(5, 135), (6, 40), (6, 43), (6, 195), (5, 153), (5, 154), (6, 44), (6, 45), (6, 46), (14, 5), (6, 41), (6, 42), (6, 192), (6, 193), (6, 194), (1, 10), (5, 130)]
set_option maxRecDepth 100000 in
theorem nV4 : kVM (nS nH4) nCl nZ0 nDflt nStrs nNcs nEX nCt nCods nHn nMt 4 = true := by decide +kernel
def nH5 : List (Nat × Nat) := [(2, 50), (1, 143), (2, 64), (2, 65), (2, 66), (1, 1), (1, 29)]
set_option maxRecDepth 100000 in
theorem nV5 : kVM (nS nH5) nCl nZ0 nDflt nStrs nNcs nEX nCt nCods nHn nMt 5 = true := by decide +kernel
def nH6 : List (Nat × Nat) := [(5, 135), (5, 153), (6, 197), (6, 198), (6, 199), (1, 10), (5, 130)]
set_option maxRecDepth 100000 in
theorem nV6 : kVM (nS nH6) nCl nZ0 nDflt nStrs nNcs nEX nCt nCods nHn nMt 6 = true := by decide +kernel
def nH7 : List (Nat × Nat) := [(2, 179), (2, 89), (2, 158), (4, 81), (5, 56), (2, 74), (2, 177), (2, 178), (2, 180), (2, 181), (2, 182), (1, 0)]
set_option maxRecDepth 100000 in
theorem nV7 : kVM (nS nH7) nCl nZ0 nDflt nStrs nNcs nEX nCt nCods nHn nMt 7 = true := by decide +kernel
def nH8 : List (Nat × Nat) := [(5, 135), (6, 204), (5, 158), (5, 161), (5, 153), (5, 154), (6, 208), (6, 212), (5, 155), (6, 43), (5, 163), (5, 136), (5, 162), (5, 164), (5, 177), (5, 178), (5, 165), (5, 179), (5, 167), (5, 160), (5, 141), (5, 145), (6, 213), (6, 214), (6, 215), (16, 1), (6, 205), (6, 206), (6, 207), (15, 15), (6, 44), (6, 45), (6, 46), (14, 5), (6, 201), (6, 202), (6, 203), (6, 209), (6, 210), (6, 211), (16, 0), (1, 10), (5, 130)]
set_option maxRecDepth 100000 in
theorem nV8 : kVM (nS nH8) nCl nZ0 nDflt nStrs nNcs nEX nCt nCods nHn nMt 8 = true := by decide +kernel
def nH9 : List (Nat × Nat) := [(2, 51), (2, 3), (2, 68), (2, 69), (2, 70), (1, 1), (1, 29)]
set_option maxRecDepth 100000 in
theorem nV9 : kVM (nS nH9) nCl nZ0 nDflt nStrs nNcs nEX nCt nCods nHn nMt 9 = true := by decide +kernel
def nH10 : List (Nat × Nat) := [(5, 135), (5, 155), (7, 150), (7, 151), (7, 152), (1, 10), (5, 130)]
set_option maxRecDepth 100000 in
theorem nV10 : kVM (nS nH10) nCl nZ0 nDflt nStrs nNcs nEX nCt nCods nHn nMt 10 = true := by decide +kernel
def nH11 : List (Nat × Nat) := [(4, 74), (2, 89), (2, 158), (4, 81), (5, 56), (4, 73), (4, 71), (4, 72), (4, 75), (4, 76), (4, 77), (1, 0)]
set_option maxRecDepth 100000 in
theorem nV11 : kVM (nS nH11) nCl nZ0 nDflt nStrs nNcs nEX nCt nCods nHn nMt 11 = true := by decide +kernel
def nH12 : List (Nat × Nat) := [(5, 135), (5, 177), (5, 178), (5, 179), (6, 43), (7, 154), (7, 155), (7, 156), (6, 44), (6, 45), (6, 46), (14, 5), (1, 10), (5, 130)]
set_option maxRecDepth 100000 in
theorem nV12 : kVM (nS nH12) nCl nZ0 nDflt nStrs nNcs nEX nCt nCods nHn nMt 12 = true := by decide +kernel
def nH13 : List (Nat × Nat) := [(4, 98), (2, 89), (2, 158), (4, 81), (5, 56), (2, 74), (2, 75), (4, 99), (4, 100), (4, 101), (4, 96), (4, 97), (1, 0)]
set_option maxRecDepth 100000 in
theorem nV13 : kVM (nS nH13) nCl nZ0 nDflt nStrs nNcs nEX nCt nCods nHn nMt 13 = true := by decide +kernel
def nH14 : List (Nat × Nat) := [(5, 135), (6, 40), (6, 43), (5, 145), (6, 47), (6, 44), (6, 45), (6, 46), (14, 5), (6, 41), (6, 42), (6, 48), (6, 49), (6, 50), (14, 6), (6, 37), (6, 38), (6, 39), (1, 10), (5, 130)]
set_option maxRecDepth 100000 in
theorem nV14 : kVM (nS nH14) nCl nZ0 nDflt nStrs nNcs nEX nCt nCods nHn nMt 14 = true := by decide +kernel
def nH15 : List (Nat × Nat) := [(5, 40), (2, 89), (2, 158), (4, 81), (5, 56), (2, 74), (5, 38), (5, 39), (5, 41), (5, 42), (5, 43), (1, 0)]
set_option maxRecDepth 100000 in
theorem nV15 : kVM (nS nH15) nCl nZ0 nDflt nStrs nNcs nEX nCt nCods nHn nMt 15 = true := by decide +kernel
def nH16 : List (Nat × Nat) := [(5, 135), (6, 51), (6, 43), (5, 145), (5, 141), (6, 188), (6, 189), (6, 190), (6, 44), (6, 45), (6, 46), (14, 5), (6, 52), (6, 53), (6, 54), (14, 7), (1, 10), (5, 130)]
set_option maxRecDepth 100000 in
theorem nV16 : kVM (nS nH16) nCl nZ0 nDflt nStrs nNcs nEX nCt nCods nHn nMt 16 = true := by decide +kernel
def nH17 : List (Nat × Nat) := [(5, 50), (2, 89), (2, 158), (4, 81), (5, 56), (5, 49), (2, 74), (5, 47), (5, 48), (5, 51), (5, 52), (5, 53), (1, 0)]
set_option maxRecDepth 100000 in
theorem nV17 : kVM (nS nH17) nCl nZ0 nDflt nStrs nNcs nEX nCt nCods nHn nMt 17 = true := by decide +kernel
def nH18 : List (Nat × Nat) := [(5, 135), (6, 51), (6, 43), (5, 136), (6, 44), (6, 45), (6, 46), (14, 5), (7, 158), (7, 159), (7, 160), (6, 52), (6, 53), (6, 54), (14, 7), (1, 10), (5, 130)]
set_option maxRecDepth 100000 in
theorem nV18 : kVM (nS nH18) nCl nZ0 nDflt nStrs nNcs nEX nCt nCods nHn nMt 18 = true := by decide +kernel
def nH19 : List (Nat × Nat) := [(5, 73), (2, 89), (2, 158), (4, 81), (5, 56), (5, 49), (5, 71), (5, 72), (5, 74), (5, 75), (5, 76), (1, 0)]
set_option maxRecDepth 100000 in
theorem nV19 : kVM (nS nH19) nCl nZ0 nDflt nStrs nNcs nEX nCt nCods nHn nMt 19 = true := by decide +kernel
def nH20 : List (Nat × Nat) := [(5, 135), (6, 51), (5, 136), (6, 43), (7, 162), (7, 163), (7, 164), (6, 44), (6, 45), (6, 46), (14, 5), (6, 52), (6, 53), (6, 54), (14, 7), (1, 10), (5, 130)]
set_option maxRecDepth 100000 in
theorem nV20 : kVM (nS nH20) nCl nZ0 nDflt nStrs nNcs nEX nCt nCods nHn nMt 20 = true := by decide +kernel
def nH21 : List (Nat × Nat) := [(5, 80), (2, 89), (2, 158), (4, 81), (5, 56), (5, 49), (5, 81), (5, 82), (5, 83), (5, 78), (5, 79), (1, 0)]
set_option maxRecDepth 100000 in
theorem nV21 : kVM (nS nH21) nCl nZ0 nDflt nStrs nNcs nEX nCt nCods nHn nMt 21 = true := by decide +kernel
def nH22 : List (Nat × Nat) := [(5, 135), (6, 40), (5, 137), (6, 43), (6, 44), (6, 45), (6, 46), (14, 5), (6, 41), (6, 42), (7, 166), (7, 167), (7, 168), (1, 10), (5, 130)]
set_option maxRecDepth 100000 in
theorem nV22 : kVM (nS nH22) nCl nZ0 nDflt nStrs nNcs nEX nCt nCods nHn nMt 22 = true := by decide +kernel
def nH23 : List (Nat × Nat) := [(5, 88), (2, 89), (2, 158), (4, 81), (5, 56), (2, 74), (2, 75), (5, 86), (5, 87), (5, 89), (5, 90), (5, 91), (1, 0)]
set_option maxRecDepth 100000 in
theorem nV23 : kVM (nS nH23) nCl nZ0 nDflt nStrs nNcs nEX nCt nCods nHn nMt 23 = true := by decide +kernel
def nH24 : List (Nat × Nat) := [(5, 135), (6, 43), (5, 148), (5, 149), (7, 170), (7, 171), (7, 172), (6, 44), (6, 45), (6, 46), (14, 5), (1, 10), (5, 130)]
set_option maxRecDepth 100000 in
theorem nV24 : kVM (nS nH24) nCl nZ0 nDflt nStrs nNcs nEX nCt nCods nHn nMt 24 = true := by decide +kernel
def nH25 : List (Nat × Nat) := [(5, 100), (2, 89), (2, 158), (4, 81), (5, 56), (5, 49), (5, 98), (5, 99), (5, 101), (5, 102), (5, 103), (1, 0)]
set_option maxRecDepth 100000 in
theorem nV25 : kVM (nS nH25) nCl nZ0 nDflt nStrs nNcs nEX nCt nCods nHn nMt 25 = true := by decide +kernel
def nH26 : List (Nat × Nat) := [(5, 135), (6, 40), (5, 150), (5, 151), (6, 43), (6, 44), (6, 45), (6, 46), (14, 5), (6, 41), (6, 42), (7, 174), (7, 175), (7, 176), (1, 10), (5, 130)]
set_option maxRecDepth 100000 in
theorem nV26 : kVM (nS nH26) nCl nZ0 nDflt nStrs nNcs nEX nCt nCods nHn nMt 26 = true := by decide +kernel
def nH27 : List (Nat × Nat) := [(5, 116), (2, 89), (2, 158), (4, 81), (5, 56), (5, 49), (5, 114), (5, 115), (5, 117), (5, 118), (5, 119), (1, 0)]
set_option maxRecDepth 100000 in
theorem nV27 : kVM (nS nH27) nCl nZ0 nDflt nStrs nNcs nEX nCt nCods nHn nMt 27 = true := by decide +kernel
def nH28 : List (Nat × Nat) := [(5, 135), (6, 40), (5, 146), (6, 43), (6, 44), (6, 45), (6, 46), (14, 5), (6, 41), (6, 42), (7, 178), (7, 179), (7, 180), (1, 10), (5, 130)]
set_option maxRecDepth 100000 in
theorem nV28 : kVM (nS nH28) nCl nZ0 nDflt nStrs nNcs nEX nCt nCods nHn nMt 28 = true := by decide +kernel
def nH29 : List (Nat × Nat) := [(5, 124), (2, 89), (2, 158), (4, 81), (5, 56), (5, 49), (5, 122), (5, 123), (5, 125), (5, 126), (5, 127), (1, 0)]
set_option maxRecDepth 100000 in
theorem nV29 : kVM (nS nH29) nCl nZ0 nDflt nStrs nNcs nEX nCt nCods nHn nMt 29 = true := by decide +kernel
def nH30 : List (Nat × Nat) := [(5, 135), (6, 40), (6, 43), (5, 141), (5, 143), (5, 138), (5, 140), (5, 145), (5, 150), (5, 147), (5, 144), (6, 44), (6, 45), (6, 46), (14, 5), (6, 41), (6, 42), (7, 182), (7, 183), (7, 184), (1, 10), (5, 130)]
set_option maxRecDepth 100000 in
theorem nV30 : kVM (nS nH30) nCl nZ0 nDflt nStrs nNcs nEX nCt nCods nHn nMt 30 = true := by decide +kernel
def nH31 : List (Nat × Nat) := [(1, 41), (1, 44), (1, 76), (1, 179), (1, 204), (2, 155), (6, 31), (1, 45), (1, 47), (1, 48), (1, 42), (1, 49), (1, 34), (1, 35), (1, 39), (1, 40), (1, 21), (1, 2), (1, 37)]
set_option maxRecDepth 100000 in
theorem nV31 : kVM (nS nH31) nCl nZ0 nDflt nStrs nNcs nEX nCt nCods nHn nMt 31 = true := by decide +kernel
def nH32 : List (Nat × Nat) := [(1, 82), (1, 83), (1, 84), (1, 76), (1, 179), (1, 204), (2, 155), (6, 31), (1, 85), (1, 93), (1, 80), (1, 81), (1, 34), (1, 35), (1, 3), (1, 78), (1, 21)]
set_option maxRecDepth 100000 in
theorem nV32 : kVM (nS nH32) nCl nZ0 nDflt nStrs nNcs nEX nCt nCods nHn nMt 32 = true := by decide +kernel
def nH33 : List (Nat × Nat) := [(1, 141), (1, 76), (1, 179), (1, 204), (2, 155), (6, 31), (1, 142), (1, 34), (1, 35), (1, 139), (1, 140), (1, 21), (1, 4), (1, 137)]
set_option maxRecDepth 100000 in
theorem nV33 : kVM (nS nH33) nCl nZ0 nDflt nStrs nNcs nEX nCt nCods nHn nMt 33 = true := by decide +kernel
def nH34 : List (Nat × Nat) := [(1, 185), (1, 230), (1, 186), (1, 188), (1, 231), (1, 232), (1, 205), (1, 207), (1, 234), (1, 76), (1, 179), (1, 204), (2, 155), (6, 31), (1, 235), (1, 236), (1, 237), (1, 228), (2, 7), (2, 2), (1, 34), (1, 35), (1, 208), (1, 209), (1, 189), (1, 190), (1, 183), (1, 184), (1, 7), (1, 206), (1, 5), (1, 181), (1, 6), (1, 187), (1, 21)]
set_option maxRecDepth 100000 in
theorem nV34 : kVM (nS nH34) nCl nZ0 nDflt nStrs nNcs nEX nCt nCods nHn nMt 34 = true := by decide +kernel
def nH35 : List (Nat × Nat) := [(2, 80), (2, 87), (2, 129), (2, 130), (2, 50), (1, 143), (2, 156), (2, 165), (2, 166), (2, 172), (2, 173), (2, 174), (2, 175), (2, 77), (2, 78), (2, 79), (2, 131), (2, 132), (2, 81), (2, 82), (2, 167), (2, 168), (1, 15), (2, 157), (1, 1), (1, 29), (1, 14), (2, 88)]
set_option maxRecDepth 100000 in
theorem nV35 : kVM (nS nH35) nCl nZ0 nDflt nStrs nNcs nEX nCt nCods nHn nMt 35 = true := by decide +kernel
def nH36 : List (Nat × Nat) := [(6, 41), (6, 42), (1, 10), (5, 130)]
set_option maxRecDepth 100000 in
theorem nV36 : kVM (nS nH36) nCl nZ0 nDflt nStrs nNcs nEX nCt nCods nHn nMt 36 = true := by decide +kernel
def nH37 : List (Nat × Nat) := [(5, 135), (6, 44), (6, 45), (6, 46), (14, 5), (1, 10), (5, 130)]
set_option maxRecDepth 100000 in
theorem nV37 : kVM (nS nH37) nCl nZ0 nDflt nStrs nNcs nEX nCt nCods nHn nMt 37 = true := by decide +kernel
def nH38 : List (Nat × Nat) := [(2, 51), (2, 183), (2, 190), (2, 194), (4, 37), (2, 47), (4, 62), (2, 49), (4, 66), (2, 195), (2, 196), (2, 197), (4, 67), (4, 68), (4, 69), (4, 63), (4, 64), (4, 65), (4, 38), (4, 39), (4, 40), (2, 184), (2, 185), (2, 186), (2, 191), (2, 192), (2, 193), (2, 180), (2, 181), (2, 182), (1, 1), (1, 29)]
set_option maxRecDepth 100000 in
theorem nV38 : kVM (nS nH38) nCl nZ0 nDflt nStrs nNcs nEX nCt nCods nHn nMt 38 = true := by decide +kernel
def nH39 : List (Nat × Nat) := [(5, 158), (5, 161), (5, 159), (5, 164), (5, 168), (5, 172), (5, 170), (5, 163), (6, 205), (6, 206), (6, 207), (15, 15), (1, 10), (5, 130)]
set_option maxRecDepth 100000 in
theorem nV39 : kVM (nS nH39) nCl nZ0 nDflt nStrs nNcs nEX nCt nCods nHn nMt 39 = true := by decide +kernel
def nH40 : List (Nat × Nat) := [(5, 158), (6, 209), (6, 210), (6, 211), (16, 0), (1, 10), (5, 130)]
set_option maxRecDepth 100000 in
theorem nV40 : kVM (nS nH40) nCl nZ0 nDflt nStrs nNcs nEX nCt nCods nHn nMt 40 = true := by decide +kernel
def nH41 : List (Nat × Nat) := [(5, 154), (6, 216), (5, 157), (6, 220), (6, 208), (5, 156), (6, 224), (5, 158), (6, 234), (6, 217), (6, 218), (6, 219), (16, 2), (6, 235), (6, 236), (6, 237), (16, 5), (6, 221), (6, 222), (6, 223), (16, 3), (6, 213), (6, 214), (6, 215), (16, 1), (6, 225), (6, 226), (6, 227), (16, 4), (6, 209), (6, 210), (6, 211), (16, 0), (1, 10), (5, 130)]
set_option maxRecDepth 100000 in
theorem nV41 : kVM (nS nH41) nCl nZ0 nDflt nStrs nNcs nEX nCt nCods nHn nMt 41 = true := by decide +kernel
def nH42 : List (Nat × Nat) := [(2, 51), (1, 233), (4, 78), (4, 79), (4, 88), (4, 89), (4, 90), (4, 91), (3, 197), (3, 198), (3, 199), (4, 75), (4, 76), (4, 77), (1, 25), (4, 80), (1, 1), (1, 29)]
set_option maxRecDepth 100000 in
theorem nV42 : kVM (nS nH42) nCl nZ0 nDflt nStrs nNcs nEX nCt nCods nHn nMt 42 = true := by decide +kernel
def nH43 : List (Nat × Nat) := [(2, 87), (4, 102), (2, 130), (2, 49), (1, 94), (2, 156), (4, 103), (2, 166), (1, 96), (4, 104), (4, 99), (4, 100), (4, 101), (2, 131), (2, 132), (4, 105), (4, 106), (4, 107), (2, 167), (2, 168), (1, 15), (2, 157), (1, 1), (1, 29), (1, 14), (2, 88)]
set_option maxRecDepth 100000 in
theorem nV43 : kVM (nS nH43) nCl nZ0 nDflt nStrs nNcs nEX nCt nCods nHn nMt 43 = true := by decide +kernel
def nH44 : List (Nat × Nat) := [(5, 141), (6, 51), (5, 139), (5, 136), (6, 55), (6, 40), (6, 58), (6, 61), (5, 143), (5, 144), (6, 65), (5, 137), (6, 68), (5, 142), (6, 71), (6, 56), (6, 57), (6, 59), (6, 60), (6, 72), (6, 73), (6, 74), (14, 9), (6, 62), (6, 63), (6, 64), (14, 8), (6, 41), (6, 42), (6, 69), (6, 70), (6, 48), (6, 49), (6, 50), (14, 6), (6, 66), (6, 67), (6, 52), (6, 53), (6, 54), (14, 7), (1, 10), (5, 130)]
set_option maxRecDepth 100000 in
theorem nV44 : kVM (nS nH44) nCl nZ0 nDflt nStrs nNcs nEX nCt nCods nHn nMt 44 = true := by decide +kernel
def nH45 : List (Nat × Nat) := [(5, 44), (2, 87), (5, 45), (2, 130), (2, 49), (1, 94), (4, 66), (2, 131), (2, 132), (4, 67), (4, 68), (4, 69), (5, 41), (5, 42), (5, 43), (4, 11), (4, 12), (1, 1), (1, 29), (1, 14), (2, 88)]
set_option maxRecDepth 100000 in
theorem nV45 : kVM (nS nH45) nCl nZ0 nDflt nStrs nNcs nEX nCt nCods nHn nMt 45 = true := by decide +kernel
def nH46 : List (Nat × Nat) := [(6, 40), (6, 41), (6, 42), (6, 52), (6, 53), (6, 54), (14, 7), (1, 10), (5, 130)]
set_option maxRecDepth 100000 in
theorem nV46 : kVM (nS nH46) nCl nZ0 nDflt nStrs nNcs nEX nCt nCods nHn nMt 46 = true := by decide +kernel
def nH47 : List (Nat × Nat) := [(5, 44), (5, 54), (5, 45), (5, 63), (2, 87), (5, 69), (2, 130), (2, 47), (2, 131), (2, 132), (5, 64), (5, 65), (4, 11), (4, 12), (5, 51), (5, 52), (5, 53), (1, 1), (1, 29), (1, 14), (2, 88), (1, 27), (5, 55)]
set_option maxRecDepth 100000 in
theorem nV47 : kVM (nS nH47) nCl nZ0 nDflt nStrs nNcs nEX nCt nCods nHn nMt 47 = true := by decide +kernel
def nH48 : List (Nat × Nat) := [(5, 44), (5, 54), (5, 45), (5, 63), (2, 47), (5, 64), (5, 65), (4, 11), (4, 12), (5, 74), (5, 75), (5, 76), (1, 1), (1, 29), (1, 27), (5, 55)]
set_option maxRecDepth 100000 in
theorem nV48 : kVM (nS nH48) nCl nZ0 nDflt nStrs nNcs nEX nCt nCods nHn nMt 48 = true := by decide +kernel
def nH49 : List (Nat × Nat) := [(5, 54), (5, 84), (5, 63), (2, 49), (1, 86), (5, 81), (5, 82), (5, 83), (5, 64), (5, 65), (1, 1), (1, 29), (1, 27), (5, 55)]
set_option maxRecDepth 100000 in
theorem nV49 : kVM (nS nH49) nCl nZ0 nDflt nStrs nNcs nEX nCt nCods nHn nMt 49 = true := by decide +kernel
def nH50 : List (Nat × Nat) := [(2, 87), (5, 69), (2, 130), (2, 48), (1, 54), (2, 156), (5, 92), (2, 166), (5, 93), (2, 131), (2, 132), (5, 94), (5, 95), (5, 96), (5, 89), (5, 90), (5, 91), (2, 167), (2, 168), (1, 15), (2, 157), (1, 1), (1, 29), (1, 14), (2, 88)]
set_option maxRecDepth 100000 in
theorem nV50 : kVM (nS nH50) nCl nZ0 nDflt nStrs nNcs nEX nCt nCods nHn nMt 50 = true := by decide +kernel
def nH51 : List (Nat × Nat) := [(2, 48), (5, 104), (5, 54), (5, 108), (5, 63), (5, 109), (5, 105), (5, 106), (5, 107), (5, 64), (5, 65), (5, 110), (5, 111), (5, 112), (5, 101), (5, 102), (5, 103), (1, 1), (1, 29), (1, 27), (5, 55)]
set_option maxRecDepth 100000 in
theorem nV51 : kVM (nS nH51) nCl nZ0 nDflt nStrs nNcs nEX nCt nCods nHn nMt 51 = true := by decide +kernel
def nH52 : List (Nat × Nat) := [(5, 54), (5, 120), (5, 63), (2, 48), (1, 46), (5, 64), (5, 65), (5, 117), (5, 118), (5, 119), (1, 1), (1, 29), (1, 27), (5, 55)]
set_option maxRecDepth 100000 in
theorem nV52 : kVM (nS nH52) nCl nZ0 nDflt nStrs nNcs nEX nCt nCods nHn nMt 52 = true := by decide +kernel
def nH53 : List (Nat × Nat) := [(2, 49), (1, 92), (1, 96), (1, 88), (1, 89), (1, 94), (2, 48), (1, 56), (1, 51), (1, 98), (5, 54), (5, 128), (5, 63), (5, 125), (5, 126), (5, 127), (5, 64), (5, 65), (1, 1), (1, 29), (1, 27), (5, 55)]
set_option maxRecDepth 100000 in
theorem nV53 : kVM (nS nH53) nCl nZ0 nDflt nStrs nNcs nEX nCt nCods nHn nMt 53 = true := by decide +kernel
def nH54 : List (Nat × Nat) := [(1, 191), (1, 76), (1, 179), (1, 204), (2, 155), (6, 31), (1, 192), (1, 193), (1, 34), (1, 35), (1, 189), (1, 190), (1, 21), (1, 6), (1, 187)]
set_option maxRecDepth 100000 in
theorem nV54 : kVM (nS nH54) nCl nZ0 nDflt nStrs nNcs nEX nCt nCods nHn nMt 54 = true := by decide +kernel
def nH55 : List (Nat × Nat) := [(1, 210), (1, 76), (1, 179), (1, 204), (2, 155), (6, 31), (1, 211), (1, 213), (1, 215), (1, 34), (1, 35), (1, 208), (1, 209), (1, 7), (1, 206), (1, 21)]
set_option maxRecDepth 100000 in
theorem nV55 : kVM (nS nH55) nCl nZ0 nDflt nStrs nNcs nEX nCt nCods nHn nMt 55 = true := by decide +kernel
def nH56 : List (Nat × Nat) := [(2, 83), (2, 84), (2, 85), (2, 86), (2, 81), (2, 82), (1, 4), (1, 137)]
set_option maxRecDepth 100000 in
theorem nV56 : kVM (nS nH56) nCl nZ0 nDflt nStrs nNcs nEX nCt nCods nHn nMt 56 = true := by decide +kernel
def nH57 : List (Nat × Nat) := [(1, 142), (1, 144), (2, 83), (2, 173), (2, 174), (2, 175), (1, 4), (1, 137)]
set_option maxRecDepth 100000 in
theorem nV57 : kVM (nS nH57) nCl nZ0 nDflt nStrs nNcs nEX nCt nCods nHn nMt 57 = true := by decide +kernel
def nH58 : List (Nat × Nat) := [(1, 230), (1, 148), (1, 231), (1, 196), (1, 234), (1, 218), (1, 238), (1, 239), (2, 1), (2, 2), (1, 235), (2, 187), (1, 237), (2, 188), (2, 189), (2, 184), (2, 185), (2, 186), (1, 5), (1, 181)]
set_option maxRecDepth 100000 in
theorem nV58 : kVM (nS nH58) nCl nZ0 nDflt nStrs nNcs nEX nCt nCods nHn nMt 58 = true := by decide +kernel
def nH59 : List (Nat × Nat) := [(2, 1), (1, 230), (1, 148), (1, 145), (2, 191), (2, 192), (2, 193), (1, 5), (1, 181)]
set_option maxRecDepth 100000 in
theorem nV59 : kVM (nS nH59) nCl nZ0 nDflt nStrs nNcs nEX nCt nCods nHn nMt 59 = true := by decide +kernel
