/-! THE METHODS HOLD -/
def nH180 : List (Nat × Nat) := [(5, 147), (6, 82), (6, 151), (5, 139), (5, 146), (5, 136), (5, 151), (5, 150), (6, 152), (6, 153), (6, 154), (15, 6), (6, 83), (6, 84), (6, 85), (14, 11), (6, 172), (6, 173), (6, 174), (15, 11), (1, 10), (5, 130)]
set_option maxRecDepth 100000 in
theorem nV180 : kVM (nS nH180) nCl nZ0 nDflt nStrs nNcs nEX nCt nCods nHn nMt 180 = true := by decide +kernel
def nH181 : List (Nat × Nat) := [(6, 184), (6, 185), (6, 186), (15, 14), (1, 10), (5, 130)]
set_option maxRecDepth 100000 in
theorem nV181 : kVM (nS nH181) nCl nZ0 nDflt nStrs nNcs nEX nCt nCods nHn nMt 181 = true := by decide +kernel
def nH182 : List (Nat × Nat) := [(1, 195), (1, 192), (1, 193), (2, 238), (2, 239), (3, 0), (1, 6), (1, 187)]
set_option maxRecDepth 100000 in
theorem nV182 : kVM (nS nH182) nCl nZ0 nDflt nStrs nNcs nEX nCt nCods nHn nMt 182 = true := by decide +kernel
def nH183 : List (Nat × Nat) := [(7, 188), (3, 21), (3, 18), (3, 19), (3, 20), (3, 22), (3, 23), (3, 24), (1, 17)]
set_option maxRecDepth 100000 in
theorem nV183 : kVM (nS nH183) nCl nZ0 nDflt nStrs nNcs nEX nCt nCods nHn nMt 183 = true := by decide +kernel
def nH184 : List (Nat × Nat) := [(3, 31), (7, 188), (3, 35), (3, 46), (3, 32), (3, 33), (3, 34), (3, 36), (3, 37), (3, 47), (3, 48), (3, 28), (3, 29), (3, 30), (1, 17)]
set_option maxRecDepth 100000 in
theorem nV184 : kVM (nS nH184) nCl nZ0 nDflt nStrs nNcs nEX nCt nCods nHn nMt 184 = true := by decide +kernel
def nH185 : List (Nat × Nat) := [(3, 71), (3, 72), (3, 73), (3, 74), (3, 68), (3, 69), (3, 70), (1, 17)]
set_option maxRecDepth 100000 in
theorem nV185 : kVM (nS nH185) nCl nZ0 nDflt nStrs nNcs nEX nCt nCods nHn nMt 185 = true := by decide +kernel
def nH186 : List (Nat × Nat) := [(1, 146), (1, 151), (1, 142), (3, 177), (3, 178), (3, 179), (1, 4), (1, 137)]
set_option maxRecDepth 100000 in
theorem nV186 : kVM (nS nH186) nCl nZ0 nDflt nStrs nNcs nEX nCt nCods nHn nMt 186 = true := by decide +kernel
def nH187 : List (Nat × Nat) := [(1, 230), (3, 180), (1, 238), (2, 226), (3, 227), (2, 228), (1, 236), (2, 9), (3, 224), (3, 225), (3, 226), (11, 12), (2, 131), (2, 132), (3, 181), (3, 182), (3, 183), (1, 5), (1, 181), (1, 14), (2, 88)]
set_option maxRecDepth 100000 in
theorem nV187 : kVM (nS nH187) nCl nZ0 nDflt nStrs nNcs nEX nCt nCods nHn nMt 187 = true := by decide +kernel
def nH188 : List (Nat × Nat) := [(1, 230), (2, 222), (2, 229), (2, 9), (1, 231), (1, 152), (3, 196), (2, 233), (3, 229), (3, 230), (3, 231), (11, 13), (2, 234), (2, 235), (2, 236), (11, 2), (2, 223), (2, 224), (2, 225), (3, 197), (3, 198), (3, 199), (2, 230), (2, 231), (2, 232), (1, 5), (1, 181)]
set_option maxRecDepth 100000 in
theorem nV188 : kVM (nS nH188) nCl nZ0 nDflt nStrs nNcs nEX nCt nCods nHn nMt 188 = true := by decide +kernel
def nH189 : List (Nat × Nat) := [(1, 230), (3, 180), (3, 192), (3, 204), (3, 208), (3, 209), (3, 210), (3, 181), (3, 182), (3, 183), (3, 205), (3, 206), (3, 207), (3, 189), (3, 190), (3, 191), (11, 10), (3, 193), (3, 194), (3, 195), (11, 11), (1, 5), (1, 181)]
set_option maxRecDepth 100000 in
theorem nV189 : kVM (nS nH189) nCl nZ0 nDflt nStrs nNcs nEX nCt nCods nHn nMt 189 = true := by decide +kernel
def nH190 : List (Nat × Nat) := [(3, 155), (3, 156), (1, 23)]
set_option maxRecDepth 100000 in
theorem nV190 : kVM (nS nH190) nCl nZ0 nDflt nStrs nNcs nEX nCt nCods nHn nMt 190 = true := by decide +kernel
def nH191 : List (Nat × Nat) := [(3, 159), (3, 160), (1, 23)]
set_option maxRecDepth 100000 in
theorem nV191 : kVM (nS nH191) nCl nZ0 nDflt nStrs nNcs nEX nCt nCods nHn nMt 191 = true := by decide +kernel
def nH192 : List (Nat × Nat) := [(3, 220), (3, 221), (3, 218), (3, 219), (1, 23)]
set_option maxRecDepth 100000 in
theorem nV192 : kVM (nS nH192) nCl nZ0 nDflt nStrs nNcs nEX nCt nCods nHn nMt 192 = true := by decide +kernel
def nH193 : List (Nat × Nat) := [(5, 172), (6, 208), (5, 173), (5, 174), (5, 175), (5, 159), (5, 176), (7, 134), (7, 135), (7, 136), (17, 6), (6, 209), (6, 210), (6, 211), (16, 0), (1, 10), (5, 130)]
set_option maxRecDepth 100000 in
theorem nV193 : kVM (nS nH193) nCl nZ0 nDflt nStrs nNcs nEX nCt nCods nHn nMt 193 = true := by decide +kernel
def nH194 : List (Nat × Nat) := [(7, 104), (5, 156), (5, 159), (7, 120), (6, 224), (6, 208), (5, 158), (5, 154), (6, 231), (6, 238), (5, 170), (5, 171), (6, 68), (7, 72), (7, 6), (7, 80), (5, 166), (5, 167), (7, 73), (7, 74), (7, 75), (16, 9), (6, 225), (6, 226), (6, 227), (16, 4), (6, 232), (6, 233), (7, 105), (7, 106), (7, 107), (17, 0), (7, 7), (7, 8), (7, 9), (16, 8), (7, 81), (7, 82), (7, 83), (16, 11), (7, 117), (7, 118), (7, 119), (17, 3), (7, 121), (7, 122), (7, 123), (17, 4), (6, 239), (7, 0), (7, 1), (16, 6), (6, 69), (6, 70), (6, 209), (6, 210), (6, 211), (16, 0), (1, 10), (5, 130)]
set_option maxRecDepth 100000 in
theorem nV194 : kVM (nS nH194) nCl nZ0 nDflt nStrs nNcs nEX nCt nCods nHn nMt 194 = true := by decide +kernel
def nH195 : List (Nat × Nat) := [(7, 126), (7, 127), (1, 10), (5, 130)]
set_option maxRecDepth 100000 in
theorem nV195 : kVM (nS nH195) nCl nZ0 nDflt nStrs nNcs nEX nCt nCods nHn nMt 195 = true := by decide +kernel
def nH196 : List (Nat × Nat) := [(6, 135), (7, 124), (6, 208), (5, 158), (7, 121), (7, 122), (7, 123), (17, 4), (6, 209), (6, 210), (6, 211), (16, 0), (1, 10), (5, 130)]
set_option maxRecDepth 100000 in
theorem nV196 : kVM (nS nH196) nCl nZ0 nDflt nStrs nNcs nEX nCt nCods nHn nMt 196 = true := by decide +kernel
def nH197 : List (Nat × Nat) := [(1, 101), (4, 142), (1, 103), (4, 108), (4, 139), (4, 140), (4, 141), (12, 9), (3, 218), (3, 219), (4, 11), (4, 12), (1, 3), (1, 78)]
set_option maxRecDepth 100000 in
theorem nV197 : kVM (nS nH197) nCl nZ0 nDflt nStrs nNcs nEX nCt nCods nHn nMt 197 = true := by decide +kernel
def nH198 : List (Nat × Nat) := [(1, 85), (4, 117), (4, 147), (1, 87), (4, 148), (4, 149), (3, 202), (3, 203), (3, 162), (3, 163), (3, 159), (3, 160), (4, 144), (4, 145), (4, 146), (12, 10), (1, 3), (1, 78)]
set_option maxRecDepth 100000 in
theorem nV198 : kVM (nS nH198) nCl nZ0 nDflt nStrs nNcs nEX nCt nCods nHn nMt 198 = true := by decide +kernel
def nH199 : List (Nat × Nat) := [(1, 85), (4, 148), (4, 113), (4, 149), (4, 154), (4, 151), (4, 152), (4, 153), (12, 11), (3, 159), (3, 160), (3, 162), (3, 163), (3, 148), (3, 149), (1, 3), (1, 78)]
set_option maxRecDepth 100000 in
theorem nV199 : kVM (nS nH199) nCl nZ0 nDflt nStrs nNcs nEX nCt nCods nHn nMt 199 = true := by decide +kernel
def nH200 : List (Nat × Nat) := [(1, 85), (4, 113), (1, 87), (4, 159), (4, 148), (4, 149), (3, 162), (3, 163), (3, 148), (3, 149), (3, 159), (3, 160), (4, 160), (4, 161), (4, 162), (12, 13), (4, 156), (4, 157), (4, 158), (12, 12), (1, 3), (1, 78)]
set_option maxRecDepth 100000 in
theorem nV200 : kVM (nS nH200) nCl nZ0 nDflt nStrs nNcs nEX nCt nCods nHn nMt 200 = true := by decide +kernel
def nH201 : List (Nat × Nat) := [(4, 159), (4, 171), (4, 172), (4, 154), (4, 173), (4, 174), (4, 175), (4, 176), (13, 0), (4, 168), (4, 169), (4, 170), (12, 15), (4, 160), (4, 161), (4, 162), (12, 13), (1, 3), (1, 78)]
set_option maxRecDepth 100000 in
theorem nV201 : kVM (nS nH201) nCl nZ0 nDflt nStrs nNcs nEX nCt nCods nHn nMt 201 = true := by decide +kernel
def nH202 : List (Nat × Nat) := [(1, 85), (4, 113), (4, 181), (4, 182), (4, 183), (4, 184), (13, 2), (4, 178), (4, 179), (4, 180), (13, 1), (3, 148), (3, 149), (1, 3), (1, 78)]
set_option maxRecDepth 100000 in
theorem nV202 : kVM (nS nH202) nCl nZ0 nDflt nStrs nNcs nEX nCt nCods nHn nMt 202 = true := by decide +kernel
def nH203 : List (Nat × Nat) := [(1, 85), (4, 113), (4, 160), (4, 161), (4, 162), (12, 13), (3, 148), (3, 149), (1, 3), (1, 78)]
set_option maxRecDepth 100000 in
theorem nV203 : kVM (nS nH203) nCl nZ0 nDflt nStrs nNcs nEX nCt nCods nHn nMt 203 = true := by decide +kernel
def nH204 : List (Nat × Nat) := [(1, 85), (4, 148), (4, 149), (4, 174), (4, 175), (4, 176), (13, 0), (3, 162), (3, 163), (3, 159), (3, 160), (1, 3), (1, 78)]
set_option maxRecDepth 100000 in
theorem nV204 : kVM (nS nH204) nCl nZ0 nDflt nStrs nNcs nEX nCt nCods nHn nMt 204 = true := by decide +kernel
def nH205 : List (Nat × Nat) := [(4, 173), (4, 154), (4, 182), (4, 183), (4, 184), (13, 2), (4, 174), (4, 175), (4, 176), (13, 0), (1, 3), (1, 78)]
set_option maxRecDepth 100000 in
theorem nV205 : kVM (nS nH205) nCl nZ0 nDflt nStrs nNcs nEX nCt nCods nHn nMt 205 = true := by decide +kernel
def nH206 : List (Nat × Nat) := [(4, 196), (4, 197), (1, 1), (1, 29)]
set_option maxRecDepth 100000 in
theorem nV206 : kVM (nS nH206) nCl nZ0 nDflt nStrs nNcs nEX nCt nCods nHn nMt 206 = true := by decide +kernel
def nH207 : List (Nat × Nat) := [(1, 85), (4, 113), (4, 148), (4, 149), (4, 203), (4, 204), (4, 205), (13, 6), (3, 162), (3, 163), (3, 159), (3, 160), (3, 148), (3, 149), (1, 3), (1, 78)]
set_option maxRecDepth 100000 in
theorem nV207 : kVM (nS nH207) nCl nZ0 nDflt nStrs nNcs nEX nCt nCods nHn nMt 207 = true := by decide +kernel
def nH208 : List (Nat × Nat) := [(4, 219), (1, 49), (1, 42), (4, 216), (4, 217), (4, 218), (4, 220), (4, 221), (4, 222), (13, 9), (1, 2), (1, 37)]
set_option maxRecDepth 100000 in
theorem nV208 : kVM (nS nH208) nCl nZ0 nDflt nStrs nNcs nEX nCt nCods nHn nMt 208 = true := by decide +kernel
def nH209 : List (Nat × Nat) := [(1, 99), (5, 7), (1, 85), (4, 118), (5, 8), (5, 9), (5, 10), (13, 15), (5, 4), (5, 5), (5, 6), (13, 14), (3, 137), (3, 138), (1, 3), (1, 78)]
set_option maxRecDepth 100000 in
theorem nV209 : kVM (nS nH209) nCl nZ0 nDflt nStrs nNcs nEX nCt nCods nHn nMt 209 = true := by decide +kernel
def nH210 : List (Nat × Nat) := [(1, 103), (4, 108), (1, 99), (5, 8), (5, 9), (5, 10), (13, 15), (4, 11), (4, 12), (1, 3), (1, 78)]
set_option maxRecDepth 100000 in
theorem nV210 : kVM (nS nH210) nCl nZ0 nDflt nStrs nNcs nEX nCt nCods nHn nMt 210 = true := by decide +kernel
def nH211 : List (Nat × Nat) := [(1, 87), (5, 3), (5, 4), (5, 5), (5, 6), (13, 14), (5, 16), (5, 17), (5, 18), (14, 1), (1, 3), (1, 78)]
set_option maxRecDepth 100000 in
theorem nV211 : kVM (nS nH211) nCl nZ0 nDflt nStrs nNcs nEX nCt nCods nHn nMt 211 = true := by decide +kernel
def nH212 : List (Nat × Nat) := [(5, 20), (5, 21), (1, 3), (1, 78)]
set_option maxRecDepth 100000 in
theorem nV212 : kVM (nS nH212) nCl nZ0 nDflt nStrs nNcs nEX nCt nCods nHn nMt 212 = true := by decide +kernel
def nH213 : List (Nat × Nat) := [(5, 35), (5, 36), (1, 26)]
set_option maxRecDepth 100000 in
theorem nV213 : kVM (nS nH213) nCl nZ0 nDflt nStrs nNcs nEX nCt nCods nHn nMt 213 = true := by decide +kernel
def nH214 : List (Nat × Nat) := [(6, 92), (6, 90), (6, 91), (6, 93), (6, 94), (1, 10), (5, 130)]
set_option maxRecDepth 100000 in
theorem nV214 : kVM (nS nH214) nCl nZ0 nDflt nStrs nNcs nEX nCt nCods nHn nMt 214 = true := by decide +kernel
def nH215 : List (Nat × Nat) := [(5, 137), (6, 55), (6, 65), (6, 95), (6, 111), (6, 108), (6, 109), (6, 110), (14, 14), (6, 56), (6, 57), (6, 96), (6, 97), (6, 66), (6, 67), (1, 10), (5, 130)]
set_option maxRecDepth 100000 in
theorem nV215 : kVM (nS nH215) nCl nZ0 nDflt nStrs nNcs nEX nCt nCods nHn nMt 215 = true := by decide +kernel
def nH216 : List (Nat × Nat) := [(6, 55), (5, 137), (5, 138), (6, 65), (6, 95), (6, 113), (6, 114), (6, 115), (14, 15), (6, 56), (6, 57), (6, 96), (6, 97), (6, 66), (6, 67), (1, 10), (5, 130)]
set_option maxRecDepth 100000 in
theorem nV216 : kVM (nS nH216) nCl nZ0 nDflt nStrs nNcs nEX nCt nCods nHn nMt 216 = true := by decide +kernel
def nH217 : List (Nat × Nat) := [(3, 25), (7, 189), (3, 22), (3, 23), (3, 24), (1, 17)]
set_option maxRecDepth 100000 in
theorem nV217 : kVM (nS nH217) nCl nZ0 nDflt nStrs nNcs nEX nCt nCods nHn nMt 217 = true := by decide +kernel
def nH218 : List (Nat × Nat) := [(3, 25), (7, 189), (3, 32), (3, 33), (3, 34), (1, 17)]
set_option maxRecDepth 100000 in
theorem nV218 : kVM (nS nH218) nCl nZ0 nDflt nStrs nNcs nEX nCt nCods nHn nMt 218 = true := by decide +kernel
def nH219 : List (Nat × Nat) := [(3, 38), (3, 36), (3, 37), (3, 39), (3, 40), (1, 18)]
set_option maxRecDepth 100000 in
theorem nV219 : kVM (nS nH219) nCl nZ0 nDflt nStrs nNcs nEX nCt nCods nHn nMt 219 = true := by decide +kernel
def nH220 : List (Nat × Nat) := [(3, 31), (7, 188), (3, 75), (3, 76), (3, 91), (3, 92), (3, 93), (3, 32), (3, 33), (3, 34), (3, 72), (3, 73), (3, 74), (3, 77), (3, 78), (3, 18), (3, 19), (3, 20), (1, 17)]
set_option maxRecDepth 100000 in
theorem nV220 : kVM (nS nH220) nCl nZ0 nDflt nStrs nNcs nEX nCt nCods nHn nMt 220 = true := by decide +kernel
def nH221 : List (Nat × Nat) := [(1, 230), (3, 180), (1, 239), (2, 218), (2, 222), (1, 157), (1, 237), (2, 229), (1, 231), (1, 152), (3, 196), (2, 226), (3, 200), (2, 228), (3, 201), (2, 219), (2, 220), (2, 221), (2, 223), (2, 224), (2, 225), (3, 181), (3, 182), (3, 183), (3, 197), (3, 198), (3, 199), (2, 131), (2, 132), (2, 230), (2, 231), (2, 232), (3, 202), (3, 203), (3, 193), (3, 194), (3, 195), (11, 11), (1, 5), (1, 181), (1, 14), (2, 88)]
set_option maxRecDepth 100000 in
theorem nV221 : kVM (nS nH221) nCl nZ0 nDflt nStrs nNcs nEX nCt nCods nHn nMt 221 = true := by decide +kernel
def nH222 : List (Nat × Nat) := [(1, 146), (1, 151), (1, 142), (3, 205), (3, 206), (3, 207), (1, 4), (1, 137)]
set_option maxRecDepth 100000 in
theorem nV222 : kVM (nS nH222) nCl nZ0 nDflt nStrs nNcs nEX nCt nCods nHn nMt 222 = true := by decide +kernel
def nH223 : List (Nat × Nat) := [(2, 226), (3, 211), (2, 228), (3, 212), (3, 213), (3, 214), (3, 215), (2, 131), (2, 132), (3, 209), (3, 210), (1, 5), (1, 181), (1, 14), (2, 88)]
set_option maxRecDepth 100000 in
theorem nV223 : kVM (nS nH223) nCl nZ0 nDflt nStrs nNcs nEX nCt nCods nHn nMt 223 = true := by decide +kernel
def nH224 : List (Nat × Nat) := [(4, 223), (4, 229), (4, 235), (4, 239), (5, 0), (5, 1), (5, 2), (13, 13), (4, 224), (4, 225), (4, 226), (13, 10), (4, 220), (4, 221), (4, 222), (13, 9), (4, 236), (4, 237), (4, 238), (13, 12), (4, 230), (4, 231), (4, 232), (13, 11), (1, 2), (1, 37)]
set_option maxRecDepth 100000 in
theorem nV224 : kVM (nS nH224) nCl nZ0 nDflt nStrs nNcs nEX nCt nCods nHn nMt 224 = true := by decide +kernel
def nH225 : List (Nat × Nat) := [(6, 93), (6, 94), (1, 10), (5, 130)]
set_option maxRecDepth 100000 in
theorem nV225 : kVM (nS nH225) nCl nZ0 nDflt nStrs nNcs nEX nCt nCods nHn nMt 225 = true := by decide +kernel
def nH226 : List (Nat × Nat) := [(3, 41), (3, 43), (3, 44), (3, 45), (3, 39), (3, 40), (1, 17)]
set_option maxRecDepth 100000 in
theorem nV226 : kVM (nS nH226) nCl nZ0 nDflt nStrs nNcs nEX nCt nCods nHn nMt 226 = true := by decide +kernel
def nH227 : List (Nat × Nat) := [(3, 79), (3, 82), (3, 85), (3, 88), (3, 86), (3, 87), (3, 80), (3, 81), (3, 77), (3, 78), (3, 89), (3, 90), (3, 83), (3, 84), (1, 18), (1, 21)]
set_option maxRecDepth 100000 in
theorem nV227 : kVM (nS nH227) nCl nZ0 nDflt nStrs nNcs nEX nCt nCods nHn nMt 227 = true := by decide +kernel
def nH228 : List (Nat × Nat) := [(1, 50), (4, 227), (4, 228), (3, 86), (3, 87), (3, 83), (3, 84), (4, 224), (4, 225), (4, 226), (13, 10), (1, 21), (1, 2), (1, 37)]
set_option maxRecDepth 100000 in
theorem nV228 : kVM (nS nH228) nCl nZ0 nDflt nStrs nNcs nEX nCt nCods nHn nMt 228 = true := by decide +kernel
def nH229 : List (Nat × Nat) := [(1, 50), (4, 233), (1, 45), (1, 44), (4, 234), (4, 230), (4, 231), (4, 232), (13, 11), (4, 60), (4, 61), (4, 196), (4, 197), (1, 2), (1, 37), (1, 24)]
set_option maxRecDepth 100000 in
theorem nV229 : kVM (nS nH229) nCl nZ0 nDflt nStrs nNcs nEX nCt nCods nHn nMt 229 = true := by decide +kernel
def nH230 : List (Nat × Nat) := [(1, 53), (4, 233), (1, 47), (1, 52), (1, 44), (4, 234), (4, 60), (4, 61), (4, 196), (4, 197), (4, 236), (4, 237), (4, 238), (13, 12), (1, 2), (1, 37), (1, 24)]
set_option maxRecDepth 100000 in
theorem nV230 : kVM (nS nH230) nCl nZ0 nDflt nStrs nNcs nEX nCt nCods nHn nMt 230 = true := by decide +kernel
def nH231 : List (Nat × Nat) := [(4, 233), (1, 44), (1, 48), (1, 55), (4, 234), (5, 0), (5, 1), (5, 2), (13, 13), (4, 60), (4, 61), (4, 196), (4, 197), (1, 2), (1, 37), (1, 24)]
set_option maxRecDepth 100000 in
theorem nV231 : kVM (nS nH231) nCl nZ0 nDflt nStrs nNcs nEX nCt nCods nHn nMt 231 = true := by decide +kernel
def nH232 : List (Nat × Nat) := [(3, 44), (3, 45), (1, 19)]
set_option maxRecDepth 100000 in
theorem nV232 : kVM (nS nH232) nCl nZ0 nDflt nStrs nNcs nEX nCt nCods nHn nMt 232 = true := by decide +kernel
def nH233 : List (Nat × Nat) := [(3, 80), (3, 81), (1, 18)]
set_option maxRecDepth 100000 in
theorem nV233 : kVM (nS nH233) nCl nZ0 nDflt nStrs nNcs nEX nCt nCods nHn nMt 233 = true := by decide +kernel
def nH234 : List (Nat × Nat) := [(3, 89), (3, 90), (1, 18)]
set_option maxRecDepth 100000 in
theorem nV234 : kVM (nS nH234) nCl nZ0 nDflt nStrs nNcs nEX nCt nCods nHn nMt 234 = true := by decide +kernel
def nH235 : List (Nat × Nat) := [(5, 135), (6, 33), (6, 34), (6, 35), (1, 10), (5, 130)]
set_option maxRecDepth 100000 in
theorem nV235 : kVM (nS nH235) nCl nZ0 nDflt nStrs nNcs nEX nCt nCods nHn nMt 235 = true := by decide +kernel
