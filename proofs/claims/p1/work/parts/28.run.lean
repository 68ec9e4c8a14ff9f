set_option maxRecDepth 1000000 in
theorem nB0 : nBd 0 [] = true := by decide +kernel
set_option maxRecDepth 1000000 in
theorem nB1 : nBd 1 [] = true := by decide +kernel
set_option maxRecDepth 1000000 in
theorem nB2 : nBd 2 [] = true := by decide +kernel
set_option maxRecDepth 1000000 in
theorem nB3 : nBd 3 [] = true := by decide +kernel
set_option maxRecDepth 1000000 in
theorem nB4 : nBd 4 [] = true := by decide +kernel
set_option maxRecDepth 1000000 in
theorem nB5w : nBd 5 [(5, [(0, 0)])] = true := by decide +kernel
set_option maxRecDepth 1000000 in
theorem nB5x : nBd 5 [(5, [(1, 1), (3, 10)])] = true := by decide +kernel
set_option maxRecDepth 1000000 in
theorem nB5y : nBd 5 [(5, [(2, 2)])] = true := by decide +kernel
set_option maxRecDepth 1000000 in
theorem nB5z : nBd 5 [(5, [(11, 15)])] = true := by decide +kernel
