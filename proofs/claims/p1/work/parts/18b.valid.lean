/-! THE METHODS HOLD -/
set_option maxRecDepth 100000 in
theorem nV1 : kVM nTb nCl nZ0 nDflt nStrs nNcs nEX nCt nCods nHn nMt 1 = true := by decide +kernel
set_option maxRecDepth 100000 in
theorem nV2 : kVM nTb nCl nZ0 nDflt nStrs nNcs nEX nCt nCods nHn nMt 2 = true := by decide +kernel
set_option maxRecDepth 100000 in
theorem nV3 : kVM nTb nCl nZ0 nDflt nStrs nNcs nEX nCt nCods nHn nMt 3 = true := by decide +kernel
set_option maxRecDepth 100000 in
theorem nV4 : kVM nTb nCl nZ0 nDflt nStrs nNcs nEX nCt nCods nHn nMt 4 = true := by decide +kernel
set_option maxRecDepth 100000 in
theorem nV5 : kVM nTb nCl nZ0 nDflt nStrs nNcs nEX nCt nCods nHn nMt 5 = true := by decide +kernel
set_option maxRecDepth 100000 in
theorem nV6 : kVM nTb nCl nZ0 nDflt nStrs nNcs nEX nCt nCods nHn nMt 6 = true := by decide +kernel
set_option maxRecDepth 100000 in
theorem nV7 : kVM nTb nCl nZ0 nDflt nStrs nNcs nEX nCt nCods nHn nMt 7 = true := by decide +kernel
set_option maxRecDepth 100000 in
theorem nV8 : kVM nTb nCl nZ0 nDflt nStrs nNcs nEX nCt nCods nHn nMt 8 = true := by decide +kernel
set_option maxRecDepth 100000 in
theorem nV9 : kVM nTb nCl nZ0 nDflt nStrs nNcs nEX nCt nCods nHn nMt 9 = true := by decide +kernel
set_option maxRecDepth 100000 in
theorem nV10 : kVM nTb nCl nZ0 nDflt nStrs nNcs nEX nCt nCods nHn nMt 10 = true := by decide +kernel
set_option maxRecDepth 100000 in
theorem nV11 : kVM nTb nCl nZ0 nDflt nStrs nNcs nEX nCt nCods nHn nMt 11 = true := by decide +kernel
set_option maxRecDepth 100000 in
theorem nV12 : kVM nTb nCl nZ0 nDflt nStrs nNcs nEX nCt nCods nHn nMt 12 = true := by decide +kernel
set_option maxRecDepth 100000 in
theorem nV13 : kVM nTb nCl nZ0 nDflt nStrs nNcs nEX nCt nCods nHn nMt 13 = true := by decide +kernel
set_option maxRecDepth 100000 in
theorem nV14 : kVM nTb nCl nZ0 nDflt nStrs nNcs nEX nCt nCods nHn nMt 14 = true := by decide +kernel
set_option maxRecDepth 100000 in
theorem nV15 : kVM nTb nCl nZ0 nDflt nStrs nNcs nEX nCt nCods nHn nMt 15 = true := by decide +kernel
set_option maxRecDepth 100000 in
theorem nV16 : kVM nTb nCl nZ0 nDflt nStrs nNcs nEX nCt nCods nHn nMt 16 = true := by decide +kernel
set_option maxRecDepth 100000 in
theorem nV17 : kVM nTb nCl nZ0 nDflt nStrs nNcs nEX nCt nCods nHn nMt 17 = true := by decide +kernel
set_option maxRecDepth 100000 in
theorem nV18 : kVM nTb nCl nZ0 nDflt nStrs nNcs nEX nCt nCods nHn nMt 18 = true := by decide +kernel
set_option maxRecDepth 100000 in
theorem nV19 : kVM nTb nCl nZ0 nDflt nStrs nNcs nEX nCt nCods nHn nMt 19 = true := by decide +kernel
set_option maxRecDepth 100000 in
theorem nV20 : kVM nTb nCl nZ0 nDflt nStrs nNcs nEX nCt nCods nHn nMt 20 = true := by decide +kernel
set_option maxRecDepth 100000 in
theorem nV21 : kVM nTb nCl nZ0 nDflt nStrs nNcs nEX nCt nCods nHn nMt 21 = true := by decide +kernel
set_option maxRecDepth 100000 in
theorem nV22 : kVM nTb nCl nZ0 nDflt nStrs nNcs nEX nCt nCods nHn nMt 22 = true := by decide +kernel
set_option maxRecDepth 100000 in
theorem nV23 : kVM nTb nCl nZ0 nDflt nStrs nNcs nEX nCt nCods nHn nMt 23 = true := by decide +kernel
set_option maxRecDepth 100000 in
theorem nV24 : kVM nTb nCl nZ0 nDflt nStrs nNcs nEX nCt nCods nHn nMt 24 = true := by decide +kernel
set_option maxRecDepth 100000 in
theorem nV25 : kVM nTb nCl nZ0 nDflt nStrs nNcs nEX nCt nCods nHn nMt 25 = true := by decide +kernel
set_option maxRecDepth 100000 in
theorem nV26 : kVM nTb nCl nZ0 nDflt nStrs nNcs nEX nCt nCods nHn nMt 26 = true := by decide +kernel
set_option maxRecDepth 100000 in
theorem nV27 : kVM nTb nCl nZ0 nDflt nStrs nNcs nEX nCt nCods nHn nMt 27 = true := by decide +kernel
set_option maxRecDepth 100000 in
theorem nV28 : kVM nTb nCl nZ0 nDflt nStrs nNcs nEX nCt nCods nHn nMt 28 = true := by decide +kernel
set_option maxRecDepth 100000 in
theorem nV29 : kVM nTb nCl nZ0 nDflt nStrs nNcs nEX nCt nCods nHn nMt 29 = true := by decide +kernel
set_option maxRecDepth 100000 in
theorem nV30 : kVM nTb nCl nZ0 nDflt nStrs nNcs nEX nCt nCods nHn nMt 30 = true := by decide +kernel
set_option maxRecDepth 100000 in
theorem nV31 : kVM nTb nCl nZ0 nDflt nStrs nNcs nEX nCt nCods nHn nMt 31 = true := by decide +kernel
set_option maxRecDepth 100000 in
theorem nV32 : kVM nTb nCl nZ0 nDflt nStrs nNcs nEX nCt nCods nHn nMt 32 = true := by decide +kernel
set_option maxRecDepth 100000 in
theorem nV33 : kVM nTb nCl nZ0 nDflt nStrs nNcs nEX nCt nCods nHn nMt 33 = true := by decide +kernel
set_option maxRecDepth 100000 in
theorem nV34 : kVM nTb nCl nZ0 nDflt nStrs nNcs nEX nCt nCods nHn nMt 34 = true := by decide +kernel
set_option maxRecDepth 100000 in
theorem nV35 : kVM nTb nCl nZ0 nDflt nStrs nNcs nEX nCt nCods nHn nMt 35 = true := by decide +kernel
set_option maxRecDepth 100000 in
theorem nV36 : kVM nTb nCl nZ0 nDflt nStrs nNcs nEX nCt nCods nHn nMt 36 = true := by decide +kernel
set_option maxRecDepth 100000 in
theorem nV37 : kVM nTb nCl nZ0 nDflt nStrs nNcs nEX nCt nCods nHn nMt 37 = true := by decide +kernel
set_option maxRecDepth 100000 in
theorem nV38 : kVM nTb nCl nZ0 nDflt nStrs nNcs nEX nCt nCods nHn nMt 38 = true := by decide +kernel
