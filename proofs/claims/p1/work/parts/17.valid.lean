/-! THE TABLES HOLD -/
def nTb : List Cond := Jvm.Cond.code x code maxLocals ret :: lw_tbl
set_option maxRecDepth 100000
theorem nCl_ok : nCl.all (kCl nTb) = true := by decide +kernel
theorem nO0 : kOwn nTb (nEX 0) = true := by decide +kernel
theorem nO1 : kOwn nTb (nEX 1) = true := by decide +kernel
theorem nO2 : kOwn nTb (nEX 2) = true := by decide +kernel
theorem nO3 : kOwn nTb (nEX 3) = true := by decide +kernel
theorem nV13 : kVM nTb nCl nZ0 nDflt nStrs nNcs nEX nCt nCods nHn nMt 13 = true := by decide +kernel
