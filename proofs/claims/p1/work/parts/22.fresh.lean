/-! A NEW MACHINE AND A NEW REFERENCE, RUN CLOSED: no script is told -/
def nMx : Nat → Nat := fun i => (nMt i).2.2.1
def nHc : mH := [none, some (.inl (4, 3, .inl nBusy)), none, none, none]
def nR1 : Option (mO × mH) := evM 5 nDflt (mP' nCods) nHn nMx 15 3000 13 [.ref 5] (nHc ++ [some (.inr (0, nDflt 0))])
set_option maxRecDepth 100000 in
theorem nR1_ok : nR1.isSome = true := by decide +kernel
