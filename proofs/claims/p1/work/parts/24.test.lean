set_option maxRecDepth 100000 in
theorem tWithin (x : Int32) (h : mH) (hx : x < 1) : evM 5 nDflt (mP' nCods) nHn nMx 3 50 53 [.int x, .int 1, .int 8] h = some (.inl (some (.int 0)), h) := by
  cbv
  trace_state
  sorry
