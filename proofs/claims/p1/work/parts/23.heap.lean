/-! THE NEW MACHINE, EXPLICIT -/
def nFc : mH := [none,
  some (.inl (4, 3, .inl nBusy)),
  none,
  none,
  none,
  some (.inr (0, [.ref 6, .ref 7, .ref 12, .ref 14, .ref 16])),
  some (.inl (0, 200, .inl (fun _ => 0))),
  some (.inr (1, [.ref 6, .ref 8, .ref 9, .ref 10, .ref 11, .int 0, .int 0, .int 0, .int 0])),
  some (.inl (0, 60, .inl (fun _ => 0))),
  some (.inl (0, 24, .inl (fun _ => 0))),
  some (.inl (0, 48, .inl (fun _ => 0))),
  some (.inl (0, 3, .inl (fun _ => 0))),
  some (.inr (2, [.ref 6, .ref 7, .ref 13, .int 0, .int 0, .int 0, .int 1, .int 0, .int 0, .int 0, .int 0, .int 0, .int 0, .int 0, .int 0])),
  some (.inl (0, 9, .inl (fun _ => 0))),
  some (.inr (3, [.ref 15, .int 0, .int 0, .int 0, .int 0, .int 0, .long 0, .int 0, .int 0, .int 0])),
  some (.inl (2, 240, .inl (fun _ => 0))),
  some (.inr (4, [.ref 14, .ref 17, .ref 20, .ref 23, .ref 27, .ref 28, .ref 29, .int 0, .int 0, .int 0, .int 0, .int (-1), .int 0, .int 0, .int 0, .ref 2, .int 0, .int 0])),
  some (.inr (5, [.ref 18, .ref 19, .int 0])),
  some (.inl (1, 30, .inr (.inl (fun _ => 0)))),
  some (.inl (0, 30, .inl (fun _ => 0))),
  some (.inr (5, [.ref 21, .ref 22, .int 0])),
  some (.inl (1, 30, .inr (.inl (fun _ => 0)))),
  some (.inl (0, 30, .inl (fun _ => 0))),
  some (.inr (6, [.ref 24, .ref 25, .ref 26, .int 0])),
  some (.inl (0, 60, .inl (fun _ => 0))),
  some (.inl (0, 60, .inl (fun _ => 0))),
  some (.inl (0, 60, .inl (fun _ => 0))),
  some (.inl (0, 200, .inl (fun _ => 0))),
  some (.inl (0, 20, .inl (fun _ => 0))),
  some (.inl (0, 10, .inl (fun _ => 0)))]
set_option maxRecDepth 100000 in
set_option maxHeartbeats 4000000 in
theorem nR1_eq : nR1 = some (.inl none, nFc) := by
  unfold nR1 nFc
  cbv
