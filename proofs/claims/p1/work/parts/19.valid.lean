/-! THE METHODS HOLD -/
set_option maxRecDepth 100000 in
theorem nV39 : kVM nTb nCl nZ0 nDflt nStrs nNcs nEX nCt nCods nHn nMt 39 = true := by decide +kernel
set_option maxRecDepth 100000 in
theorem nV40 : kVM nTb nCl nZ0 nDflt nStrs nNcs nEX nCt nCods nHn nMt 40 = true := by decide +kernel
set_option maxRecDepth 100000 in
theorem nV41 : kVM nTb nCl nZ0 nDflt nStrs nNcs nEX nCt nCods nHn nMt 41 = true := by decide +kernel
set_option maxRecDepth 100000 in
theorem nV42 : kVM nTb nCl nZ0 nDflt nStrs nNcs nEX nCt nCods nHn nMt 42 = true := by decide +kernel
set_option maxRecDepth 100000 in
theorem nV43 : kVM nTb nCl nZ0 nDflt nStrs nNcs nEX nCt nCods nHn nMt 43 = true := by decide +kernel
set_option maxRecDepth 100000 in
theorem nV44 : kVM nTb nCl nZ0 nDflt nStrs nNcs nEX nCt nCods nHn nMt 44 = true := by decide +kernel
set_option maxRecDepth 100000 in
theorem nV45 : kVM nTb nCl nZ0 nDflt nStrs nNcs nEX nCt nCods nHn nMt 45 = true := by decide +kernel
set_option maxRecDepth 100000 in
theorem nV46 : kVM nTb nCl nZ0 nDflt nStrs nNcs nEX nCt nCods nHn nMt 46 = true := by decide +kernel
set_option maxRecDepth 100000 in
theorem nV47 : kVM nTb nCl nZ0 nDflt nStrs nNcs nEX nCt nCods nHn nMt 47 = true := by decide +kernel
set_option maxRecDepth 100000 in
theorem nV48 : kVM nTb nCl nZ0 nDflt nStrs nNcs nEX nCt nCods nHn nMt 48 = true := by decide +kernel
set_option maxRecDepth 100000 in
theorem nV49 : kVM nTb nCl nZ0 nDflt nStrs nNcs nEX nCt nCods nHn nMt 49 = true := by decide +kernel
set_option maxRecDepth 100000 in
theorem nV50 : kVM nTb nCl nZ0 nDflt nStrs nNcs nEX nCt nCods nHn nMt 50 = true := by decide +kernel
set_option maxRecDepth 100000 in
theorem nV51 : kVM nTb nCl nZ0 nDflt nStrs nNcs nEX nCt nCods nHn nMt 51 = true := by decide +kernel
set_option maxRecDepth 100000 in
theorem nV52 : kVM nTb nCl nZ0 nDflt nStrs nNcs nEX nCt nCods nHn nMt 52 = true := by decide +kernel
set_option maxRecDepth 100000 in
theorem nV53 : kVM nTb nCl nZ0 nDflt nStrs nNcs nEX nCt nCods nHn nMt 53 = true := by decide +kernel
set_option maxRecDepth 100000 in
theorem nV54 : kVM nTb nCl nZ0 nDflt nStrs nNcs nEX nCt nCods nHn nMt 54 = true := by decide +kernel
set_option maxRecDepth 100000 in
theorem nV55 : kVM nTb nCl nZ0 nDflt nStrs nNcs nEX nCt nCods nHn nMt 55 = true := by decide +kernel
set_option maxRecDepth 100000 in
theorem nV56 : kVM nTb nCl nZ0 nDflt nStrs nNcs nEX nCt nCods nHn nMt 56 = true := by decide +kernel
set_option maxRecDepth 100000 in
theorem nV57 : kVM nTb nCl nZ0 nDflt nStrs nNcs nEX nCt nCods nHn nMt 57 = true := by decide +kernel
set_option maxRecDepth 100000 in
theorem nV58 : kVM nTb nCl nZ0 nDflt nStrs nNcs nEX nCt nCods nHn nMt 58 = true := by decide +kernel
set_option maxRecDepth 100000 in
theorem nV59 : kVM nTb nCl nZ0 nDflt nStrs nNcs nEX nCt nCods nHn nMt 59 = true := by decide +kernel
set_option maxRecDepth 100000 in
theorem nV60 : kVM nTb nCl nZ0 nDflt nStrs nNcs nEX nCt nCods nHn nMt 60 = true := by decide +kernel
set_option maxRecDepth 100000 in
theorem nV61 : kVM nTb nCl nZ0 nDflt nStrs nNcs nEX nCt nCods nHn nMt 61 = true := by decide +kernel
set_option maxRecDepth 100000 in
theorem nV62 : kVM nTb nCl nZ0 nDflt nStrs nNcs nEX nCt nCods nHn nMt 62 = true := by decide +kernel
set_option maxRecDepth 100000 in
theorem nV63 : kVM nTb nCl nZ0 nDflt nStrs nNcs nEX nCt nCods nHn nMt 63 = true := by decide +kernel
set_option maxRecDepth 100000 in
theorem nV64 : kVM nTb nCl nZ0 nDflt nStrs nNcs nEX nCt nCods nHn nMt 64 = true := by decide +kernel
set_option maxRecDepth 100000 in
theorem nV65 : kVM nTb nCl nZ0 nDflt nStrs nNcs nEX nCt nCods nHn nMt 65 = true := by decide +kernel
set_option maxRecDepth 100000 in
theorem nV66 : kVM nTb nCl nZ0 nDflt nStrs nNcs nEX nCt nCods nHn nMt 66 = true := by decide +kernel
set_option maxRecDepth 100000 in
theorem nV67 : kVM nTb nCl nZ0 nDflt nStrs nNcs nEX nCt nCods nHn nMt 67 = true := by decide +kernel
set_option maxRecDepth 100000 in
theorem nV68 : kVM nTb nCl nZ0 nDflt nStrs nNcs nEX nCt nCods nHn nMt 68 = true := by decide +kernel
set_option maxRecDepth 100000 in
theorem nV69 : kVM nTb nCl nZ0 nDflt nStrs nNcs nEX nCt nCods nHn nMt 69 = true := by decide +kernel
set_option maxRecDepth 100000 in
theorem nV70 : kVM nTb nCl nZ0 nDflt nStrs nNcs nEX nCt nCods nHn nMt 70 = true := by decide +kernel
set_option maxRecDepth 100000 in
theorem nV71 : kVM nTb nCl nZ0 nDflt nStrs nNcs nEX nCt nCods nHn nMt 71 = true := by decide +kernel
set_option maxRecDepth 100000 in
theorem nV72 : kVM nTb nCl nZ0 nDflt nStrs nNcs nEX nCt nCods nHn nMt 72 = true := by decide +kernel
set_option maxRecDepth 100000 in
theorem nV73 : kVM nTb nCl nZ0 nDflt nStrs nNcs nEX nCt nCods nHn nMt 73 = true := by decide +kernel
set_option maxRecDepth 100000 in
theorem nV74 : kVM nTb nCl nZ0 nDflt nStrs nNcs nEX nCt nCods nHn nMt 74 = true := by decide +kernel
theorem nVall (mi : Nat) (h : mP' nCods mi 0 ≠ none) : kVM nTb nCl nZ0 nDflt nStrs nNcs nEX nCt nCods nHn nMt mi = true := by
  match mi, h with
  | 0, _ => exact nV0
  | 1, _ => exact nV1
  | 2, _ => exact nV2
  | 3, _ => exact nV3
  | 4, _ => exact nV4
  | 5, _ => exact nV5
  | 6, _ => exact nV6
  | 7, _ => exact nV7
  | 8, _ => exact nV8
  | 9, _ => exact nV9
  | 10, _ => exact nV10
  | 11, _ => exact nV11
  | 12, _ => exact nV12
  | 13, _ => exact nV13
  | 14, _ => exact nV14
  | 15, _ => exact nV15
  | 16, _ => exact nV16
  | 17, _ => exact nV17
  | 18, _ => exact nV18
  | 19, _ => exact nV19
  | 20, _ => exact nV20
  | 21, _ => exact nV21
  | 22, _ => exact nV22
  | 23, _ => exact nV23
  | 24, _ => exact nV24
  | 25, _ => exact nV25
  | 26, _ => exact nV26
  | 27, _ => exact nV27
  | 28, _ => exact nV28
  | 29, _ => exact nV29
  | 30, _ => exact nV30
  | 31, _ => exact nV31
  | 32, _ => exact nV32
  | 33, _ => exact nV33
  | 34, _ => exact nV34
  | 35, _ => exact nV35
  | 36, _ => exact nV36
  | 37, _ => exact nV37
  | 38, _ => exact nV38
  | 39, _ => exact nV39
  | 40, _ => exact nV40
  | 41, _ => exact nV41
  | 42, _ => exact nV42
  | 43, _ => exact nV43
  | 44, _ => exact nV44
  | 45, _ => exact nV45
  | 46, _ => exact nV46
  | 47, _ => exact nV47
  | 48, _ => exact nV48
  | 49, _ => exact nV49
  | 50, _ => exact nV50
  | 51, _ => exact nV51
  | 52, _ => exact nV52
  | 53, _ => exact nV53
  | 54, _ => exact nV54
  | 55, _ => exact nV55
  | 56, _ => exact nV56
  | 57, _ => exact nV57
  | 58, _ => exact nV58
  | 59, _ => exact nV59
  | 60, _ => exact nV60
  | 61, _ => exact nV61
  | 62, _ => exact nV62
  | 63, _ => exact nV63
  | 64, _ => exact nV64
  | 65, _ => exact nV65
  | 66, _ => exact nV66
  | 67, _ => exact nV67
  | 68, _ => exact nV68
  | 69, _ => exact nV69
  | 70, _ => exact nV70
  | 71, _ => exact nV71
  | 72, _ => exact nV72
  | 73, _ => exact nV73
  | 74, _ => exact nV74
  | k + 75, h => exact absurd rfl h
theorem nOall (x : Nat) : ∃ xk, kOwn nTb (nEX x) xk = true := by
  match x with
  | 0 => exact ⟨_, nO0⟩
  | 1 => exact ⟨_, nO1⟩
  | 2 => exact ⟨_, nO2⟩
  | 3 => exact ⟨_, nO3⟩
  | k + 4 => exact ⟨_, nO0⟩
/-- every method of the table, at statics zv besides -/
theorem nVM (zv : List (String × String × String × Value)) (mi : Nat) (h : mP' nCods mi 0 ≠ none) : mVM nCl (nZ0 ++ zv) (mTs' nTb) nDflt nStrs nNcs nEX nCt (mP' nCods) nHn (fun i => (nMt i).2.2.1) nMt mi :=
  kVM_ok (List.all_eq_true.mp nCl_ok) nOall (nVall mi h)
