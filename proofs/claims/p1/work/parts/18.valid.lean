/-! THE METHODS HOLD -/
theorem kL_two {f : Nat → mI → Bool} : ∀ {a b : List (Option mI)} {pc q : Nat}, kL f pc a = true → kL f q b = true → (hq : q = pc + a.length := by decide +kernel) → kL f pc (a ++ b) = true
  | [], b, pc, q, _, h2, hq => by subst hq; exact h2
  | none :: a, b, pc, q, h1, h2, hq => kL_two (a := a) (pc := pc + 1) h1 h2 (by rw [hq, List.length_cons]; omega)
  | some x :: a, b, pc, q, h1, h2, hq => by
    unfold kL at h1
    rw [Bool.and_eq_true] at h1
    show (f pc x && kL f (pc + 1) (a ++ b)) = true
    rw [h1.1, Bool.true_and]
    exact kL_two (a := a) h1.2 h2 (by rw [hq, List.length_cons]; omega)
set_option maxRecDepth 100000 in
theorem nV0_0 : kL (kE nTb nCl nZ0 nDflt nStrs nEX nHn nMt 0) 0 nC0_0 = true := by decide +kernel
set_option maxRecDepth 100000 in
theorem nV0_1 : kL (kE nTb nCl nZ0 nDflt nStrs nEX nHn nMt 0) 200 nC0_1 = true := by decide +kernel
set_option maxRecDepth 100000 in
theorem nV0_2 : kL (kE nTb nCl nZ0 nDflt nStrs nEX nHn nMt 0) 400 nC0_2 = true := by decide +kernel
set_option maxRecDepth 100000 in
theorem nV0_3 : kL (kE nTb nCl nZ0 nDflt nStrs nEX nHn nMt 0) 600 nC0_3 = true := by decide +kernel
set_option maxRecDepth 100000 in
theorem nV0_4 : kL (kE nTb nCl nZ0 nDflt nStrs nEX nHn nMt 0) 800 nC0_4 = true := by decide +kernel
set_option maxRecDepth 100000 in
theorem nV0_L : kL (kE nTb nCl nZ0 nDflt nStrs nEX nHn nMt 0) 0 (nCods 0) = true := by
  show kL (kE nTb nCl nZ0 nDflt nStrs nEX nHn nMt 0) 0 (nC0_0 ++ (nC0_1 ++ (nC0_2 ++ (nC0_3 ++ (nC0_4))))) = true
  exact kL_two nV0_0 (kL_two nV0_1 (kL_two nV0_2 (kL_two nV0_3 (nV0_4))))
set_option maxRecDepth 100000 in
theorem nV0 : kVM nTb nCl nZ0 nDflt nStrs nNcs nEX nCt nCods nHn nMt 0 = true := by
  have hw : kM nTb (mCW (nMt 0).1 (nMt 0).2.1 (nMt 0).2.2.1 (nMt 0).2.2.2 ((nHn 0).map (fun q => (q.1, q.2.1, q.2.2.1, nCt q.2.2.2)))) = true := by
    have hm : mCW (nMt 0).1 (nMt 0).2.1 (nMt 0).2.2.1 (nMt 0).2.2.2 ((nHn 0).map (fun q => (q.1, q.2.1, q.2.2.1, nCt q.2.2.2))) ∈ nTb := List.mem_cons_self
    unfold kM
    rw [decide_eq_true hm]
    rfl
  unfold kVM
  rw [nV0_L, Bool.true_and, hw]
  decide +kernel
