/-! THE METHODS HOLD -/
theorem kL_two {f : Nat → mI → Bool} : ∀ {a b : List (Option mI)} {pc q : Nat}, kL f pc a = true → kL f q b = true → (hq : q = pc + a.length := by decide +kernel) → kL f pc (a ++ b) = true
  | [], b, pc, q, _, h2, hq => by subst hq; exact h2
  | none :: a, b, pc, q, h1, h2, hq => kL_two (a := a) (pc := pc + 1) h1 h2 (by rw [hq, List.length_cons]; omega)
  | some x :: a, b, pc, q, h1, h2, hq => by
    unfold kL at h1
    rw [Bool.and_eq_true] at h1
    show (f pc x && kL f (pc + 1) (a ++ b)) = true
    rw [h1.1, Bool.true_and]
    exact kL_two (a := a) h1.2 h2 (by rw [hq, List.length_cons]; omega)
def nH0 : List (Nat × Nat) := [(1, 28), (1, 30), (5, 129), (5, 131), (1, 76), (1, 179), (1, 204), (2, 155), (6, 31), (7, 185), (2, 71), (6, 191), (2, 63), (6, 196), (2, 176), (6, 200), (2, 67), (7, 149), (4, 70), (7, 153), (4, 95), (6, 36), (5, 37), (6, 187), (5, 46), (7, 157), (5, 70), (7, 161), (5, 77), (7, 165), (5, 85), (7, 169), (5, 97), (7, 173), (5, 113), (7, 177), (5, 121), (7, 181), (6, 32), (7, 178), (7, 179), (7, 180), (4, 96), (4, 97), (5, 114), (5, 115), (6, 197), (6, 198), (6, 199), (7, 154), (7, 155), (7, 156), (6, 188), (6, 189), (6, 190), (6, 33), (6, 34), (6, 35), (2, 64), (2, 65), (2, 66), (2, 68), (2, 69), (2, 70), (7, 166), (7, 167), (7, 168), (7, 150), (7, 151), (7, 152), (7, 182), (7, 183), (7, 184), (5, 71), (5, 72), (1, 31), (1, 32), (7, 174), (7, 175), (7, 176), (6, 201), (6, 202), (6, 203), (6, 192), (6, 193), (6, 194), (5, 98), (5, 99), (5, 78), (5, 79), (5, 132), (5, 133), (2, 177), (2, 178), (7, 170), (7, 171), (7, 172), (5, 47), (5, 48), (5, 38), (5, 39), (7, 158), (7, 159), (7, 160), (6, 37), (6, 38), (6, 39), (5, 122), (5, 123), (2, 72), (2, 73), (4, 71), (4, 72), (7, 162), (7, 163), (7, 164), (5, 86), (5, 87), (1, 10), (5, 130), (1, 0), (1, 1), (1, 29), (9, 0)]
set_option maxRecDepth 100000 in
theorem nV0_0 : kL (kE (nS nH0) nCl nZ0 nDflt nStrs nEX nHn nMt 0) 0 nC0_0 = true := by decide +kernel
set_option maxRecDepth 100000 in
theorem nV0_1 : kL (kE (nS nH0) nCl nZ0 nDflt nStrs nEX nHn nMt 0) 200 nC0_1 = true := by decide +kernel
set_option maxRecDepth 100000 in
theorem nV0_2 : kL (kE (nS nH0) nCl nZ0 nDflt nStrs nEX nHn nMt 0) 400 nC0_2 = true := by decide +kernel
set_option maxRecDepth 100000 in
theorem nV0_3 : kL (kE (nS nH0) nCl nZ0 nDflt nStrs nEX nHn nMt 0) 600 nC0_3 = true := by decide +kernel
set_option maxRecDepth 100000 in
theorem nV0_L : kL (kE (nS nH0) nCl nZ0 nDflt nStrs nEX nHn nMt 0) 0 (nCods 0) = true := by
  show kL (kE (nS nH0) nCl nZ0 nDflt nStrs nEX nHn nMt 0) 0 (nC0_0 ++ (nC0_1 ++ (nC0_2 ++ (nC0_3)))) = true
  exact kL_two nV0_0 (kL_two nV0_1 (kL_two nV0_2 (nV0_3)))
set_option maxRecDepth 100000 in
theorem nV0 : kVM (nS nH0) nCl nZ0 nDflt nStrs nNcs nEX nCt nCods nHn nMt 0 = true := by
  have hw : nS nH0 (mCW (nMt 0).1 (nMt 0).2.1 (nMt 0).2.2.1 (nMt 0).2.2.2 ((nHn 0).map (fun q => (q.1, q.2.1, q.2.2.1, nCt q.2.2.2)))) = true := by
    have hg : mGw (mCW (nMt 0).1 (nMt 0).2.1 (nMt 0).2.2.1 (nMt 0).2.2.2 ((nHn 0).map (fun q => (q.1, q.2.1, q.2.2.1, nCt q.2.2.2)))) = true := rfl
    unfold nS
    rw [hg, Bool.true_and]
    refine List.any_eq_true.mpr ⟨(9, 0), by decide, ?_⟩
    show (kPre (Jvm.Cond.code x code maxLocals ret) _ && decide (Jvm.Cond.code x code maxLocals ret = _)) = true
    rw [Bool.and_eq_true]
    exact ⟨by decide +kernel, decide_eq_true rfl⟩
  unfold kVM
  rw [nV0_L, Bool.true_and, hw]
  decide +kernel
