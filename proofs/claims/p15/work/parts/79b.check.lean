/-! TWO CALLS of every case, checked -/
def nKn (l : List rC) (N : Nat) : List rC := (l.set 10 (some (.inl (2, 240, 0, 65535)))).set 32 (some (.inr (1000, [.int 0, rMk N 0, .int 0, rMk N 0, .int 0, rMk N 0])))
def nUn (l : List rC) : List rC := (l.set 10 none).set 32 none
def nVi (o : rO) : Bool := match o with
  | .inl (some (.int _)) => true
  | .inl (some (.float _)) => true
  | _ => false
def nLc5 : mL := [(4, rMk 8 5), (0, .ref 0), (1, .ref 158), (2, .ref 183), (3, .ref 205)]
def nBk (r : rR) : Bool := rBack (23, nT, nLp, 8) (r.1, 23, nLc5, [], (nUn r.2.2.1, r.2.2.2))
abbrev nAcw : Nat → List Value → rF → rH → Option (List rR) := rCall 158 (rLk nLL) nHn (rHl [(4, 27, .inr (.inr 5)), (51, 0, .inr (.inl ((0, 160, 8), [1, 2, 3, 4, 5, 6, 7, 8], (0, 0, 0)))), (12, 7, .inl ([(2, 3, 0, 0, 30, 0, 0)], [0, 1], (0, 1), (0, 0, 0)))]) nJ1 nOr1 (rTab nTL) (rLm nLL) 3000 15
def nTwo (g : rF) (hp : List rC) (hl : Value) (c1 : Nat) (a1 : List Value) (c2 : Nat) (a2 : List Value) : Bool := match nAcw c1 a1 (g ++ [(0, 255)]) (nKn hp g.length, hl) with
  | none => false
  | some rs => rs.all (fun r1 => nVi r1.2.1 && (shB r1.2.2.1 && (match nAcw c2 a2 r1.1 r1.2.2 with
    | none => false
    | some rs2 => rs2.all (fun r2 => nVi r2.2.1 && (shB r2.2.2.1 && nBk r2)))))
abbrev nHp0 : List rC := nTh.set 48 (some nWc)
abbrev nG0 : rF := nTf.set 8 (0, 2555) ++ nWf
set_option maxRecDepth 100000 in
theorem nG0_len : nG0.length = 90 := by decide +kernel
set_option maxRecDepth 100000 in
theorem shB0 : shB (nKn nHp0 90) = true := by decide +kernel
set_option maxRecDepth 100000 in
theorem ckd : rBack (23, nT, nLp, 8) (nG0, 23, nLc5, [], (nUn nHp0, rMk 9 0)) = true := by decide +kernel
set_option maxRecDepth 100000 in
theorem ck0 : (rSpl nG0 (rMk 86 0) [1, 2, 3, 4, 5, 6, 7, 8, 9]).all (fun g => nTwo g nHp0 (rMk 9 0) 3 [.ref 158, .double 88, rMk 86 0, .ref 205] 4 [.ref 183, .double 88, rMk 86 0]) = true := by decide +kernel
set_option maxRecDepth 100000 in
theorem ck1 : nTwo nG0 nHp0 (rMk 9 0) 5 [.ref 158] 6 [.ref 183] = true := by decide +kernel
set_option maxRecDepth 100000 in
theorem ck2 : nTwo nG0 nHp0 (rMk 9 0) 7 [.ref 158, .ref 205] 8 [.ref 183] = true := by decide +kernel
set_option maxRecDepth 100000 in
theorem ck3 : nTwo nG0 nHp0 (rMk 9 0) 9 [.ref 158] 10 [.ref 183] = true := by decide +kernel
set_option maxRecDepth 100000 in
theorem ck4 : nTwo nG0 nHp0 (rMk 9 0) 11 [.ref 158, .double 88, .ref 205] 12 [.ref 183, .double 88] = true := by decide +kernel
set_option maxRecDepth 100000 in
theorem ck5 : nTwo nG0 nHp0 (rMk 9 0) 13 [.ref 158, rMk 84 0, .ref 205] 14 [.ref 183, rMk 84 0] = true := by decide +kernel
set_option maxRecDepth 100000 in
theorem ck6 : nTwo nG0 nHp0 (rMk 9 0) 15 [.ref 158, rMk 84 0, .ref 205] 16 [.ref 183, rMk 84 0] = true := by decide +kernel
set_option maxRecDepth 100000 in
theorem ck7 : nTwo nG0 nHp0 (rMk 9 0) 17 [.ref 158, rMk 84 0, rMk 85 0, .ref 205] 18 [.ref 183, rMk 84 0, rMk 85 0] = true := by decide +kernel
set_option maxRecDepth 100000 in
theorem ck8 : nTwo nG0 nHp0 (rMk 9 0) 19 [.ref 158, rMk 84 0, .ref 205] 20 [.ref 183, rMk 84 0] = true := by decide +kernel
set_option maxRecDepth 100000 in
theorem ck9 : nTwo nG0 nHp0 (rMk 9 0) 21 [.ref 158, rMk 84 0, .ref 205] 22 [.ref 183, rMk 84 0] = true := by decide +kernel
set_option maxRecDepth 100000 in
theorem ck10 : nTwo nG0 nHp0 (rMk 9 0) 23 [.ref 158, rMk 84 0, rMk 85 0, rMk 86 0, rMk 87 0, .ref 205] 24 [.ref 183, rMk 84 0, rMk 85 0, rMk 86 0, rMk 87 0] = true := by decide +kernel
set_option maxRecDepth 100000 in
theorem ck11 : nTwo nG0 nHp0 (rMk 9 0) 25 [.ref 158, rMk 84 0, rMk 85 0, .ref 205] 26 [.ref 183, rMk 84 0, rMk 85 0] = true := by decide +kernel
set_option maxRecDepth 100000 in
theorem ck12 : nTwo nG0 nHp0 (rMk 9 0) 27 [.ref 158, rMk 84 0, rMk 85 0, .ref 205] 28 [.ref 183, rMk 84 0, rMk 85 0] = true := by decide +kernel
set_option maxRecDepth 100000 in
theorem ck13 : nTwo nG0 nHp0 (rMk 9 0) 29 [.ref 158, rMk 84 0, .ref 205] 30 [.ref 183, rMk 84 0] = true := by decide +kernel
