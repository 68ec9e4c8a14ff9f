/-! WRITE, ERASE, ASSEMBLE in the law: two calls each, checked -/
def nKn (l : List rC) (N : Nat) : List rC := (l.set 10 (some (.inl (2, 240, 0, 65535)))).set 32 (some (.inr (1000, [.int 0, rMk N 0, .int 0, rMk N 0, .int 0, rMk N 0])))
def nUn (l : List rC) : List rC := (l.set 10 none).set 32 none
def nVi (o : rO) : Bool := match o with
  | .inl (some (.int _)) => true
  | .inl (some (.float _)) => true
  | _ => false
def nLc5 : mL := [(4, rMk 8 5), (0, .ref 0), (1, .ref 158), (2, .ref 183), (3, .ref 205)]
def nBk (r : rR) : Bool := rBack (23, nT, nLp, 8) (r.1, 23, nLc5, [], (nUn r.2.2.1, r.2.2.2))
abbrev nAcw : Nat → List Value → rF → rH → Option (List rR) := rCall 158 (rLk nLL) nHn (rHl [(4, 27, .inr (.inr 5))]) nJ1 nOr1 (rTab nTL) (rLm nLL) 3000 15
def nTwo (g : rF) (hp : List rC) (hl : Value) (c1 : Nat) (a1 : List Value) (c2 : Nat) (a2 : List Value) : Bool := match nAcw c1 a1 (g ++ [(0, 255)]) (nKn hp g.length, hl) with
  | none => false
  | some rs => rs.all (fun r1 => nVi r1.2.1 && (shB r1.2.2.1 && (match nAcw c2 a2 r1.1 r1.2.2 with
    | none => false
    | some rs2 => rs2.all (fun r2 => nVi r2.2.1 && nBk r2))))
/-- the length of both texts, and the old cells -/
def nOk (l : List rC) : Bool := oldB l && ((match rGt l 167, rGt l 183 with
  | some (some (.inr (3, gs))), some (some (.inr (7, hs))) => decide (gs[(1 : Nat)]? = some (rMk 26 0)) && decide (hs[(18 : Nat)]? = some (rMk 26 0))
  | _, _ => false) && (match rGt l 168, rGt l 190 with
  | some none, some none => true
  | _, _ => false))
def nCkk (q : rT ⊕ rR) : Bool := match q with
  | .inr _ => false
  | .inl t => (decide (t.2.2.1 = [(4, rMk 8 0), (0, .ref 0), (1, .ref 158), (2, .ref 183), (3, .ref 205)]) && decide (t.2.2.2.1 = [])) && (nOk t.2.2.2.2.1 && (shB (nKn t.2.2.2.2.1 t.1.length) && (decide (t.1.length ≤ 1000) && (if t.2.1 = 108 then decide (nWin t.2.2.2.2.1 = some [rMk 0 0, rMk 8 0, rMk 83 0, rMk 84 0, rMk 85 0, rMk 86 0, rMk 87 0, .double 88, rMk 89 0]) && (rSpl t.1 (rMk 86 0) [1, 2, 3, 4, 5, 6, 7, 8, 9]).all (fun g => nTwo g t.2.2.2.2.1 t.2.2.2.2.2 3 [.ref 158, .double 88, rMk 86 0, .ref 205] 4 [.ref 183, .double 88, rMk 86 0]) else if t.2.1 = 180 then nTwo t.1 t.2.2.2.2.1 t.2.2.2.2.2 5 [.ref 158] 6 [.ref 183] else if t.2.1 = 193 then nTwo t.1 t.2.2.2.2.1 t.2.2.2.2.2 7 [.ref 158, .ref 205] 8 [.ref 183] else true))))
set_option maxRecDepth 100000 in
theorem nCk_0 : rPcs nLF nCkk 0 16 = true := by decide +kernel
theorem nCkV : ∃ l, nLF = some l ∧ ∀ q ∈ l, nCkk q = true := rPcs_ok nLV_c (fun i hi => ⟨0, 16, by omega, by omega, nCk_0⟩)
set_option maxRecDepth 100000 in
theorem nTh_ok : nOk nTh = true := by decide +kernel
