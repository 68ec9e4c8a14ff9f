/-! WRITE, ERASE, ASSEMBLE, SYMBOL in the law: two calls each, checked -/
def nKs (l : List rC) : List rC := (((l.set 16 (some (.inl (1, 30, -9223372036854775808, 9223372036854775807)))).set 17 (some (.inl (0, 30, -2147483648, 2147483647)))).set 45 (some (.inl (1, 30, -9223372036854775808, 9223372036854775807)))).set 46 (some (.inl (0, 30, -2147483648, 2147483647)))
def nKn (l : List rC) (N : Nat) : List rC := ((nKs l).set 10 (some (.inl (2, 240, 0, 65535)))).set 32 (some (.inr (1000, [.int 0, rMk N 0, .int 0, rMk N 0, .int 0, rMk N 0])))
def nUn (l : List rC) : List rC := (((((l.set 10 none).set 32 none).set 16 none).set 17 none).set 45 none).set 46 none
def nVi (o : rO) : Bool := match o with
  | .inl (some (.int _)) => true
  | .inl (some (.float _)) => true
  | _ => false
def nLc5 : mL := [(4, rMk 8 5), (0, .ref 0), (1, .ref 158), (2, .ref 183), (3, .ref 205)]
def nBk (r : rR) : Bool := rBack (23, nT, nLp, 8) (r.1, 23, nLc5, [], (nUn r.2.2.1, r.2.2.2))
/-- both counts one number -/
def nMg (l : List rC) : List rC := match rGt l 173, rGt l 183 with
  | some (some (.inr (5, [_, _, v]))), some (some (.inr (7, gs))) => l.set 25 (some (.inr (7, gs.set 42 v)))
  | _, _ => l
def nBm (r : rR) : Bool := rBack (23, nT, nLp, 8) (r.1, 23, nLc5, [], (nMg (nUn r.2.2.1), r.2.2.2))
abbrev nAcw : Nat → List Value → rF → rH → Option (List rR) := rCall 158 (rLk nLL) nHn (rHl [(4, 27, .inr (.inr 5))]) nJ1 nOr1 (rTab nTL) (rLm nLL) 3000 15
def nTwo (bk : rR → Bool) (g : rF) (hp : List rC) (hl : Value) (c1 : Nat) (a1 : List Value) (c2 : Nat) (a2 : List Value) : Bool := match nAcw c1 a1 (g ++ [(0, 255)]) (nKn hp g.length, hl) with
  | none => false
  | some rs => rs.all (fun r1 => nVi r1.2.1 && (shB r1.2.2.1 && (match nAcw c2 a2 r1.1 r1.2.2 with
    | none => false
    | some rs2 => rs2.all (fun r2 => nVi r2.2.1 && (shB r2.2.2.1 && bk r2)))))
/-- the length of both texts, the number of symbols on both sides, and the old cells -/
def nOk (l : List rC) : Bool := oldB l && ((match rGt l 167, rGt l 173, rGt l 183 with
  | some (some (.inr (3, gs))), some (some (.inr (5, ks))), some (some (.inr (7, hs))) => (decide (gs[(1 : Nat)]? = some (rMk 26 0)) && decide (hs[(18 : Nat)]? = some (rMk 26 0))) && (decide (ks[(2 : Nat)]? = some (rMk 47 0)) && decide (hs[(42 : Nat)]? = some (rMk 47 0)))
  | _, _, _ => false) && (match rGt l 168, rGt l 190, rGt l 174, rGt l 175, rGt l 203, rGt l 204 with
  | some none, some none, some none, some none, some none, some none => true
  | _, _, _, _, _, _ => false))
def nWn : List Value := [rMk 0 0, rMk 8 0, rMk 82 0, rMk 83 0, rMk 84 0, rMk 85 0, rMk 86 0, .double 87, rMk 88 0]
def nCkk (q : rT ⊕ rR) : Bool := match q with
  | .inr _ => false
  | .inl t => (decide (t.2.2.1 = [(4, rMk 8 0), (0, .ref 0), (1, .ref 158), (2, .ref 183), (3, .ref 205)]) && decide (t.2.2.2.1 = [])) && (nOk t.2.2.2.2.1 && (shB (nKn t.2.2.2.2.1 t.1.length) && (decide (t.1.length ≤ 1000) && (if t.2.1 = 108 then decide (nWin t.2.2.2.2.1 = some nWn) && (rSpl t.1 (rMk 85 0) [1, 2, 3, 4, 5, 6, 7, 8, 9]).all (fun g => nTwo nBk g t.2.2.2.2.1 t.2.2.2.2.2 3 [.ref 158, .double 87, rMk 85 0, .ref 205] 4 [.ref 183, .double 87, rMk 85 0]) else if t.2.1 = 180 then nTwo nBk t.1 t.2.2.2.2.1 t.2.2.2.2.2 5 [.ref 158] 6 [.ref 183] else if t.2.1 = 193 then nTwo nBm t.1 t.2.2.2.2.1 t.2.2.2.2.2 7 [.ref 158, .ref 205] 8 [.ref 183] else if t.2.1 = 222 then decide (nWin t.2.2.2.2.1 = some nWn) && nTwo nBk t.1 t.2.2.2.2.1 t.2.2.2.2.2 11 [.ref 158, .double 87, .ref 205] 12 [.ref 183, .double 87] else true))))
set_option maxRecDepth 100000 in
theorem nCk_0 : rPcs nLF nCkk 0 2 = true := by decide +kernel
set_option maxRecDepth 100000 in
theorem nCk_1 : rPcs nLF nCkk 2 2 = true := by decide +kernel
set_option maxRecDepth 100000 in
theorem nCk_2 : rPcs nLF nCkk 4 2 = true := by decide +kernel
set_option maxRecDepth 100000 in
theorem nCk_3 : rPcs nLF nCkk 6 2 = true := by decide +kernel
set_option maxRecDepth 100000 in
theorem nCk_4 : rPcs nLF nCkk 8 2 = true := by decide +kernel
set_option maxRecDepth 100000 in
theorem nCk_5 : rPcs nLF nCkk 10 2 = true := by decide +kernel
set_option maxRecDepth 100000 in
theorem nCk_6 : rPcs nLF nCkk 12 2 = true := by decide +kernel
set_option maxRecDepth 100000 in
theorem nCk_7 : rPcs nLF nCkk 14 2 = true := by decide +kernel
theorem nCkV : ∃ l, nLF = some l ∧ ∀ q ∈ l, nCkk q = true := rPcs_ok nLV_c (fun i hi => if h0 : i < 2 then ⟨0, 2, by omega, by omega, nCk_0⟩ else if h1 : i < 4 then ⟨2, 2, by omega, by omega, nCk_1⟩ else if h2 : i < 6 then ⟨4, 2, by omega, by omega, nCk_2⟩ else if h3 : i < 8 then ⟨6, 2, by omega, by omega, nCk_3⟩ else if h4 : i < 10 then ⟨8, 2, by omega, by omega, nCk_4⟩ else if h5 : i < 12 then ⟨10, 2, by omega, by omega, nCk_5⟩ else if h6 : i < 14 then ⟨12, 2, by omega, by omega, nCk_6⟩ else ⟨14, 2, by omega, by omega, nCk_7⟩)
set_option maxRecDepth 100000 in
theorem nTh_ok : nOk nTh = true := by decide +kernel
