/-! THE LAW ANSWERS 1 AT EVERY SCRIPT OF ONE CALL: in the small machine -/
def nMx : Nat → Nat := fun i => (nMt i).2.2.1
def nJp (mi pc : Nat) : Bool := (mi == 57 && pc == 27) || (mi == 21 && pc == 2)
def nHa (L : Nat) : aH := [some (.inl (5, L, none)), some (.inl (4, 3, none)), none, none, none]
def aSz (c : aC) : Nat := match c with
  | none => 6
  | some (.inl (_, n, _)) => n
  | some (.inr (_, fs)) => fs.length
def nGood (r : aR) : Bool := match r.2.1 with
  | .inl (some (.int x)) => x == 1 && decide (r.2.2.length ≤ 100) && decide ((r.2.2.map aSz).sum ≤ 100000)
  | _ => false
def nBd (L : Nat) (fs : aF) : Bool := match aM 5 nDflt (mP' nCods) nHn nMx nJp 4000 12 16 0 [.ref 0] fs (nHa L) with
  | none => false
  | some rs => rs.all nGood
