/-- the values of a post's new numbers -/
def rT1 (n t : Nat) (h : rH) (o : rO) (q : rQs) : Option Value :=
  match q.2.1, o with
  | .inl (some v), .inl (some w) => if rVn n v = some t then some w else (match q.2.2.1.find? (fun m => rVn n m.2.2 == some t) with
    | some m => rFd h.1 m.1 m.2.1
    | none => if rVn n q.2.2.2.1 = some t then some h.2 else none)
  | _, _ => match q.2.2.1.find? (fun m => rVn n m.2.2 == some t) with
    | some m => rFd h.1 m.1 m.2.1
    | none => if rVn n q.2.2.2.1 = some t then some h.2 else none
def rTau (n : Nat) (h : rH) (o : rO) (q : rQs) : Option (List Value) := rMap (fun t => rT1 n t h o q) (List.range q.1.length)
def rMr : List (Nat × Nat × Value) → List rC → List rC
  | [], h => h
  | q :: r, h => match rGt h q.1 with
    | some (some (.inr (ci, gs))) => rMr r (h.set (rX' q.1) (some (.inr (ci, gs.set q.2.1 q.2.2))))
    | _ => rMr r h
def rPo (n : Nat) (hP : rH) (r : rR) (q : rQs) : Bool := match rTau n r.2.2 r.2.1 q with
  | some τ => rOm r.1 n τ q.2.1 r.2.1 && rIr r.1 n τ τ (q.1.map (fun e => e.2)) && rMv r.1 n τ [q.2.2.2.1] [r.2.2.2] && q.2.2.2.2.all (fun e => match r.1[e.1]? with
    | some p => decide (e.1 < n) && decide (e.2.1 ≤ rLo r.1 6 p.1) && decide (rHi r.1 6 p.2 ≤ e.2.2)
    | none => false) && rMh r.1 n τ (rMr q.2.2.1 hP.1) r.2.2.1
  | none => false
def rPs (n : Nat) (hP : rH) (qs : List rQs) (rs : List rR) : Bool := rs.all (fun r => qs.any (rPo n hP r))
