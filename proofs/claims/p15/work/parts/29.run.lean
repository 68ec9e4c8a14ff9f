/-! THE MACHINE WITH RANGES: patterns, loops, contracts, runs -/
/-- a code for a bound: at least (at most) the number j and c more -/
def rKl' (j : Nat) (c : Int) : Int := -(100000000000000000000 + (j : Int) * 1000000 + (c + 500000))
def rKu' (j : Nat) (c : Int) : Int := 100000000000000000000 + (j : Int) * 1000000 + (c + 500000)
/-- a pattern's value, its numbers from n on told by σ -/
def rSu (n : Nat) (σ : List Value) (v : Value) : Option Value := match v with
  | .float b => if rId b < n then some v else match σ[rId b - n]? with
    | some (.int x) => some (.int (x + Int32.ofInt (rOf b)))
    | some (.float c) => if -30000 ≤ rOf c + rOf b ∧ rOf c + rOf b ≤ 30000 then some (rMk (rId c) (rOf c + rOf b)) else none
    | _ => none
  | .double b => if b.toNat < n then some v else match σ[b.toNat - n]? with
    | some (.long x) => some (.long x)
    | some (.double c) => some (.double c)
    | _ => none
  | .retAddr j => if j < n then some v else match σ[j - n]? with
    | some (.ref a) => some (.ref a)
    | some (.retAddr c) => some (.retAddr c)
    | _ => none
  | v => some v
def rQ (fs : rF) (x y : Value) : Bool := match x, y with
  | .long a, .long b => a == b
  | .double a, .double b => a == b
  | .ref a, .ref b => a == b
  | .retAddr a, .retAddr b => a == b
  | .null, .null => true
  | x, y => rEq fs x y
/-- does it match: values, locals, cells -/
def rMv (fs : rF) (n : Nat) (σ : List Value) : List Value → List Value → Bool
  | [], [] => true
  | p :: ps, v :: vs => (match rSu n σ p with
    | some w => rQ fs w v
    | none => false) && rMv fs n σ ps vs
  | _, _ => false
def rMl (fs : rF) (n : Nat) (σ : List Value) (lv : mL) : mL → Bool
  | [] => true
  | q :: ps => (match rSu n σ q.2, mLd lv q.1 with
    | some w, some v => rQ fs w v
    | _, _ => false) && rMl fs n σ lv ps
def rMc (fs : rF) (n : Nat) (σ : List Value) (a b : rC) : Bool := match a, b with
  | none, none => true
  | some (.inl (k, m, l, u)), some (.inl (k', m', l', u')) => k == k' && m == m' && decide (l = l') && decide (u = u')
  | some (.inr (c, ps)), some (.inr (d, vs)) => c == d && rMv fs n σ ps vs
  | _, _ => false
def rMh (fs : rF) (n : Nat) (σ : List Value) : List rC → List rC → Bool
  | [], [] => true
  | a :: r, b :: t => rMc fs n σ a b && rMh fs n σ r t
  | _, _ => false
/-- a pattern that may know less -/
def rMq (fs : rF) (σ : List Value) : List rC → List rC → Bool
  | [], _ => true
  | none :: r, _ :: t => rMq fs σ r t
  | some a :: r, b :: t => rMc fs 0 σ (some a) b && rMq fs σ r t
  | _ :: _, [] => false
/-- the range of any value -/
def rRa (fs : rF) (v : Value) : Option (Int × Int) := match v with
  | .int _ => rRg fs v
  | .float _ => rRg fs v
  | .long _ => rRl fs v
  | .double _ => rRl fs v
  | .ref a => some ((a : Int), (a : Int))
  | .retAddr j => fs[j]?
  | .null => none
/-- number i and o more is at least (at most) number t and c more -/
def rGe (fs : rF) : Nat → Nat → Int → Nat → Int → Bool
  | 0, i, o, t, c => i == t && decide (c ≤ o)
  | n + 1, i, o, t, c => if i = t then decide (c ≤ o) else match fs[i]? with
    | some q => (match rCl q.1 with
      | some jc => rGe fs n jc.1 (o + jc.2) t c
      | none => false)
    | none => false
def rLe (fs : rF) : Nat → Nat → Int → Nat → Int → Bool
  | 0, i, o, t, c => i == t && decide (o ≤ c)
  | n + 1, i, o, t, c => if i = t then decide (o ≤ c) else match fs[i]? with
    | some q => (match rCu q.2 with
      | some jc => rLe fs n jc.1 (o + jc.2) t c
      | none => false)
    | none => false
/-- v is at least (at most) number t of the pattern and c more -/
def rVge (fs : rF) (n : Nat) (σ : List Value) (v : Value) (t : Nat) (c : Int) : Bool := match v, rSu n σ (rMk t 0) with
  | .float b, some (.float d) => rGe fs 8 (rId b) (rOf b) (rId d) (rOf d + c)
  | v, some w => (match rRg fs v, rRg fs w with
    | some p, some q => decide (q.2 + c ≤ p.1)
    | _, _ => false)
  | _, none => false
def rVle (fs : rF) (n : Nat) (σ : List Value) (v : Value) (t : Nat) (c : Int) : Bool := match v, rSu n σ (rMk t 0) with
  | .float b, some (.float d) => rLe fs 8 (rId b) (rOf b) (rId d) (rOf d + c)
  | v, some w => (match rRg fs v, rRg fs w with
    | some p, some q => decide (p.2 ≤ q.1 + c)
    | _, _ => false)
  | _, none => false
/-- is v within the range q of a pattern -/
def rIl (fs : rF) (n : Nat) (σ : List Value) (v : Value) (l : Int) : Bool := match rCl l with
  | some jc => decide (jc.1 < 65536) && (rVge fs n σ v jc.1 jc.2 && (match rRa fs v with
    | some p => decide (rL0 ≤ p.1)
    | none => false))
  | none => match rRa fs v with
    | some p => decide (l ≤ p.1)
    | none => false
def rIu (fs : rF) (n : Nat) (σ : List Value) (v : Value) (u : Int) : Bool := match rCu u with
  | some jc => decide (jc.1 < 65536) && (rVle fs n σ v jc.1 jc.2 && (match rRa fs v with
    | some p => decide (p.2 ≤ rL1)
    | none => false))
  | none => match rRa fs v with
    | some p => decide (p.2 ≤ u)
    | none => false
def rIr (fs : rF) (n : Nat) (σ : List Value) : List Value → rF → Bool
  | [], [] => true
  | v :: vs, q :: qs => rIl fs n σ v q.1 && rIu fs n σ v q.2 && rIr fs n σ vs qs
  | _, _ => false
/-! contracts -/
def rAll {α β : Type} (f : α → Option (List β)) : List α → Option (List β)
  | [] => some []
  | a :: r => match f a with
    | none => none
    | some l => match rAll f r with
      | none => none
      | some m => some (l ++ m)
/-- a post: its new numbers (kind 0 int, 1 long, 2 reference; range), the answer, what is changed, the thrown objects, ranges of old numbers -/
abbrev rQs : Type := List (Nat × Int × Int) × rO × List (Nat × Nat × Value) × Value × List (Nat × Int × Int)
/-- a contract: how deep, ranges, where its numbers stand, arguments, the heap, posts -/
abbrev rCo : Type := Nat × rF × List (Nat × Nat) × List Value × rH × List rQs
def rFd (h : List rC) (c f : Nat) : Option Value := match rGt h c with
  | some (some (.inr (_, gs))) => gs[f]?
  | _ => none
def rSg (h : List rC) (l : List (Nat × Nat)) : List Value := l.filterMap (fun q => rFd h q.1 q.2)
def rUk (v : Value) : Bool := match v with
  | .float _ => true
  | .double _ => true
  | .retAddr _ => true
  | _ => false
def rSa : List Value → List Value → List Value
  | p :: ps, v :: vs => if rUk p = true then v :: rSa ps vs else rSa ps vs
  | _, _ => []
def rNk (k len : Nat) : Value := match k with
  | 0 => rMk len 0
  | 1 => .double (UInt64.ofNat len)
  | _ => .retAddr len
def rNw (len : Nat) : List (Nat × Int × Int) → List Value
  | [] => []
  | q :: r => rNk q.1 len :: rNw (len + 1) r
def rTb (σ : List Value) (l : Int) : Option Int := match rCl l with
  | none => some l
  | some jc => match σ[jc.1]? with
    | some (.int x) => some (x.toInt + jc.2)
    | some (.float b) => if -460000 ≤ jc.2 ∧ jc.2 ≤ 460000 then some (rKl' (rId b) (rOf b + jc.2)) else none
    | _ => none
def rTu (σ : List Value) (u : Int) : Option Int := match rCu u with
  | none => some u
  | some jc => match σ[jc.1]? with
    | some (.int x) => some (x.toInt + jc.2)
    | some (.float b) => if -460000 ≤ jc.2 ∧ jc.2 ≤ 460000 then some (rKu' (rId b) (rOf b + jc.2)) else none
    | _ => none
def rTe (σ : List Value) (e : Nat × Int × Int) : Option (Int × Int) := match rTb σ e.2.1, rTu σ e.2.2 with
  | some a, some b => some (a, b)
  | _, _ => none
def rMd (σ : List Value) : List (Nat × Nat × Value) → List rC → Option (List rC)
  | [], h => some h
  | q :: r, h => match rGt h q.1, rSu 0 σ q.2.2 with
    | some (some (.inr (ci, gs))), some w => rMd σ r (h.set (rX' q.1) (some (.inr (ci, gs.set q.2.1 w))))
    | _, _ => none
def rOs (σ : List Value) (o : rO) : Option rO := match o with
  | .inl none => some (.inl none)
  | .inl (some v) => (rSu 0 σ v).map (fun w => .inl (some w))
  | .inr x => some (.inr x)
/-- the ranges of old numbers; none: it cannot be -/
def rCs (σ : List Value) : List (Nat × Int × Int) → rF → Option rF
  | [], fs => some fs
  | q :: r, fs => match σ[q.1]? with
    | some v => (match rCut fs v q.2.1 q.2.2 with
      | some g => rCs σ r g
      | none => none)
    | none => rCs σ r fs
/-- the pattern knows the cells that are changed -/
def rKn (hP : List rC) (ms : List (Nat × Nat × Value)) : Bool := ms.all (fun m => match rGt hP m.1 with
  | some (some (.inr _)) => true
  | _ => false)
def rUse (hP : List rC) (fs : rF) (σ : List Value) (h : rH) (q : rQs) : Option (List rR) := match rCs σ q.2.2.2.2 fs with
  | none => some []
  | some g => if fs.length + q.1.length < 65000 ∧ rKn hP q.2.2.1 = true then (match rMd (σ ++ rNw fs.length q.1) q.2.2.1 h.1, rOs (σ ++ rNw fs.length q.1) q.2.1, rSu 0 (σ ++ rNw fs.length q.1) q.2.2.2.1, rMap (rTe σ) q.1 with
    | some h', some o, some t, some e => some [(g ++ e, o, (h', t))]
    | _, _, _, _ => none) else none
def rPre (C : rCo) (as : List Value) (fs : rF) (h : rH) : Option (List Value) :=
  if rIr fs 0 (rSg h.1 C.2.2.1 ++ (h.2 :: rSa C.2.2.2.1 as)) (rSg h.1 C.2.2.1 ++ (h.2 :: rSa C.2.2.2.1 as)) C.2.1 = true ∧ rMv fs 0 (rSg h.1 C.2.2.1 ++ (h.2 :: rSa C.2.2.2.1 as)) C.2.2.2.1 as = true ∧ rMv fs 0 (rSg h.1 C.2.2.1 ++ (h.2 :: rSa C.2.2.2.1 as)) [C.2.2.2.2.1.2] [h.2] = true ∧ rMq fs (rSg h.1 C.2.2.1 ++ (h.2 :: rSa C.2.2.2.1 as)) C.2.2.2.2.1.1 h.1 = true then some (rSg h.1 C.2.2.1 ++ (h.2 :: rSa C.2.2.2.1 as)) else none
def rPick (d : Nat) (as : List Value) (fs : rF) (h : rH) : List rCo → Option (List rR)
  | [] => none
  | C :: r => if C.1 ≤ d then (match rPre C as fs h with
    | some σ => rAll (rUse C.2.2.2.2.1.1 fs σ h) C.2.2.2.2.2
    | none => rPick d as fs h r) else rPick d as fs h r
/-! loops, splits -/
/-- a place that a loop changes: kind (0 a field, 1 a field with a long, 2 a local, 3 a local long, 4 the thrown, 5 a field with a reference, 6 a field that holds what place number lo holds), cell or local, field, bounds, how (0 as told, 1 the lower bound from the value before, 2 the upper one), and for 2 how much more in one turn -/
abbrev rPl : Type := Nat × Nat × Nat × Int × Int × Nat × Int
/-- a loop: its places, the locals kept, which place grows and by how much, where it begins to count (cell, field, how much) -/
abbrev rLp : Type := List rPl × List Nat × (Nat × Int) × (Nat × Nat × Int)
abbrev rHt : Type := rLp ⊕ (((Nat × Nat × Nat) × List Int × (Nat × Nat × Int)) ⊕ Nat)
abbrev rCx : Type := Nat × rT × rLp × Nat
def rAt (s : rT) (k a b : Nat) : Option Value := match k with
  | 0 => rFd s.2.2.2.2.1 a b
  | 1 => rFd s.2.2.2.2.1 a b
  | 5 => rFd s.2.2.2.2.1 a b
  | 6 => rFd s.2.2.2.2.1 a b
  | 4 => some s.2.2.2.2.2
  | _ => mLd s.2.2.1 a
def rAts (s : rT) (l : List rPl) : Option (List Value) := rMap (fun (p : rPl) => rAt s p.1 p.2.1 p.2.2.1) l
def rBd (v : Value) (p : rPl) : Int × Int := match p.2.2.2.2.2.1, v with
  | 1, .int x => (x.toInt, p.2.2.2.2.1)
  | 1, .float b => (rKl' (rId b) (rOf b), p.2.2.2.2.1)
  | 2, .int x => (p.2.2.2.1, x.toInt + p.2.2.2.2.1)
  | 2, .float b => (p.2.2.2.1, rKu' (rId b) (rOf b + p.2.2.2.2.1))
  | 3, _ => (rL0, rL1)
  | _, _ => (p.2.2.2.1, p.2.2.2.2.1)
def rBds : List Value → List rPl → rF
  | v :: vs, p :: ps => rBd v p :: rBds vs ps
  | _, _ => []
def rNv (k id : Nat) : Value := match k with
  | 1 => .double (UInt64.ofNat id)
  | 3 => .double (UInt64.ofNat id)
  | 5 => .retAddr id
  | _ => rMk id 0
/-- the state at the head: new numbers at the places -/
def rHdl (lv : mL) : List Nat → mL
  | [] => []
  | n :: r => match mLd lv n with
    | some v => (n, v) :: rHdl lv r
    | none => rHdl lv r
def rHdp (n : Nat) : Nat → List rPl → (mL × rH) → mL × rH
  | _, [], q => q
  | id, p :: r, q => rHdp n (id + 1) r (match p.1 with
    | 6 => (match rGt q.2.1 p.2.1 with
      | some (some (.inr (ci, gs))) => (q.1, (q.2.1.set (rX' p.2.1) (some (.inr (ci, gs.set p.2.2.1 (rMk (n + p.2.2.2.1.toNat) 0)))), q.2.2))
      | _ => q)
    | 4 => (q.1, (q.2.1, rMk id 0))
    | 2 => ((p.2.1, rNv 2 id) :: q.1, q.2)
    | 3 => ((p.2.1, rNv 3 id) :: q.1, q.2)
    | k => (match rGt q.2.1 p.2.1 with
      | some (some (.inr (ci, gs))) => (q.1, (q.2.1.set (rX' p.2.1) (some (.inr (ci, gs.set p.2.2.1 (rNv k id)))), q.2.2))
      | _ => q))
/-- 4: the lower bound from the value before, the upper one from that and a field (its cell 1000 times, and its number) -/
def rPp (s : rT) (p : rPl) : rPl := if p.2.2.2.2.2.1 = 4 then (match (rAt s p.1 p.2.1 p.2.2.1).bind (rRg s.1), (rFd s.2.2.2.2.1 (p.2.2.2.2.2.2.toNat / 1000) (p.2.2.2.2.2.2.toNat % 1000)).bind (rRg s.1) with
  | some x, some y => (p.1, p.2.1, p.2.2.1, p.2.2.2.1, rMax x.2 y.2, 1, 0)
  | _, _ => p) else p
def rPr (s : rT) (lp : rLp) : rLp := (lp.1.map (rPp s), lp.2)
def rHead (lp : rLp) (s : rT) : Option rT := match rAts s lp.1 with
  | some vs => some (s.1 ++ rBds vs lp.1, s.2.1, (rHdp s.1.length s.1.length lp.1 (rHdl s.2.2.1 lp.2.1, s.2.2.2.2)).1, [], (rHdp s.1.length s.1.length lp.1 (rHdl s.2.2.1 lp.2.1, s.2.2.2.2)).2)
  | none => none
/-- does the state s match the head t (whose numbers from n on are new), by the values vs at the places -/
def rNn (v : Value) : Bool := match v with
  | .null => false
  | _ => true
def rFits (s t : rT) (n : Nat) (vs : List Value) : Bool := s.2.2.2.1.isEmpty && vs.all rNn && rMl s.1 n vs s.2.2.1 t.2.2.1 && rMv s.1 n vs [t.2.2.2.2.2] [s.2.2.2.2.2] && rMh s.1 n vs t.2.2.2.2.1 s.2.2.2.2.1
/-- the ranges at the way in -/
def rIn0 (fs : rF) (n : Nat) (σ : List Value) : List Value → List rPl → Bool
  | [], [] => true
  | v :: vs, p :: ps => (match p.2.2.2.2.2.1 with
    | 1 => (rRg fs v).isSome && rIu fs n σ v p.2.2.2.2.1
    | 2 => rIl fs n σ v p.2.2.2.1 && ((rRg fs v).isSome && (decide (0 ≤ p.2.2.2.2.1) && decide (p.2.2.2.2.1 ≤ 400000)))
    | 3 => rIl fs n σ v rL0 && rIu fs n σ v rL1
    | _ => rIl fs n σ v p.2.2.2.1 && rIu fs n σ v p.2.2.2.2.1) && rIn0 fs n σ vs ps
  | _, _ => false
/-- the ranges at the way back: fs the facts, ids from n on the head's -/
def rIn1 (fs : rF) (n : Nat) (σ : List Value) (g : Int) : Nat → List Value → List (rPl × (Int × Int)) → Bool
  | _, [], [] => true
  | id, v :: vs, p :: ps => (match p.1.2.2.2.2.2.1 with
    | 2 => rIl fs n σ v p.2.1 && (match v with
      | .float b => rLe fs 8 (rId b) (rOf b) id (p.1.2.2.2.2.2.2 * g)
      | _ => false)
    | _ => rIl fs n σ v p.2.1 && rIu fs n σ v p.2.2) && rIn1 fs n σ g (id + 1) vs ps
  | _, _, _ => false
def rUpr (v : Value) (fs : rF) (id : Nat) (g : Int) : Bool := match v with
  | .float b => rGe fs 8 (rId b) (rOf b) id g
  | _ => false
def rBack (c : rCx) (s : rT) : Bool := match rAts s c.2.2.1.1 with
  | some vs => rFits s c.2.1 c.2.2.2 vs && rIn1 s.1 c.2.2.2 vs c.2.2.1.2.2.1.2 c.2.2.2 vs (c.2.2.1.1.zip (c.2.1.1.drop c.2.2.2)) && (match vs[c.2.2.1.2.2.1.1]? with
    | some v => rUpr v s.1 (c.2.2.2 + c.2.2.1.2.2.1.1) c.2.2.1.2.2.1.2
    | none => false)
  | none => false
/-- what is added up in a loop stays within its bound: w the value that grows, at the way in -/
def rAc (fs : rF) (lp : rLp) (vs : List Value) : Bool := decide (1 ≤ lp.2.2.1.2) && (match lp.1[lp.2.2.1.1]?, vs[lp.2.2.1.1]? with
  | some r, some w => (match rRg fs w with
    | some q => (r.2.2.2.2.2.1 == 0 || r.2.2.2.2.2.1 == 1) && (r.1 == 0 || r.1 == 2) && lp.1.all (fun p => if p.2.2.2.2.2.1 = 2 then decide (0 ≤ p.2.2.2.2.2.2) && decide (p.2.2.2.2.2.2 * (r.2.2.2.2.1 - q.1) ≤ p.2.2.2.2.1) else true)
    | none => false)
  | _, _ => false)
def rSpl (fs : rF) (v : Value) : List Int → List rF
  | [] => [fs]
  | p :: ps => (match rCut fs v rL0 (p - 1) with
    | some g => [g]
    | none => []) ++ (match rCut fs v p rL1 with
    | some g => rSpl g v ps
    | none => [])
/-- things that may be done at a point: 1: what was read last is kept; 2: the waiting one counts; 3: none waits. M: the cell of the array 1000, W: of 1001, and where the count stands -/
def rMisc (M W Wc Wf : Nat) (k : Nat) (s : rT) : Option rT := match k with
  | 1 => match rGt s.2.2.2.2.1 M with
    | some (some (.inr (1000, [_, _, i2, v2, i3, v3]))) => some (s.1, s.2.1, s.2.2.1, s.2.2.2.1, (s.2.2.2.2.1.set (rX' M) (some (.inr (1000, [i2, v2, i2, v2, i3, v3]))), s.2.2.2.2.2))
    | _ => none
  | 2 => match rGt s.2.2.2.2.1 W, rFd s.2.2.2.2.1 Wc Wf with
    | some (some (.inr (1001, [b, v]))), some c => if rEq s.1 b c = true then some s else (match rPlus s.1 b 1, rRg s.1 v, rRg s.1 c with
      | some b', some q, some w => if rEq s.1 b' c = true ∧ 0 ≤ q.1 ∧ q.2 ≤ 199 ∧ w.2 ≤ 60 ∧ s.1.length < 60000 then some (s.1 ++ [(rI0, rI1)], s.2.1, s.2.2.1, s.2.2.2.1, (s.2.2.2.2.1.set (rX' W) (some (.inr (1001, [c, rMk s.1.length 0]))), s.2.2.2.2.2)) else some s
      | _, _, _ => some s)
    | _, _ => some s
  | 3 => match rGt s.2.2.2.2.1 W with
    | some (some (.inr (1001, [_, _]))) => if ¬ s.1.length < 60000 then none else some (s.1 ++ [(rI0, rI1)], s.2.1, s.2.2.1, s.2.2.2.1, (s.2.2.2.2.1.set (rX' W) (some (.inr (1001, [.int 0, rMk s.1.length 0]))), s.2.2.2.2.2))
    | _ => none
  | _ => none
def rCxf (cx : List rCx) (pc : Nat) : Option rCx := match cx with
  | [] => none
  | c :: r => if c.1 = pc then some c else rCxf r pc
def rGd (s : rT) (g : Nat × Nat × Int) : Bool := if g.1 = 0 then true else match rFd s.2.2.2.2.1 g.1 g.2.1 with
  | some v => (match rRg s.1 v with
    | some q => decide (g.2.2 ≤ q.1)
    | none => false)
  | none => false
def rGx (s : rT) (g : Nat × Nat × Int) : Bool := if g.1 = 0 then true else match rFd s.2.2.2.2.1 g.1 g.2.1 with
  | some v => (match rRg s.1 v with
    | some q => decide (g.2.2 = q.1) && decide (g.2.2 = q.2)
    | none => false)
  | none => false
section RUN
variable (k0 : Nat) (P : Nat → Nat → Option mI) (Hn : Nat → List (Nat × Nat × Nat × Nat)) (Ht : Nat → Nat → Option rHt) (J : Nat → Nat → rT → Option rT)
def rRun (d : Nat) (call : Nat → List Value → rF → rH → Option (List rR)) (mi : Nat) : Nat → List rCx → Bool → rT → Option (List rR)
  | 0, _, _, _ => none
  | n + 1, cx, fl, s => match (if fl = true then none else Ht mi s.2.1) with
    | some (.inl lp) => (match rCxf cx s.2.1 with
      | some c => if rBack c s = true then some [] else rRun d call mi n cx true s
      | none => if rGd s lp.2.2.2 = true then (match rHead (rPr s lp) s, rAts s (rPr s lp).1 with
        | some t, some vs => if rFits s t s.1.length vs = true ∧ rIn0 s.1 s.1.length vs vs (rPr s lp).1 = true ∧ rAc s.1 (rPr s lp) vs = true ∧ t.1.length ≤ 50000 then rRun d call mi n ((s.2.1, t, rPr s lp, s.1.length) :: cx) true t else none
        | _, _ => none) else rRun d call mi n cx true s)
    | some (.inr (.inl q)) => if rGx s q.2.2 = true then (match rAt s q.1.1 q.1.2.1 q.1.2.2 with
      | some v => if (rRg s.1 v).isSome = true then rAll (fun g => rRun d call mi n cx true (g, s.2)) (rSpl s.1 v q.2.1) else none
      | none => none) else rRun d call mi n cx true s
    | some (.inr (.inr k)) => (match J mi k s with
      | some t => if t.1.length ≤ 50000 then rRun d call mi n cx true t else none
      | none => none)
    | none => match rSp k0 P Hn d call mi s with
      | none => none
      | some l => rAll (fun q => match q with
        | .inr r => some [r]
        | .inl t => rRun d call mi n cx false t) l
/-- a call: by contract, or run -/
def rCall (J' : Nat → Nat → Nat → rT → Option rT) (O : Nat → List Value → rF → rH → Option (List rR)) (T : Nat → List rCo) (mx : Nat → Nat) (F : Nat) : Nat → Nat → List Value → rF → rH → Option (List rR)
  | 0, _, _, _, _ => none
  | d + 1, mi, as, fs, h => match O mi as fs h with
    | some l => some l
    | none => match rPick (d + 1) as fs h (T mi) with
      | some l => some l
      | none => if (lg_sl as).length ≤ mx mi ∧ fs.length ≤ 50000 then rRun k0 P Hn Ht (J' (d + 1)) (d + 1) (rCall J' O T mx F d) mi F [] false (fs, 0, lv_args 0 as, [], h) else none
/-- does what came out match a post -/
def rOm (fs : rF) (n : Nat) (σ : List Value) (p o : rO) : Bool := match p, o with
  | .inl none, .inl none => true
  | .inl (some v), .inl (some w) => rMv fs n σ [v] [w]
  | .inr x, .inr y => x == y
  | _, _ => false
/-- the values of a post's new numbers, by where they stand in it: the answer, what is changed -/
def rVn (n : Nat) (v : Value) : Option Nat := match v with
  | .float b => if n ≤ rId b ∧ rOf b = 0 then some (rId b - n) else none
  | .double b => if n ≤ b.toNat then some (b.toNat - n) else none
  | .retAddr j => if n ≤ j then some (j - n) else none
  | _ => none
end RUN
