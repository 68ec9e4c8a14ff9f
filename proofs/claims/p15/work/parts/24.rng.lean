/-! THE SMALL MACHINE WITH RANGES: .float: an unknown int (its number, and what is added to it), .double: an unknown long, .retAddr: an unknown reference; what is known: a range for each number. An array: one range for all its places. The heap: its known cells, and how many thrown objects lie behind them. A run answers the list of all that can come of it. -/
abbrev rF : Type := List (Int × Int)
abbrev rC : Type := Option ((Nat × Nat × Int × Int) ⊕ (Nat × List Value))
abbrev rH : Type := List rC × Value
abbrev rT : Type := rF × Nat × mL × List Value × rH
abbrev rO : Type := Option Value ⊕ Nat
abbrev rR : Type := rF × rO × rH
/-- where a cell stands in the list: the new ones (158 to 205) first -/
def rX' (a : Nat) : Nat := if a < 158 then a + 48 else if a < 206 then a - 158 else a
def rGt (l : List rC) (a : Nat) : Option rC := l[rX' a]?
def rI0 : Int := -2147483648
def rI1 : Int := 2147483647
def rL0 : Int := -9223372036854775808
def rL1 : Int := 9223372036854775807
def rId (b : UInt32) : Nat := b.toNat / 65536
def rOf (b : UInt32) : Int := ((b.toNat % 65536 : Nat) : Int) - 32768
def rMk (id : Nat) (off : Int) : Value := .float (UInt32.ofNat (id * 65536 + (off + 32768).toNat))
/-- a bound that is told by another number: a number and what is added to it -/
def rCl (l : Int) : Option (Nat × Int) := if l ≤ -100000000000000000000 then some (((-l - 100000000000000000000) / 1000000).toNat, (-l - 100000000000000000000) % 1000000 - 500000) else none
def rCu (u : Int) : Option (Nat × Int) := if 100000000000000000000 ≤ u then some (((u - 100000000000000000000) / 1000000).toNat, (u - 100000000000000000000) % 1000000 - 500000) else none
def rLo (fs : rF) : Nat → Int → Int
  | 0, l => l
  | n + 1, l => match rCl l with
    | none => l
    | some jc => match fs[jc.1]? with
      | some q => rLo fs n q.1 + jc.2
      | none => l
def rHi (fs : rF) : Nat → Int → Int
  | 0, u => u
  | n + 1, u => match rCu u with
    | none => u
    | some jc => match fs[jc.1]? with
      | some q => rHi fs n q.2 + jc.2
      | none => u
def rRg (fs : rF) (v : Value) : Option (Int × Int) := match v with
  | .int x => some (x.toInt, x.toInt)
  | .float b => match fs[rId b]? with
    | some q => if rI0 ≤ rLo fs 6 q.1 + rOf b ∧ rHi fs 6 q.2 + rOf b ≤ rI1 then some (rLo fs 6 q.1 + rOf b, rHi fs 6 q.2 + rOf b) else none
    | none => none
  | _ => none
def rRl (fs : rF) (v : Value) : Option (Int × Int) := match v with
  | .long x => some (x.toInt, x.toInt)
  | .double b => match fs[b.toNat]? with
    | some q => if rL0 ≤ q.1 ∧ q.2 ≤ rL1 then some q else none
    | none => none
  | _ => none
/-- a new unknown int, a new unknown long -/
def rNi (fs : rF) (l h : Int) : rF × Value := if l = h ∧ rI0 ≤ l ∧ l ≤ rI1 then (fs, .int (Int32.ofInt l)) else if rI0 ≤ l ∧ h ≤ rI1 then (fs ++ [(l, h)], rMk fs.length 0) else (fs ++ [(rI0, rI1)], rMk fs.length 0)
def rNl (fs : rF) (l h : Int) : rF × Value := if l = h ∧ rL0 ≤ l ∧ l ≤ rL1 then (fs, .long (Int64.ofInt l)) else if rL0 ≤ l ∧ h ≤ rL1 then (fs ++ [(l, h)], .double (UInt64.ofNat fs.length)) else (fs ++ [(rL0, rL1)], .double (UInt64.ofNat fs.length))
def rMin (a b : Int) : Int := if a ≤ b then a else b
def rMax (a b : Int) : Int := if a ≤ b then b else a
/-- an int of two ints: its range; none: it can fail -/
def rBin (i : Instr) (x y : Int × Int) : Option (Int × Int) := match i with
  | .iadd => some (x.1 + y.1, x.2 + y.2)
  | .isub => some (x.1 - y.2, x.2 - y.1)
  | .imul => if 0 ≤ x.1 ∧ 0 ≤ y.1 then some (0, x.2 * y.2) else some (rI0, rI1)
  | .idiv => if 1 ≤ y.1 ∨ y.2 ≤ -1 then some (rI0, rI1) else none
  | .irem => if 1 ≤ y.1 ∨ y.2 ≤ -1 then some (if 0 ≤ x.1 ∧ 1 ≤ y.1 then (0, y.2 - 1) else (rI0, rI1)) else none
  | .iand => if 0 ≤ y.1 then some (0, y.2) else some (rI0, rI1)
  | .ior => some (rI0, rI1)
  | .ixor => some (rI0, rI1)
  | .ishl => some (rI0, rI1)
  | .ishr => some (rI0, rI1)
  | .iushr => if y.1 = y.2 ∧ 1 ≤ y.1 ∧ y.1 ≤ 31 then some (0, rI1) else some (rI0, rI1)
  | _ => none
def rBil (i : Instr) (x y : Int × Int) : Option (Int × Int) := match i with
  | .ladd => some (rL0, rL1)
  | .lsub => some (rL0, rL1)
  | .lmul => some (rL0, rL1)
  | .ldiv => if 1 ≤ y.1 ∨ y.2 ≤ -1 then some (rL0, rL1) else none
  | .lrem => if 1 ≤ y.1 ∨ y.2 ≤ -1 then some (rL0, rL1) else none
  | .land => if y.1 = 255 ∧ y.2 = 255 ∧ 0 ≤ x.1 ∧ x.1 / 256 = x.2 / 256 then some (x.1 % 256, x.2 % 256) else if 0 ≤ y.1 then some (0, y.2) else some (rL0, rL1)
  | .lor => if 0 ≤ x.1 ∧ 0 ≤ y.1 then (if y.1 = y.2 ∧ y.1 % 256 = 0 ∧ x.2 < 256 then some (x.1 + y.1, x.2 + y.1) else some (rMax x.1 y.1, x.2 + y.2)) else some (rL0, rL1)
  | _ => none
def rShl (x y : Int × Int) : Int × Int := if y.1 = y.2 ∧ 0 ≤ y.1 ∧ y.1 < 63 ∧ 0 ≤ x.1 ∧ x.2 * 2 ^ y.1.toNat ≤ rL1 then (x.1 * 2 ^ y.1.toNat, x.2 * 2 ^ y.1.toNat) else (rL0, rL1)
def rShr (x y : Int × Int) : Int × Int := if y.1 = y.2 ∧ 0 ≤ y.1 ∧ y.1 < 63 ∧ 0 ≤ x.1 then (x.1 / 2 ^ y.1.toNat, x.2 / 2 ^ y.1.toNat) else (rL0, rL1)
/-- a number with something added -/
def rPlus (fs : rF) (v : Value) (c : Int) : Option Value := match v with
  | .float b => if -30000 ≤ rOf b + c ∧ rOf b + c ≤ 30000 then (match rRg fs v with
    | some q => if rI0 ≤ q.1 + c ∧ q.2 + c ≤ rI1 then some (rMk (rId b) (rOf b + c)) else none
    | none => none) else none
  | _ => none
/-- what is done with unknown numbers, without a question: what stands on the stack, the facts -/
def rU (fs : rF) (i : Instr) (st : List Value) : Option (rF × List Value) := match i, st with
  | .i2l, v :: r => (rRg fs v).map (fun q => ((rNl fs q.1 q.2).1, (rNl fs q.1 q.2).2 :: r))
  | .l2i, v :: r => (rRl fs v).map (fun q => ((rNi fs q.1 q.2).1, (rNi fs q.1 q.2).2 :: r))
  | .i2c, v :: r => match rRg fs v with
    | some q => if 0 ≤ q.1 ∧ q.2 ≤ 65535 then some (fs, v :: r) else some ((rNi fs 0 65535).1, (rNi fs 0 65535).2 :: r)
    | none => none
  | .i2b, v :: r => match rRg fs v with
    | some q => if -128 ≤ q.1 ∧ q.2 ≤ 127 then some (fs, v :: r) else some ((rNi fs (-128) 127).1, (rNi fs (-128) 127).2 :: r)
    | none => none
  | .ineg, v :: r => (rRg fs v).map (fun q => ((rNi fs (-q.2) (-q.1)).1, (rNi fs (-q.2) (-q.1)).2 :: r))
  | .lneg, v :: r => (rRl fs v).map (fun _ => ((rNl fs rL0 rL1).1, (rNl fs rL0 rL1).2 :: r))
  | .lshl, y :: x :: r => match rRg fs y, rRl fs x with
    | some p, some q => some ((rNl fs (rShl q p).1 (rShl q p).2).1, (rNl fs (rShl q p).1 (rShl q p).2).2 :: r)
    | _, _ => none
  | .lshr, y :: x :: r => match rRg fs y, rRl fs x with
    | some p, some q => some ((rNl fs (rShr q p).1 (rShr q p).2).1, (rNl fs (rShr q p).1 (rShr q p).2).2 :: r)
    | _, _ => none
  | .iadd, .int y :: x :: r => match rPlus fs x y.toInt with
    | some v => some (fs, v :: r)
    | none => match rRg fs x with
      | some q => some ((rNi fs (q.1 + y.toInt) (q.2 + y.toInt)).1, (rNi fs (q.1 + y.toInt) (q.2 + y.toInt)).2 :: r)
      | none => none
  | .iadd, y :: .int x :: r => match rPlus fs y x.toInt with
    | some v => some (fs, v :: r)
    | none => match rRg fs y with
      | some q => some ((rNi fs (q.1 + x.toInt) (q.2 + x.toInt)).1, (rNi fs (q.1 + x.toInt) (q.2 + x.toInt)).2 :: r)
      | none => none
  | .isub, .int y :: x :: r => match rPlus fs x (-y.toInt) with
    | some v => some (fs, v :: r)
    | none => match rRg fs x with
      | some q => some ((rNi fs (q.1 - y.toInt) (q.2 - y.toInt)).1, (rNi fs (q.1 - y.toInt) (q.2 - y.toInt)).2 :: r)
      | none => none
  | i, y :: x :: r => match rRg fs x, rRg fs y with
    | some p, some q => match rBin i p q with
      | some z => some ((rNi fs z.1 z.2).1, (rNi fs z.1 z.2).2 :: r)
      | none => none
    | _, _ => match rRl fs x, rRl fs y with
      | some p, some q => match rBil i p q with
        | some z => some ((rNl fs z.1 z.2).1, (rNl fs z.1 z.2).2 :: r)
        | none => none
      | _, _ => none
  | _, _ => none
/-- does it always hold, does it never hold -/
def rDec (c : ClassFile.Cond) (x y : Int × Int) : Option Bool := match c with
  | .lt => if x.2 < y.1 then some true else if y.2 ≤ x.1 then some false else none
  | .ge => if y.2 ≤ x.1 then some true else if x.2 < y.1 then some false else none
  | .gt => if y.2 < x.1 then some true else if x.2 ≤ y.1 then some false else none
  | .le => if x.2 ≤ y.1 then some true else if y.2 < x.1 then some false else none
  | .eq => if x.1 = x.2 ∧ y.1 = y.2 ∧ x.1 = y.1 then some true else if x.2 < y.1 ∨ y.2 < x.1 then some false else none
  | .ne => if x.2 < y.1 ∨ y.2 < x.1 then some true else if x.1 = x.2 ∧ y.1 = y.2 ∧ x.1 = y.1 then some false else none
/-- a number's range narrowed to lo .. hi -/
def rUp (a b : Int) : Int := if -100000000000000000000 < a ∧ a < b ∧ -10000000000000000000 < b then b else a
def rDn (a b : Int) : Int := if a < 100000000000000000000 ∧ b < a ∧ b < 10000000000000000000 then b else a
def rCut (fs : rF) (v : Value) (lo hi : Int) : Option rF := match v with
  | .float b => match fs[rId b]? with
    | some q => if rMax (rLo fs 6 q.1) (lo - rOf b) ≤ rMin (rHi fs 6 q.2) (hi - rOf b) then some (fs.set (rId b) (rUp q.1 (lo - rOf b), rDn q.2 (hi - rOf b))) else none
    | none => none
  | .double b => match fs[b.toNat]? with
    | some q => if rMax (rLo fs 6 q.1) lo ≤ rMin (rHi fs 6 q.2) hi then some (fs.set b.toNat (rUp q.1 lo, rDn q.2 hi)) else none
    | none => none
  | _ => some fs
def rTwo (fs : rF) (v w : Value) (a b c d : Int) : List rF := match rCut fs v a b with
  | some g => match rCut g w c d with
    | some k => [k]
    | none => []
  | none => []
def rNeg (c : ClassFile.Cond) : ClassFile.Cond := match c with
  | .eq => .ne
  | .ne => .eq
  | .lt => .ge
  | .ge => .lt
  | .gt => .le
  | .le => .gt
/-- what is known besides where v stands to w as c says -/
def rRef (c : ClassFile.Cond) (fs : rF) (v w : Value) (x y : Int × Int) : List rF := match c with
  | .lt => rTwo fs v w rL0 (y.2 - 1) (x.1 + 1) rL1
  | .ge => rTwo fs v w y.1 rL1 rL0 x.2
  | .gt => rTwo fs v w (y.1 + 1) rL1 rL0 (x.2 - 1)
  | .le => rTwo fs v w rL0 y.2 x.1 rL1
  | .eq => rTwo fs v w (rMax x.1 y.1) (rMin x.2 y.2) (rMax x.1 y.1) (rMin x.2 y.2)
  | .ne => if y.1 = y.2 ∧ 0 < y.1 ∧ 300 < x.2 - x.1 then [fs] else if y.1 = y.2 then rTwo fs v w rL0 (y.1 - 1) rL0 rL1 ++ rTwo fs v w (y.1 + 1) rL1 rL0 rL1 else if x.1 = x.2 then rTwo fs v w rL0 rL1 rL0 (x.1 - 1) ++ rTwo fs v w rL0 rL1 (x.1 + 1) rL1 else [fs]
def rKi (fs : rF) (o : Option Value) : Option Value := match o with
  | some (.int x) => some (.int x)
  | some (.float x) => match fs[rId x]? with
    | some q => if q.1 = q.2 ∧ rI0 ≤ q.1 + rOf x ∧ q.1 + rOf x ≤ rI1 then some (.int (Int32.ofInt (q.1 + rOf x))) else some (.float x)
    | none => some (.float x)
  | _ => none
def rKl (o : Option Value) : Option Value := match o with
  | some (.long x) => some (.long x)
  | some (.double x) => some (.double x)
  | _ => none
def rKr (o : Option Value) : Option Value := match o with
  | some (.ref x) => some (.ref x)
  | some (.retAddr x) => some (.retAddr x)
  | _ => none
def rB (fs : rF) (i : Instr) (lv : mL) : Option Value := match i with
  | .iload n => rKi fs (mLd lv n)
  | .iload_n n => rKi fs (mLd lv n.val)
  | .lload n => rKl (mLd lv n)
  | .lload_n n => rKl (mLd lv n.val)
  | .aload n => rKr (mLd lv n)
  | .aload_n n => rKr (mLd lv n.val)
  | _ => none
def rSi (nL : Nat) (lv : mL) (n : Nat) (st : List Value) : Option (mL × List Value) := match st with
  | .int x :: r => if n < nL then some (mSt1 lv n (.int x), r) else none
  | .float x :: r => if n < nL then some (mSt1 lv n (.float x), r) else none
  | _ => none
def rSl (nL : Nat) (lv : mL) (n : Nat) (st : List Value) : Option (mL × List Value) := match st with
  | .long x :: r => if n + 1 < nL then some (mSt2 lv n (.long x), r) else none
  | .double x :: r => if n + 1 < nL then some (mSt2 lv n (.double x), r) else none
  | _ => none
def rSr (nL : Nat) (lv : mL) (n : Nat) (st : List Value) : Option (mL × List Value) := match st with
  | .ref x :: r => if n < nL then some (mSt1 lv n (.ref x), r) else none
  | .retAddr x :: r => if n < nL then some (mSt1 lv n (.retAddr x), r) else none
  | _ => none
def rIc (fs : rF) (nL : Nat) (lv : mL) (n : Nat) (c : Int) (o : Option Value) (st : List Value) : Option (mL × List Value) := match o with
  | some (.int x) => if n < nL then some (mSt1 lv n (.int (x + Int32.ofInt c)), st) else none
  | some (.float x) => match rPlus fs (.float x) c with
    | some v => if n < nL then some (mSt1 lv n v, st) else none
    | none => none
  | _ => none
def rD (fs : rF) (i : Instr) (nL : Nat) (lv : mL) (st : List Value) : Option (mL × List Value) := match i with
  | .istore n => rSi nL lv n st
  | .istore_n n => rSi nL lv n.val st
  | .lstore n => rSl nL lv n st
  | .lstore_n n => rSl nL lv n.val st
  | .astore n => rSr nL lv n st
  | .astore_n n => rSr nL lv n.val st
  | .iinc n c => rIc fs nL lv n c (mLd lv n) st
  | _ => none
def rJ (fs : rF) (i : Instr) (pc : Nat) (st : List Value) : Option (Nat × List Value) := match i, st with
  | .goto off, st => (mTo pc off).map (fun q => (q, st))
  | .ifCond c off, v :: r => match rRg fs v with
    | some x => match rDec c x (0, 0) with
      | some t => mBr t pc off r
      | none => none
    | none => none
  | .if_icmp c off, w :: v :: r => match rRg fs v, rRg fs w with
    | some x, some y => match rDec c x y with
      | some t => mBr t pc off r
      | none => none
    | _, _ => none
  | .if_acmp .eq off, .ref y :: .ref x :: r => if (2 ≤ x ∧ x < 52) ∧ (2 ≤ y ∧ y < 52) then mBr (decide (x = y)) pc off r else none
  | .if_acmp .ne off, .ref y :: .ref x :: r => if (2 ≤ x ∧ x < 52) ∧ (2 ≤ y ∧ y < 52) then mBr (decide (¬ x = y)) pc off r else none
  | .tableswitch d lo hi offs, v :: r => match rRg fs v with
    | some x => if x.2 < lo ∨ hi < x.1 then (mTo pc d).map (fun q => (q, r)) else if x.1 = x.2 then (match offs[(x.1 - lo).toNat]? with
      | some off => (mTo pc off).map (fun q => (q, r))
      | none => none) else none
    | none => none
  | .lookupswitch d ps, v :: r => match rRg fs v with
    | some x => if (ps.toList.zip (ps.toList.drop 1)).all (fun (a, next) => a.1 < next.1) = true then (if x.1 = x.2 then (mTo pc (Op.lookupswitch.offset ps.toList d x.1)).map (fun q => (q, r)) else if ps.toList.all (fun q => decide (q.1 < x.1) || decide (x.2 < q.1)) = true then (mTo pc d).map (fun q => (q, r)) else none) else none
    | none => none
  | _, _ => none
def rExa (v : Value) : Bool := match v with
  | .float _ => false
  | .double _ => false
  | .retAddr _ => false
  | _ => true
def rIx (fs : rF) (n : Nat) (v : Value) : Bool := match rRg fs v with
  | some q => decide (0 ≤ q.1) && decide (q.2 < n)
  | none => false
/-- the ints of one field of the cells from a to b -/
def rHull (h : List rC) (ci k : Nat) : Nat → Nat → Option (Int × Int)
  | 0, _ => none
  | n + 1, a => match rGt h a with
    | some (some (.inr (c, fs))) => if c = ci ∧ c < 1000 then (match fs[k]? with
      | some (.int x) => if n = 0 then some (x.toInt, x.toInt) else (match rHull h ci k n (a + 1) with
        | some q => some (rMin x.toInt q.1, rMax x.toInt q.2)
        | none => none)
      | _ => none) else none
    | _ => none
/-- loads and stores of an array: of which kind -/
def rAk (i : Instr) (k : Nat) : Bool := match i with
  | .iaload => k == 0 || k == 4
  | .caload => k == 2
  | .baload => k == 3 || k == 7
  | _ => false
def rPk (i : Instr) (k : Nat) : Bool := match i with
  | .iastore => k == 0
  | .castore => k == 2
  | .bastore => k == 3
  | _ => false
def rG (fs : rF) (i : Instr) (o1 o2 : Nat) (v : Value) (st : List Value) (h : rH) : Option (rF × List Value) := match i with
  | .getfield _ => match st with
    | .ref a :: r => match rGt h.1 a with
      | some (some (.inr (ci, gs))) => if ci = o1 ∧ ci < 1000 then (gs[o2]?).map (fun x => (fs, (rKi fs (some x)).getD x :: r)) else none
      | _ => none
    | .retAddr j :: r => match fs[j]? with
      | some q => if 0 ≤ q.1 ∧ q.1 ≤ q.2 then (match rHull h.1 o1 o2 (q.2 - q.1 + 1).toNat q.1.toNat with
        | some z => some ((rNi fs z.1 z.2).1, (rNi fs z.1 z.2).2 :: r)
        | none => none) else none
      | none => none
    | _ => none
  | .getstatic _ => if rExa v = true then some (fs, v :: st) else none
  | .ldc _ => if rExa v = true then some (fs, v :: st) else none
  | .ldc_w _ => if rExa v = true then some (fs, v :: st) else none
  | .ldc2_w _ => if rExa v = true then some (fs, v :: st) else none
  | .laload => match st with
    | x :: .ref a :: r => match rGt h.1 a with
      | some (some (.inl (1, n, l, u))) => if rIx fs n x = true then some ((rNl fs l u).1, (rNl fs l u).2 :: r) else none
      | _ => none
    | _ => none
  | .aaload => match st with
    | .int i :: .ref a :: r => match rGt h.1 a with
      | some (some (.inl (6, n, l, _))) => if mIn i n = true then some (fs, .ref (l.toNat + i.toNatClampNeg) :: r) else none
      | _ => none
    | _ => none
  | .arraylength => match st with
    | .ref a :: r => match rGt h.1 a with
      | some (some (.inl (k, n, _, _))) => if k < 5 ∨ k = 6 ∨ k = 7 then some (fs, .int (Int32.ofNat n) :: r) else none
      | _ => none
    | _ => none
  | i => match st with
    | x :: .ref a :: r => match rGt h.1 a with
      | some (some (.inl (k, n, l, u))) => if rAk i k = true ∧ rIx fs n x = true then some ((rNi fs l u).1, (rNi fs l u).2 :: r) else none
      | _ => none
    | _ => none
def rFit (fs : rF) (k : Nat) (v : Value) : Bool := match k, v with
  | 0, .int _ => true
  | 0, .float _ => true
  | 1, v => (match rRg fs v with
    | some q => decide (0 ≤ q.1) && decide (q.2 ≤ 1)
    | none => false)
  | 2, .long _ => true
  | 2, .double _ => true
  | 3, .ref _ => true
  | 3, .retAddr _ => true
  | _, _ => false
def rP (fs : rF) (k0 : Nat) (i : Instr) (o1 o2 o3 : Nat) (st : List Value) (h : rH) : Option (List Value × rH) := match i with
  | .putfield _ => match st with
    | v :: .ref a :: r => match rGt h.1 a with
      | some (some (.inr (ci, gs))) => if (ci = o1 ∧ ci < 1000) ∧ k0 ≤ a ∧ o2 < gs.length ∧ rFit fs o3 v = true then some (r, h.1.set (rX' a) (some (.inr (ci, gs.set o2 v))), h.2) else none
      | _ => none
    | _ => none
  | .lastore => match st with
    | v :: x :: .ref a :: r => match rGt h.1 a, rRl fs v with
      | some (some (.inl (1, n, l, u))), some q => if rIx fs n x = true ∧ k0 ≤ a then some (r, h.1.set (rX' a) (some (.inl (1, n, rMin l q.1, rMax u q.2))), h.2) else none
      | _, _ => none
    | _ => none
  | i => match st with
    | v :: x :: .ref a :: r => match rGt h.1 a, rRg fs v with
      | some (some (.inl (k, n, l, u))), some q => if rPk i k = true ∧ rIx fs n x = true ∧ k0 ≤ a then (if k = 0 then some (r, h.1.set (rX' a) (some (.inl (k, n, rMin l q.1, rMax u q.2))), h.2) else if k = 2 ∧ 0 ≤ q.1 ∧ q.2 ≤ 65535 then some (r, h.1.set (rX' a) (some (.inl (k, n, rMin l q.1, rMax u q.2))), h.2) else if k = 3 ∧ 0 ≤ q.1 ∧ q.2 ≤ 1 then some (r, h.1.set (rX' a) (some (.inl (k, n, rMin l q.1, rMax u q.2))), h.2) else none) else none
      | _, _ => none
    | _ => none
def rX (fs : rF) (o3 : Nat) (st : List Value) : Option (rF × List Value) := match o3 with
  | 1 => match st with
    | .ref _ :: r => if (r.map fun v => v.category).sum ≤ 8 then some (fs, r) else none
    | _ => none
  | 2 => match st with
    | y :: x :: r => match rRg fs x, rRg fs y with
      | some p, some q => if (r.map fun v => v.category).sum ≤ 7 then some ((rNi fs (rMin p.1 q.1) (rMin p.2 q.2)).1, (rNi fs (rMin p.1 q.1) (rMin p.2 q.2)).2 :: r) else none
      | _, _ => none
    | _ => none
  | 3 => match st with
    | y :: x :: r => match rRg fs x, rRg fs y with
      | some p, some q => if (r.map fun v => v.category).sum ≤ 7 then some ((rNi fs (rMax p.1 q.1) (rMax p.2 q.2)).1, (rNi fs (rMax p.1 q.1) (rMax p.2 q.2)).2 :: r) else none
      | _, _ => none
    | _ => none
  | _ => none
def rY (fs : rF) (k0 o3 : Nat) (st : List Value) (h : rH) : Option (List Value × rH) := match st with
  | [n, dp, .ref a, sp, .ref b] => match rGt h.1 a, rGt h.1 b, rRg fs n, rRg fs dp, rRg fs sp with
    | some (some (.inl (k1, n1, l1, u1))), some (some (.inl (k2, n0, l2, u2))), some zn, some zd, some zs => if ((o3 = 4 ∧ k1 = 0 ∧ k2 = 0) ∨ (o3 = 5 ∧ k1 = 1 ∧ k2 = 1)) ∧ 0 ≤ zn.1 ∧ 0 ≤ zd.1 ∧ 0 ≤ zs.1 ∧ zs.2 + zn.2 ≤ n0 ∧ zd.2 + zn.2 ≤ n1 ∧ k0 ≤ a ∧ k0 ≤ b ∧ ¬ a = b then some ([], h.1.set (rX' a) (some (.inl (k1, n1, rMin l1 l2, rMax u1 u2))), h.2) else none
    | _, _, _, _, _ => none
  | _ => none
/-- two arrays of which more is known. 1000: what stands at three places (a place, what stands there, thrice); 1001: before a place all is within 0 .. 199 (that place, what stands there); 1003: bytes that are known -/
def rEq (fs : rF) (x y : Value) : Bool := match x, y with
  | .int a, .int b => a == b
  | .float a, .float b => a == b
  | .float a, .int b => (match rRg fs (.float a) with
    | some q => decide (q.1 = q.2) && decide (q.1 = b.toInt)
    | none => false)
  | .int b, .float a => (match rRg fs (.float a) with
    | some q => decide (q.1 = q.2) && decide (q.1 = b.toInt)
    | none => false)
  | _, _ => false
def rMa (fs : rF) (k0 : Nat) (i : Instr) (st : List Value) (h : rH) : Option (rF × List Value × rH) := match i, st with
  | .iaload, x :: .ref a :: r => match rGt h.1 a with
    | some (some (.inr (1000, [i1, v1, i2, v2, i3, v3]))) => if rIx fs 240 x = true then (if rEq fs x i1 = true then some (fs, v1 :: r, h) else if rEq fs x i2 = true then some (fs, v2 :: r, h) else if rEq fs x i3 = true then some (fs, v3 :: r, h) else some ((rNi fs rI0 rI1).1, (rNi fs rI0 rI1).2 :: r, (h.1.set (rX' a) (some (.inr (1000, [i1, v1, i3, v3, x, (rNi fs rI0 rI1).2]))), h.2))) else none
    | some (some (.inr (1001, [b, _]))) => match rRg fs x, rRg fs b with
      | some p, some q => if 0 ≤ p.1 ∧ p.2 < q.1 then some ((rNi fs 0 199).1, (rNi fs 0 199).2 :: r, h) else none
      | _, _ => none
    | some (some (.inr (1002, [_, i0, x0, x1, x2, x3, x4, _, _]))) => match x, i0, rRg fs x, rRg fs i0 with
      | .float b, .float c, some _, some _ => if rId b = rId c ∧ 0 ≤ rOf b - rOf c ∧ rOf b - rOf c < 5 then ([x0, x1, x2, x3, x4][(rOf b - rOf c).toNat]?).map (fun v => (fs, v :: r, h)) else none
      | _, _, _, _ => none
    | _ => none
  | .baload, .int x :: .ref a :: r => match rGt h.1 a with
    | some (some (.inr (1003, gs))) => if mIn x gs.length = true then (gs[x.toNatClampNeg]?).map (fun v => (fs, v :: r, h)) else none
    | _ => none
  | .arraylength, .ref a :: r => match rGt h.1 a with
    | some (some (.inr (1003, gs))) => some (fs, .int (Int32.ofNat gs.length) :: r, h)
    | some (some (.inr (1002, [l, _, _, _, _, _, _, _, _]))) => some (fs, l :: r, h)
    | _ => none
  | .iastore, v :: x :: .ref a :: r => match rGt h.1 a, rRg fs v with
    | some (some (.inr (1000, [_, _, _, _, _, _]))), some _ => if rIx fs 240 x = true ∧ k0 ≤ a then some (fs, r, (h.1.set (rX' a) (some (.inr (1000, [x, v, x, v, x, v]))), h.2)) else none
    | some (some (.inr (1001, [b, _]))), some _ => if rIx fs 60 x = true ∧ rEq fs x b = true ∧ k0 ≤ a then some (fs, r, (h.1.set (rX' a) (some (.inr (1001, [b, v]))), h.2)) else none
    | _, _ => none
  | _, _ => none
/-- questions: the states that can follow -/
def rWay (c : ClassFile.Cond) (fs : rF) (v w : Value) (x y : Int × Int) (pc : Nat) (off : Int) (r : List Value) : Option (List (rF × Nat × List Value)) := match mTo pc off with
  | some q => some ((rRef c fs v w x y).map (fun g => (g, q, r)) ++ (rRef (rNeg c) fs v w x y).map (fun g => (g, pc + 3, r)))
  | none => none
def rZ (fs : rF) (i : Instr) (pc : Nat) (st : List Value) : Option (List (rF × Nat × List Value)) := match i, st with
  | .ifCond c off, v :: r => match rRg fs v with
    | some x => rWay c fs v (.int 0) x (0, 0) pc off r
    | none => none
  | .if_icmp c off, w :: v :: r => match rRg fs v, rRg fs w with
    | some x, some y => rWay c fs v w x y pc off r
    | _, _ => none
  | .if_acmp _ off, w :: v :: r => match v, w, mTo pc off with
    | .retAddr j, .ref y, some q => match fs[j]? with
      | some g => if (2 ≤ g.1 ∧ g.2 ≤ 51) ∧ (2 ≤ y ∧ y < 52) then some [(fs, q, r), (fs, pc + 3, r)] else none
      | none => none
    | _, _, _ => none
  | .lcmp, w :: v :: r => match rRl fs v, rRl fs w with
    | some x, some y => some ((rRef .lt fs v w x y).map (fun g => (g, pc + 1, .int (-1) :: r)) ++ ((rRef .eq fs v w x y).map (fun g => (g, pc + 1, .int 0 :: r)) ++ (rRef .gt fs v w x y).map (fun g => (g, pc + 1, .int 1 :: r))))
    | _, _ => none
  | .tableswitch _ lo hi _, v :: r => match rRg fs v with
    | some x => if hi - lo ≤ 100 then some ((rTwo fs v (.int 0) rL0 (lo - 1) rL0 rL1 ++ (rTwo fs v (.int 0) (hi + 1) rL1 rL0 rL1 ++ ((List.range (hi - lo + 1).toNat).flatMap (fun (k : Nat) => if x.1 ≤ lo + k ∧ lo + k ≤ x.2 then rTwo fs v (.int 0) (lo + k) (lo + k) rL0 rL1 else [])))).map (fun g => (g, pc, v :: r))) else none
    | none => none
  | .lookupswitch _ ps, v :: r => match rRg fs v, ps.toList.filter (fun q => match rRg fs v with
      | some x => decide (x.1 ≤ q.1) && decide (q.1 ≤ x.2)
      | none => false) with
    | some _, q :: _ => some ((rTwo fs v (.int 0) rL0 (q.1 - 1) rL0 rL1 ++ (rTwo fs v (.int 0) q.1 q.1 rL0 rL1 ++ rTwo fs v (.int 0) (q.1 + 1) rL1 rL0 rL1)).map (fun g => (g, pc, v :: r)))
    | _, _ => none
  | _, _ => none
def rLc (fs : rF) (i : Instr) (st : List Value) : Option (List Value) := match i, st with
  | .lcmp, w :: v :: r => match rRl fs v, rRl fs w with
    | some x, some y => if x.2 < y.1 then some (.int (-1) :: r) else if y.2 < x.1 then some (.int 1 :: r) else if x.1 = x.2 ∧ y.1 = y.2 ∧ x.1 = y.1 then some (.int 0 :: r) else none
    | _, _ => none
  | _, _ => none
def rLq (i : Instr) : Bool := match i with
  | .lcmp => true
  | _ => false
def rNx (k0 : Nat) (e : mI) (fs : rF) (pc : Nat) (lv : mL) (st : List Value) (h : rH) : Option (List rT) :=
  match mA e.1 st with
  | some st' => some [(fs, pc + mLen e.1, lv, st', h)]
  | none => match rLc fs e.1 st with
    | some st' => some [(fs, pc + mLen e.1, lv, st', h)]
    | none => match (if rLq e.1 = true then none else rU fs e.1 st) with
      | some q => some [(q.1, pc + mLen e.1, lv, q.2, h)]
      | none => match rB fs e.1 lv with
        | some v => some [(fs, pc + mLen e.1, lv, v :: st, h)]
        | none => match rD fs e.1 e.2.1 lv st with
          | some (lv', st') => some [(fs, pc + mLen e.1, lv', st', h)]
          | none => match rJ fs e.1 pc st with
            | some (pc', st') => some [(fs, pc', lv, st', h)]
            | none => match rG fs e.1 e.2.1 e.2.2.1 e.2.2.2.2 st h with
              | some q => some [(q.1, pc + mLen e.1, lv, q.2, h)]
              | none => match rP fs k0 e.1 e.2.1 e.2.2.1 e.2.2.2.1 st h with
                | some (st', h') => some [(fs, pc + mLen e.1, lv, st', h')]
                | none => match rMa fs k0 e.1 st h with
                | some q => some [(q.1, pc + mLen e.1, lv, q.2.1, q.2.2)]
                | none => if mIv e.1 = true then (match rX fs e.2.2.2.1 st with
                    | some q => some [(q.1, pc + 3, lv, q.2, h)]
                    | none => match rY fs k0 e.2.2.2.1 st h with
                      | some (st', h') => some [(fs, pc + 3, lv, st', h')]
                      | none => none) else (match rZ fs e.1 pc st with
                    | some l => some (l.map (fun g => (g.1, g.2.1, lv, g.2.2, h)))
                    | none => none)
