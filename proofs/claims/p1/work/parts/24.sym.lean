/-! THE SMALL MACHINE WITH UNKNOWN NUMBERS: .float b stands for an unknown int, .double b for an unknown long; what is known of a number is a list of ranges; an array's contents are one value everywhere, or unknown. A run answers the list of all that can come of it. -/
abbrev aC : Type := Option ((Nat × Nat × Option Value) ⊕ (Nat × List Value))
abbrev aH : Type := List aC
abbrev aF : Type := List (Nat × List (Int × Int))
abbrev aT : Type := aF × Nat × mL × List Value × aH
abbrev aR : Type := aF × mO × aH
def aLe (rs : List (Int × Int)) (c : Int) : List (Int × Int) := rs.filterMap (fun r => if r.1 ≤ c then some (r.1, if r.2 ≤ c then r.2 else c) else none)
def aGe (rs : List (Int × Int)) (c : Int) : List (Int × Int) := rs.filterMap (fun r => if c ≤ r.2 then some (if c ≤ r.1 then r.1 else c, r.2) else none)
/-- the ranges of the unknown numbers: 0 to 4 the script's words, 5 the first word's last four bits, 20 to 27 the characters -/
def aDf (b : Nat) : List (Int × Int) := if b = 5 then [(0, 15)] else if 20 ≤ b ∧ b < 28 then [(0, 255)] else [(-2147483648, 2147483647)]
def aLk : aF → Nat → Option (List (Int × Int))
  | [], _ => none
  | q :: r, b => if q.1 = b then some q.2 else aLk r b
def aGet (fs : aF) (b : Nat) : List (Int × Int) := (aLk fs b).getD (aDf b)
def aSet (fs : aF) (b : Nat) (rs : List (Int × Int)) : aF := (b, rs) :: fs.filter (fun q => !(q.1 == b))
def aNeg (c : ClassFile.Cond) : ClassFile.Cond := match c with
  | .eq => .ne
  | .ne => .eq
  | .lt => .ge
  | .ge => .lt
  | .gt => .le
  | .le => .gt
def aSw (c : ClassFile.Cond) : ClassFile.Cond := match c with
  | .eq => .eq
  | .ne => .ne
  | .lt => .gt
  | .ge => .le
  | .gt => .lt
  | .le => .ge
def aCn (c : ClassFile.Cond) (y : Int) (r : Int × Int) : Bool := match c with
  | .eq => decide (r.1 = y) && decide (r.2 = y)
  | .ne => decide (r.2 < y) || decide (y < r.1)
  | .lt => decide (r.2 < y)
  | .ge => decide (y ≤ r.1)
  | .gt => decide (y < r.1)
  | .le => decide (r.2 ≤ y)
def aDec (c : ClassFile.Cond) (rs : List (Int × Int)) (y : Int) : Option Bool := if rs.all (aCn c y) = true then some true else if rs.all (aCn (aNeg c) y) = true then some false else none
def aSg (rs : List (Int × Int)) (y : Int) : Option Int32 := if rs.all (aCn .gt y) = true then some 1 else if rs.all (aCn .eq y) = true then some 0 else if rs.all (aCn .lt y) = true then some (-1) else none
def aCut (c : ClassFile.Cond) (rs : List (Int × Int)) (y : Int) : List (List (Int × Int)) := match c with
  | .lt => [aLe rs (y - 1), aGe rs y]
  | .ge => [aLe rs (y - 1), aGe rs y]
  | .gt => [aLe rs y, aGe rs (y + 1)]
  | .le => [aLe rs y, aGe rs (y + 1)]
  | _ => [aLe rs (y - 1), aLe (aGe rs y) y, aGe rs (y + 1)]
def aVals (rs : List (Int × Int)) : Option (List Int) := if rs.all (fun r => decide (r.2 - r.1 ≤ 64)) = true then some (rs.flatMap (fun r => (List.range (r.2 - r.1 + 1).toNat).map (fun (k : Nat) => r.1 + (k : Int)))) else none
def aExa (v : Value) : Bool := match v with
  | .float _ => false
  | .double _ => false
  | _ => true
/-- ids whose int and long are one number -/
def aAg (b : Nat) : Bool := decide (b < 5) || (decide (20 ≤ b) && decide (b < 28))
/-- unknown numbers: what is done with them without a question -/
def aU (i : Instr) (st : List Value) : Option (List Value) := match i, st with
  | .iand, .int y :: .float b :: r => if b.toNat = 0 ∧ y = 15 then some (.float 5 :: r) else none
  | .i2l, .float b :: r => if b.toNat < 5 then some (.double (UInt64.ofNat b.toNat) :: r) else none
  | .lshl, .int y :: .double b :: r => if b.toNat = 1 ∧ y = 32 then some (.double 5 :: r) else none
  | .land, .long y :: .double b :: r => if b.toNat = 2 ∧ y = 4294967295 then some (.double 6 :: r) else if 10 ≤ b.toNat ∧ b.toNat < 18 ∧ y = 255 then some (.double (UInt64.ofNat (b.toNat + 10)) :: r) else none
  | .lor, .double c :: .double b :: r => if b.toNat = 5 ∧ c.toNat = 6 then some (.double 7 :: r) else none
  | .lshr, .int y :: .double b :: r => if b.toNat = 7 ∧ y.toNatClampNeg / 8 < 8 ∧ y = Int32.ofNat (8 * (y.toNatClampNeg / 8)) then some (.double (UInt64.ofNat (10 + y.toNatClampNeg / 8)) :: r) else none
  | .l2i, .double b :: r => if 20 ≤ b.toNat ∧ b.toNat < 28 then some (.float (UInt32.ofNat b.toNat) :: r) else none
  | .i2c, .float b :: r => if 20 ≤ b.toNat ∧ b.toNat < 28 then some (.float b :: r) else none
  | _, _ => none
def aLc (fs : aF) (i : Instr) (st : List Value) : Option (List Value) := match i, st with
  | .lcmp, .long y :: .double b :: r => if aAg b.toNat = true then (aSg (aGet fs b.toNat) y.toInt).map (fun v => .int v :: r) else none
  | _, _ => none
def aKi (o : Option Value) : Option Value := match o with
  | some (.int x) => some (.int x)
  | some (.float x) => some (.float x)
  | _ => none
def aKl (o : Option Value) : Option Value := match o with
  | some (.long x) => some (.long x)
  | some (.double x) => some (.double x)
  | _ => none
def aB (i : Instr) (lv : mL) : Option Value := match i with
  | .iload n => aKi (mLd lv n)
  | .iload_n n => aKi (mLd lv n.val)
  | .lload n => aKl (mLd lv n)
  | .lload_n n => aKl (mLd lv n.val)
  | .aload n => mKr (mLd lv n)
  | .aload_n n => mKr (mLd lv n.val)
  | _ => none
def aSi (nL : Nat) (lv : mL) (n : Nat) (st : List Value) : Option (mL × List Value) := match st with
  | .int x :: r => if n < nL then some (mSt1 lv n (.int x), r) else none
  | .float x :: r => if n < nL then some (mSt1 lv n (.float x), r) else none
  | _ => none
def aSl (nL : Nat) (lv : mL) (n : Nat) (st : List Value) : Option (mL × List Value) := match st with
  | .long x :: r => if n + 1 < nL then some (mSt2 lv n (.long x), r) else none
  | .double x :: r => if n + 1 < nL then some (mSt2 lv n (.double x), r) else none
  | _ => none
def aD (i : Instr) (nL : Nat) (lv : mL) (st : List Value) : Option (mL × List Value) := match i with
  | .istore n => aSi nL lv n st
  | .istore_n n => aSi nL lv n.val st
  | .lstore n => aSl nL lv n st
  | .lstore_n n => aSl nL lv n.val st
  | .astore n => mSr nL lv n st
  | .astore_n n => mSr nL lv n.val st
  | .iinc n c => mIc nL lv n c (mLd lv n) st
  | _ => none
/-- jumps: mJ where all is known -/
def aJ (fs : aF) (i : Instr) (pc : Nat) (st : List Value) : Option (Nat × List Value) := match i, st with
  | .ifCond c off, .float b :: r => match aDec c (aGet fs b.toNat) 0 with
    | some t => mBr t pc off r
    | none => none
  | .if_icmp c off, .int y :: .float b :: r => match aDec c (aGet fs b.toNat) y.toInt with
    | some t => mBr t pc off r
    | none => none
  | .if_icmp c off, .float b :: .int x :: r => match aDec (aSw c) (aGet fs b.toNat) x.toInt with
    | some t => mBr t pc off r
    | none => none
  | .tableswitch d lo hi _, .float b :: r => if ((aGet fs b.toNat).all (fun q => decide (q.2 < lo) || decide (hi < q.1))) = true then (mTo pc d).map (fun q => (q, r)) else none
  | .if_acmp _ _, _ => none
  | i, st => mJ i pc st
/-- an index within: a known one or an unknown one -/
def aIx (fs : aF) (n : Nat) (v : Value) : Bool := match v with
  | .int i => mIn i n
  | .float b => (aGet fs b.toNat).all (fun q => decide (0 ≤ q.1) && decide (q.2 < n))
  | _ => false
/-- reads -/
def aG (fs : aF) (i : Instr) (o1 o2 : Nat) (v : Value) (st : List Value) (h : aH) : Option (List Value) := match i with
  | .getfield _ => match st with
    | .ref a :: r => match h[a]? with
      | some (some (.inr (ci, fs))) => if ci = o1 then (fs[o2]?).map (fun x => x :: r) else none
      | _ => none
    | _ => none
  | .getstatic _ => if aExa v = true then some (v :: st) else none
  | .ldc _ => if aExa v = true then some (v :: st) else none
  | .ldc_w _ => if aExa v = true then some (v :: st) else none
  | .ldc2_w _ => if aExa v = true then some (v :: st) else none
  | .iaload => match st with
    | x :: .ref a :: r => match h[a]? with
      | some (some (.inl (0, n, some z))) => if aIx fs n x = true then some (z :: r) else none
      | some (some (.inl (5, n, _))) => match x with
        | .int i => if mIn i n = true ∧ i.toNatClampNeg < 5 then some (.float (UInt32.ofNat i.toNatClampNeg) :: r) else none
        | _ => none
      | _ => none
    | _ => none
  | .caload => match st with
    | x :: .ref a :: r => match h[a]? with
      | some (some (.inl (2, n, some z))) => if aIx fs n x = true then some (z :: r) else none
      | _ => none
    | _ => none
  | .baload => match st with
    | x :: .ref a :: r => match h[a]? with
      | some (some (.inl (3, n, some z))) => if aIx fs n x = true then some (z :: r) else none
      | _ => none
    | _ => none
  | .laload => match st with
    | x :: .ref a :: r => match h[a]? with
      | some (some (.inl (1, n, some z))) => if aIx fs n x = true then some (z :: r) else none
      | _ => none
    | _ => none
  | .arraylength => match st with
    | .ref a :: r => match h[a]? with
      | some (some (.inl (t, n, _))) => if t < 6 then some (.int (Int32.ofNat n) :: r) else none
      | _ => none
    | _ => none
  | _ => none
def aFit (k : Nat) (v : Value) : Bool := match k, v with
  | 0, .int _ => true
  | 0, .float _ => true
  | 1, .int x => x == 0 || x == 1
  | 2, .long _ => true
  | 2, .double _ => true
  | 3, .ref _ => true
  | _, _ => false
/-- an array's contents once v is written into it -/
def aPut (n : Nat) (z : Option Value) (v : Value) : Option Value := if n = 1 then some v else if z = some v then z else none
def aP (fs : aF) (k0 : Nat) (i : Instr) (o1 o2 o3 : Nat) (st : List Value) (h : aH) : Option (List Value × aH) := match i with
  | .putfield _ => match st with
    | v :: .ref a :: r => match h[a]? with
      | some (some (.inr (ci, fs))) => if ci = o1 ∧ k0 ≤ a ∧ o2 < fs.length ∧ aFit o3 v = true then some (r, h.set a (some (.inr (ci, fs.set o2 v)))) else none
      | _ => none
    | _ => none
  | .iastore => match st with
    | v :: x :: .ref a :: r => match h[a]? with
      | some (some (.inl (0, n, z))) => if aIx fs n x = true ∧ k0 ≤ a ∧ aFit 0 v = true then some (r, h.set a (some (.inl (0, n, aPut n z v)))) else none
      | _ => none
    | _ => none
  | .castore => match st with
    | v :: x :: .ref a :: r => match h[a]? with
      | some (some (.inl (2, n, _))) => if aIx fs n x = true ∧ k0 ≤ a ∧ aFit 0 v = true then some (r, h.set a (some (.inl (2, n, none)))) else none
      | _ => none
    | _ => none
  | .bastore => match st with
    | v :: x :: .ref a :: r => match h[a]? with
      | some (some (.inl (3, n, _))) => if aIx fs n x = true ∧ k0 ≤ a ∧ aFit 0 v = true then some (r, h.set a (some (.inl (3, n, none)))) else none
      | _ => none
    | _ => none
  | .lastore => match st with
    | v :: x :: .ref a :: r => match h[a]? with
      | some (some (.inl (1, n, z))) => if aIx fs n x = true ∧ k0 ≤ a ∧ aFit 2 v = true then some (r, h.set a (some (.inl (1, n, aPut n z v)))) else none
      | _ => none
    | _ => none
  | _ => none
def aNa (k : Nat) (z : Value) (st : List Value) (h : aH) : Option (List Value × aH) := match st with
  | .int n :: r => if ¬ n < 0 ∧ n.toNatClampNeg ≤ 1000 then some (.ref h.length :: r, h ++ [some (.inl (k, n.toNatClampNeg, some z))]) else none
  | _ => none
def aN (dflt : Nat → List Value) (i : Instr) (o1 : Nat) (st : List Value) (h : aH) : Option (List Value × aH) := match i with
  | .newarray .int => aNa 0 (.int 0) st h
  | .newarray .long => aNa 1 (.long 0) st h
  | .newarray .char => aNa 2 (.int 0) st h
  | .newarray .boolean => aNa 3 (.int 0) st h
  | .new _ => if (dflt o1).all aExa = true then some (.ref h.length :: st, h ++ [some (.inr (o1, dflt o1))]) else none
  | _ => none
def aX (o3 : Nat) (st : List Value) : Option (List Value) := match o3 with
  | 1 => match st with
    | .ref _ :: r => if (r.map fun v => v.category).sum ≤ 8 then some r else none
    | _ => none
  | 2 => match st with
    | .int y :: .int x :: r => if (r.map fun v => v.category).sum ≤ 7 then some (.int (if y < x then y else x) :: r) else none
    | _ => none
  | 3 => match st with
    | .int y :: .int x :: r => if (r.map fun v => v.category).sum ≤ 7 then some (.int (if x < y then y else x) :: r) else none
    | _ => none
  | _ => none
/-- questions: nothing is done, but more is known -/
def aCs (fs : aF) (b : Nat) (rss : List (List (Int × Int))) (st : List Value) : List (aF × List Value) := (rss.filter (fun rs => !rs.isEmpty)).map (fun rs => (aSet fs b rs, st))
def aVs (fs : aF) (b : Nat) (vs : List Int) (f : Value → List Value) : List (aF × List Value) := vs.map (fun v => (aSet fs b [(v, v)], f (.int (Int32.ofInt v))))
def aAr (i : Instr) : Bool := match i with
  | .iadd => true
  | .isub => true
  | .imul => true
  | _ => false
def aZ (fs : aF) (i : Instr) (st : List Value) : Option (List (aF × List Value)) := match i, st with
  | .ifCond c _, .float b :: r => some (aCs fs b.toNat (aCut c (aGet fs b.toNat) 0) (.float b :: r))
  | .if_icmp c _, .int y :: .float b :: r => some (aCs fs b.toNat (aCut c (aGet fs b.toNat) y.toInt) (.int y :: .float b :: r))
  | .if_icmp c _, .float b :: .int x :: r => some (aCs fs b.toNat (aCut (aSw c) (aGet fs b.toNat) x.toInt) (.float b :: .int x :: r))
  | .lcmp, .long y :: .double b :: r => if aAg b.toNat = true then some (aCs fs b.toNat (aCut .eq (aGet fs b.toNat) y.toInt) (.long y :: .double b :: r)) else none
  | .tableswitch _ lo hi _, .float b :: r => (aVals (aLe (aGe (aGet fs b.toNat) lo) hi)).map (fun vs => aCs fs b.toNat [aLe (aGet fs b.toNat) (lo - 1), aGe (aGet fs b.toNat) (hi + 1)] (.float b :: r) ++ aVs fs b.toNat vs (fun v => v :: r))
  | i, .float b :: r => if aAr i = true then (aVals (aGet fs b.toNat)).map (fun vs => aVs fs b.toNat vs (fun v => v :: r)) else none
  | i, .int y :: .float b :: r => if aAr i = true then (aVals (aGet fs b.toNat)).map (fun vs => aVs fs b.toNat vs (fun v => .int y :: v :: r)) else none
  | _, _ => none
/-- the next states, where no call, return or throw is at hand -/
def aNx (k0 : Nat) (dflt : Nat → List Value) (e : mI) (fs : aF) (pc : Nat) (lv : mL) (st : List Value) (h : aH) : Option (List aT) :=
  match mA e.1 st with
  | some st' => some [(fs, pc + mLen e.1, lv, st', h)]
  | none => match aU e.1 st with
    | some st' => some [(fs, pc + mLen e.1, lv, st', h)]
    | none => match aLc fs e.1 st with
      | some st' => some [(fs, pc + mLen e.1, lv, st', h)]
      | none => match aB e.1 lv with
        | some v => some [(fs, pc + mLen e.1, lv, v :: st, h)]
        | none => match aD e.1 e.2.1 lv st with
          | some (lv', st') => some [(fs, pc + mLen e.1, lv', st', h)]
          | none => match aJ fs e.1 pc st with
            | some (pc', st') => some [(fs, pc', lv, st', h)]
            | none => match aG fs e.1 e.2.1 e.2.2.1 e.2.2.2.2 st h with
              | some st' => some [(fs, pc + mLen e.1, lv, st', h)]
              | none => match aP fs k0 e.1 e.2.1 e.2.2.1 e.2.2.2.1 st h with
                | some (st', h') => some [(fs, pc + mLen e.1, lv, st', h')]
                | none => match aN dflt e.1 e.2.1 st h with
                  | some (st', h') => some [(fs, pc + mLen e.1, lv, st', h')]
                  | none => if mIv e.1 = true then (match aX e.2.2.2.1 st with
                    | some st' => some [(fs, pc + 3, lv, st', h)]
                    | none => none) else (match aZ fs e.1 st with
                    | some l => some (l.map (fun q => (q.1, pc, lv, q.2, h)))
                    | none => none)
def aRt (i : Instr) : Bool := match i with
  | .ireturn => true
  | .lreturn => true
  | .areturn => true
  | .return_ => true
  | _ => false
def aRc (i : Instr) (v : Value) (as : List Value) (h : aH) : Bool := match i with
  | .invokestatic _ => true
  | .invokespecial _ => match as with
    | .ref _ :: _ => true
    | _ => false
  | .invokevirtual _ => match as with
    | .ref b :: _ => match h[b]? with
      | some (some (.inr (ci, _))) => match v with
        | .retAddr k => ci == k
        | _ => false
      | _ => false
    | _ => false
  | _ => false
def aEx (x : Nat) : aC := some (.inr (mXc x, [.null, .null, .null, .null, .null, .null]))
def aAf (Hn : Nat → List (Nat × Nat × Nat × Nat)) (mi pc : Nat) (lv : mL) (rest : List Value) (r : aR) : Option (aT ⊕ aR) := match r with
  | (fs, .inl v, h) => some (.inl (fs, pc + 3, lv, v.toList ++ rest, h))
  | (fs, .inr (x, a), h) => match mHd (Hn mi) pc x with
    | some hp => some (.inl (fs, hp, lv, [.ref a], h))
    | none => if (Hn mi).isEmpty = true then some (.inr (fs, .inr (x, a), h)) else none
def aMap {α β : Type} (f : α → Option β) : List α → Option (List β)
  | [] => some []
  | a :: r => match f a with
    | none => none
    | some b => match aMap f r with
      | none => none
      | some l => some (b :: l)
def aSp (k0 : Nat) (dflt : Nat → List Value) (P : Nat → Nat → Option mI) (Hn : Nat → List (Nat × Nat × Nat × Nat)) (dp : Nat) (call : Nat → List Value → aF → aH → Option (List aR)) (mi : Nat) (s : aT) : Option (List (aT ⊕ aR)) :=
  match P mi s.2.1 with
  | none => none
  | some e => if aRt e.1 = true then (match mRt e.1 e.2.1 s.2.2.2.1 with
      | some v => some [.inr (s.1, .inl v, s.2.2.2.2)]
      | none => none) else
    match mTh e with
    | some x => if 7 ≤ dp ∧ s.2.2.2.1.isEmpty = true then some [.inr (s.1, .inr (x, s.2.2.2.2.length), s.2.2.2.2 ++ [aEx x])] else none
    | none => if mIv e.1 = true ∧ e.2.2.2.1 = 0 then
        (if e.2.2.1 ≤ s.2.2.2.1.length ∧ ((s.2.2.2.1.drop e.2.2.1).map fun v => v.category).sum ≤ 8 ∧ aRc e.1 e.2.2.2.2 (s.2.2.2.1.take e.2.2.1).reverse s.2.2.2.2 = true then
          (match call e.2.1 (s.2.2.2.1.take e.2.2.1).reverse s.1 s.2.2.2.2 with
            | some rs => aMap (aAf Hn mi s.2.1 s.2.2.1 (s.2.2.2.1.drop e.2.2.1)) rs
            | none => none) else none)
      else match aNx k0 dflt e s.1 s.2.1 s.2.2.1 s.2.2.2.1 s.2.2.2.2 with
        | some l => some (l.map Sum.inl)
        | none => none
/-- a stretch: to the next point of joining -/
def aSeg (k0 : Nat) (dflt : Nat → List Value) (P : Nat → Nat → Option mI) (Hn : Nat → List (Nat × Nat × Nat × Nat)) (jp : Nat → Nat → Bool) (dp : Nat) (call : Nat → List Value → aF → aH → Option (List aR)) (mi : Nat) : Nat → aT → Option (List (aT ⊕ aR))
  | 0, _ => none
  | n + 1, s => match aSp k0 dflt P Hn dp call mi s with
    | none => none
    | some l => match aMap (fun q => match q with
      | .inr r => some [.inr r]
      | .inl t => if jp mi t.2.1 = true then some [.inl t] else aSeg k0 dflt P Hn jp dp call mi n t) l with
      | none => none
      | some ls => some ls.flatten
/-- joining: two that differ in the ranges of one number alone -/
def aJn : aF → aF → Option aF
  | [], [] => some []
  | a :: f, b :: g => if a = b then (aJn f g).map (fun r => a :: r) else if a.1 = b.1 ∧ f = g then some ((a.1, a.2 ++ b.2) :: f) else none
  | _, _ => none
def aDqC : DecidableEq aC := fun a b => inferInstance
def aDqH : DecidableEq aH := @instDecidableEqList aC aDqC
def aDqT : DecidableEq (Nat × mL × List Value × aH) := @instDecidableEqProd Nat _ inferInstance (@instDecidableEqProd mL _ inferInstance (@instDecidableEqProd (List Value) _ inferInstance aDqH))
def aDqR : DecidableEq (mO × aH) := @instDecidableEqProd mO _ inferInstance aDqH
def aIns {β : Type} (dq : DecidableEq β) (x : aF × β) : List (aF × β) → List (aF × β)
  | [] => [x]
  | y :: r => if x.2 = y.2 then (match aJn x.1 y.1 with
    | some f => (f, y.2) :: r
    | none => y :: aIns dq x r) else y :: aIns dq x r
def aMg {β : Type} (dq : DecidableEq β) : List (aF × β) → List (aF × β)
  | [] => []
  | x :: r => aIns dq x (aMg dq r)
def aLs {α β : Type} : List (α ⊕ β) → List α
  | [] => []
  | .inl a :: r => a :: aLs r
  | .inr _ :: r => aLs r
def aRs {α β : Type} : List (α ⊕ β) → List β
  | [] => []
  | .inl _ :: r => aRs r
  | .inr b :: r => b :: aRs r
def aRnd (seg : aT → Option (List (aT ⊕ aR))) : Nat → List aT → List aR → Option (List aR)
  | 0, _, _ => none
  | _ + 1, [], dn => some dn
  | n + 1, s :: pd, dn => match aMap seg (s :: pd) with
    | none => none
    | some ls => aRnd seg n (aMg aDqT (aLs ls.flatten)) (dn ++ aRs ls.flatten)
def aM (k0 : Nat) (dflt : Nat → List Value) (P : Nat → Nat → Option mI) (Hn : Nat → List (Nat × Nat × Nat × Nat)) (mx : Nat → Nat) (jp : Nat → Nat → Bool) (f k : Nat) : Nat → Nat → List Value → aF → aH → Option (List aR)
  | 0, _, _, _, _ => none
  | d + 1, mi, as, fs, h => if (lg_sl as).length ≤ mx mi then (match aRnd (aSeg k0 dflt P Hn jp (d + 1) (aM k0 dflt P Hn mx jp f k d) mi f) k [(fs, 0, lv_args 0 as, [], h)] [] with
    | some rs => some (aMg aDqR rs)
    | none => none) else none
