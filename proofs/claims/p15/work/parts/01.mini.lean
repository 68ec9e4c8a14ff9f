/-! THE SMALL MACHINE: an interpreter of the bytecode over a heap that is a list. A cell: none (an old one that nobody looks into), an array (its kind, its length, its contents), an object (its class's number, its fields). A reference is a place in that list; the first k0 cells are old: they are never written. -/
abbrev mC : Type := Option ((Nat × vp_A) ⊕ (Nat × List Value))
abbrev mH : Type := List mC
abbrev mL : Type := List (Nat × Value)
/-- an instruction, and what its constant pool entry means: three numbers and a value -/
abbrev mI : Type := Instr × Nat × Nat × Nat × Value
def mSt1 (lv : mL) (i : Nat) (v : Value) : mL := (i, v) :: lv.filter (fun q => !(q.1 == i) && !(q.1 + 1 == i && q.2.category == 2))
def mSt2 (lv : mL) (i : Nat) (v : Value) : mL := (i, v) :: lv.filter (fun q => !(q.1 == i) && (!(q.1 == i + 1) && !(q.1 + 1 == i && q.2.category == 2)))
def mLd : mL → Nat → Option Value
  | [], _ => none
  | q :: r, i => if q.1 = i then some q.2 else mLd r i
def m1i (f : Int32 → Value) (st : List Value) : Option (List Value) := match st with
  | .int x :: r => some (f x :: r)
  | _ => none
def m2i (f : Int32 → Int32 → Value) (st : List Value) : Option (List Value) := match st with
  | .int y :: .int x :: r => some (f x y :: r)
  | _ => none
def m2d (f : Int32 → Int32 → Value) (st : List Value) : Option (List Value) := match st with
  | .int y :: .int x :: r => if y = 0 then none else some (f x y :: r)
  | _ => none
def m1l (f : Int64 → Value) (st : List Value) : Option (List Value) := match st with
  | .long x :: r => some (f x :: r)
  | _ => none
def m2l (f : Int64 → Int64 → Value) (st : List Value) : Option (List Value) := match st with
  | .long y :: .long x :: r => some (f x y :: r)
  | _ => none
def m2e (f : Int64 → Int64 → Value) (st : List Value) : Option (List Value) := match st with
  | .long y :: .long x :: r => if y = 0 then none else some (f x y :: r)
  | _ => none
def m2s (f : Int64 → Int32 → Value) (st : List Value) : Option (List Value) := match st with
  | .int y :: .long x :: r => some (f x y :: r)
  | _ => none
/-- instructions that change the stack alone -/
def mA (i : Instr) (st : List Value) : Option (List Value) := match i with
  | .iconst n => some (.int (Int32.ofInt n) :: st)
  | .bipush n => some (.int (Int8.ofInt n).toInt32 :: st)
  | .sipush n => some (.int (Int16.ofInt n).toInt32 :: st)
  | .lconst n => some (.long (Int64.ofNat (n : Nat)) :: st)
  | .iadd => m2i (fun x y => .int (x + y)) st
  | .isub => m2i (fun x y => .int (x - y)) st
  | .imul => m2i (fun x y => .int (x * y)) st
  | .iand => m2i (fun x y => .int (x &&& y)) st
  | .ior => m2i (fun x y => .int (x ||| y)) st
  | .ixor => m2i (fun x y => .int (x ^^^ y)) st
  | .idiv => m2d (fun x y => .int (x / y)) st
  | .irem => m2d (fun x y => .int (x - x / y * y)) st
  | .ineg => m1i (fun x => .int (-x)) st
  | .ishl => m2i (fun x y => .int (x <<< (y &&& 31))) st
  | .ishr => m2i (fun x y => .int (x >>> (y &&& 31))) st
  | .iushr => m2i (fun x y => .int (x.toUInt32 >>> (y.toUInt32 &&& Int32.toUInt32 31)).toInt32) st
  | .ladd => m2l (fun x y => .long (x + y)) st
  | .lsub => m2l (fun x y => .long (x - y)) st
  | .lmul => m2l (fun x y => .long (x * y)) st
  | .land => m2l (fun x y => .long (x &&& y)) st
  | .lor => m2l (fun x y => .long (x ||| y)) st
  | .ldiv => m2e (fun x y => .long (x / y)) st
  | .lrem => m2e (fun x y => .long (x - x / y * y)) st
  | .lneg => m1l (fun x => .long (-x)) st
  | .lshl => m2s (fun x y => .long (x <<< (y.toInt64 &&& 63))) st
  | .lshr => m2s (fun x y => .long (x >>> (y.toInt64 &&& 63))) st
  | .i2l => m1i (fun x => .long x.toInt64) st
  | .l2i => m1l (fun x => .int x.toInt32) st
  | .i2c => m1i (fun x => .int (x.toUInt32 % 65536).toInt32) st
  | .i2b => m1i (fun x => .int x.toInt8.toInt32) st
  | .lcmp => m2l (fun x y => .int (lg_cmp x y)) st
  | .dup => match st with
    | v :: r => if v.category = 1 then some (v :: v :: r) else none
    | _ => none
  | .pop => match st with
    | v :: r => if v.category = 1 then some r else none
    | _ => none
  | .dup_x1 => match st with
    | v :: w :: r => if v.category = 1 ∧ w.category = 1 then some (v :: w :: v :: r) else none
    | _ => none
  | .dup_x2 => match st with
    | v :: w :: x :: r => if v.category = 1 ∧ w.category = 1 ∧ x.category = 1 then some (v :: w :: x :: v :: r) else none
    | _ => none
  | .dup2 => match st with
    | v :: w :: r => if v.category = 1 ∧ w.category = 1 then some (v :: w :: v :: w :: r) else none
    | _ => none
  | _ => none
/-- loads from the locals -/
def mKi (o : Option Value) : Option Value := match o with
  | some (.int x) => some (.int x)
  | _ => none
def mKl (o : Option Value) : Option Value := match o with
  | some (.long x) => some (.long x)
  | _ => none
def mKr (o : Option Value) : Option Value := match o with
  | some (.ref x) => some (.ref x)
  | _ => none
def mB (i : Instr) (lv : mL) : Option Value := match i with
  | .iload n => mKi (mLd lv n)
  | .iload_n n => mKi (mLd lv n.val)
  | .lload n => mKl (mLd lv n)
  | .lload_n n => mKl (mLd lv n.val)
  | .aload n => mKr (mLd lv n)
  | .aload_n n => mKr (mLd lv n.val)
  | _ => none
/-- stores to the locals -/
def mSi (nL : Nat) (lv : mL) (n : Nat) (st : List Value) : Option (mL × List Value) := match st with
  | .int x :: r => if n < nL then some (mSt1 lv n (.int x), r) else none
  | _ => none
def mSl (nL : Nat) (lv : mL) (n : Nat) (st : List Value) : Option (mL × List Value) := match st with
  | .long x :: r => if n + 1 < nL then some (mSt2 lv n (.long x), r) else none
  | _ => none
def mSr (nL : Nat) (lv : mL) (n : Nat) (st : List Value) : Option (mL × List Value) := match st with
  | .ref x :: r => if n < nL then some (mSt1 lv n (.ref x), r) else none
  | _ => none
def mIc (nL : Nat) (lv : mL) (n : Nat) (c : Int) (o : Option Value) (st : List Value) : Option (mL × List Value) := match o with
  | some (.int x) => if n < nL then some (mSt1 lv n (.int (x + Int32.ofInt c)), st) else none
  | _ => none
def mD (i : Instr) (nL : Nat) (lv : mL) (st : List Value) : Option (mL × List Value) := match i with
  | .istore n => mSi nL lv n st
  | .istore_n n => mSi nL lv n.val st
  | .lstore n => mSl nL lv n st
  | .lstore_n n => mSl nL lv n.val st
  | .astore n => mSr nL lv n st
  | .astore_n n => mSr nL lv n.val st
  | .iinc n c => mIc nL lv n c (mLd lv n) st
  | _ => none
/-- jumps -/
def mTo (pc : Nat) (off : Int) : Option Nat := match (pc : Int) + off with
  | .ofNat n => some n
  | _ => none
def mCnd (c : ClassFile.Cond) (x y : Int32) : Bool := match c with
  | .eq => decide (x = y)
  | .ne => decide (¬ x = y)
  | .lt => decide (x < y)
  | .ge => decide (y ≤ x)
  | .gt => decide (y < x)
  | .le => decide (x ≤ y)
/-- cells that are known to be apart: only they are compared -/
def mEa (x : Nat) : Prop := 2 ≤ x ∧ x < 52
/-- the one String that a method loads: whose constant, its entry, its text, its cell -/
def mRN : String × Nat × String × Nat := ("MixMachine$Operation", 198, "A123456X", 53)
/-- classes of constant objects (numbers beyond the table of classes): the class, the fields that are told -/
def mKc (ci : Nat) : String × List (String × String × String) := match ci with
  | 13 => ("MixMachine$Operation", [("MixMachine$Operation", "pattern", "Ljava/lang/String;"), ("MixMachine$Operation", "code", "I"), ("MixMachine$Operation", "f", "I")])
  | 14 => ("java/lang/String", [("java/lang/String", "value", "[B"), ("java/lang/String", "coder", "B")])
  | _ => ("", [])
def mBr (b : Bool) (pc : Nat) (off : Int) (r : List Value) : Option (Nat × List Value) := match b with
  | true => (mTo pc off).map (fun q => (q, r))
  | false => (mTo pc off).map (fun _ => (pc + 3, r))
def mJ (i : Instr) (pc : Nat) (st : List Value) : Option (Nat × List Value) := match i with
  | .goto off => (mTo pc off).map (fun q => (q, st))
  | .ifCond c off => match st with
    | .int x :: r => mBr (mCnd c x 0) pc off r
    | _ => none
  | .if_icmp c off => match st with
    | .int y :: .int x :: r => mBr (mCnd c x y) pc off r
    | _ => none
  | .if_acmp .eq off => match st with
    | .ref y :: .ref x :: r => if (2 ≤ x ∧ x < 52) ∧ (2 ≤ y ∧ y < 52) then mBr (decide (x = y)) pc off r else none
    | _ => none
  | .if_acmp .ne off => match st with
    | .ref y :: .ref x :: r => if (2 ≤ x ∧ x < 52) ∧ (2 ≤ y ∧ y < 52) then mBr (decide (¬ x = y)) pc off r else none
    | _ => none
  | .tableswitch d lo hi offs => match st with
    | .int x :: r => if x.toInt < lo ∨ hi < x.toInt then (mTo pc d).map (fun q => (q, r)) else match offs[(x.toInt - lo).toNat]? with
      | some off => (mTo pc off).map (fun q => (q, r))
      | none => none
    | _ => none
  | .lookupswitch d ps => match st with
    | .int x :: r => if (ps.toList.zip (ps.toList.drop 1)).all (fun (a, next) => a.1 < next.1) = true then (mTo pc (Op.lookupswitch.offset ps.toList d x.toInt)).map (fun q => (q, r)) else none
    | _ => none
  | _ => none
/-- an index within -/
def mIn (i : Int32) (n : Nat) : Bool := !(decide (i < 0)) && decide (i.toNatClampNeg < n)
/-- reads of the heap, and constants. Kinds of arrays: 0 int, 1 long, 2 char, 3 boolean, 4 the script; old ones: 6 references, 7 bytes -/
def mG (i : Instr) (o1 o2 : Nat) (v : Value) (st : List Value) (h : mH) : Option (List Value) := match i with
  | .getfield _ => match st with
    | .ref a :: r => match h[a]? with
      | some (some (.inr (ci, fs))) => if ci = o1 then (fs[o2]?).map (fun x => x :: r) else none
      | _ => none
    | _ => none
  | .getstatic _ => some (v :: st)
  | .ldc _ => some (v :: st)
  | .ldc_w _ => some (v :: st)
  | .ldc2_w _ => some (v :: st)
  | .iaload => match st with
    | .int i :: .ref a :: r => match h[a]? with
      | some (some (.inl (0, n, .inl f))) => if mIn i n = true then some (.int (f i.toNatClampNeg) :: r) else none
      | some (some (.inl (4, n, .inl f))) => if mIn i n = true then some (.int (f i.toNatClampNeg) :: r) else none
      | _ => none
    | _ => none
  | .caload => match st with
    | .int i :: .ref a :: r => match h[a]? with
      | some (some (.inl (2, n, .inl f))) => if mIn i n = true then some (.int (f i.toNatClampNeg) :: r) else none
      | _ => none
    | _ => none
  | .baload => match st with
    | .int i :: .ref a :: r => match h[a]? with
      | some (some (.inl (3, n, .inl f))) => if mIn i n = true then some (.int (f i.toNatClampNeg) :: r) else none
      | some (some (.inl (7, n, .inl f))) => if mIn i n = true then some (.int (f i.toNatClampNeg) :: r) else none
      | _ => none
    | _ => none
  | .aaload => match st with
    | .int i :: .ref a :: r => match h[a]? with
      | some (some (.inl (6, n, .inr (.inr (.inr (.inr f)))))) => if mIn i n = true then (f i.toNatClampNeg).map (fun q => .ref q :: r) else none
      | _ => none
    | _ => none
  | .laload => match st with
    | .int i :: .ref a :: r => match h[a]? with
      | some (some (.inl (1, n, .inr (.inl f)))) => if mIn i n = true then some (.long (f i.toNatClampNeg) :: r) else none
      | _ => none
    | _ => none
  | .arraylength => match st with
    | .ref a :: r => match h[a]? with
      | some (some (.inl (4, n, .inl _))) => some (.int (Int32.ofNat n) :: r)
      | some (some (.inl (7, n, .inl _))) => some (.int (Int32.ofNat n) :: r)
      | some (some (.inl (6, n, .inr (.inr (.inr (.inr _)))))) => some (.int (Int32.ofNat n) :: r)
      | some (some (.inl (t, n, _))) => if t < 4 then some (.int (Int32.ofNat n) :: r) else none
      | _ => none
    | _ => none
  | _ => none
/-- may this value be put into a field of that kind: 0 int, 1 boolean, 2 long, 3 reference -/
def mFit (k : Nat) (v : Value) : Bool := match k, v with
  | 0, .int _ => true
  | 1, .int x => x == 0 || x == 1
  | 2, .long _ => true
  | 3, .ref _ => true
  | _, _ => false
/-- writes of the heap -/
def mP (k0 : Nat) (i : Instr) (o1 o2 o3 : Nat) (st : List Value) (h : mH) : Option (List Value × mH) := match i with
  | .putfield _ => match st with
    | v :: .ref a :: r => match h[a]? with
      | some (some (.inr (ci, fs))) => if ci = o1 ∧ k0 ≤ a ∧ o2 < fs.length ∧ mFit o3 v = true then some (r, h.set a (some (.inr (ci, fs.set o2 v)))) else none
      | _ => none
    | _ => none
  | .iastore => match st with
    | .int x :: .int i :: .ref a :: r => match h[a]? with
      | some (some (.inl (0, n, .inl f))) => if mIn i n = true ∧ k0 ≤ a then some (r, h.set a (some (.inl (0, n, .inl (upd f i.toNatClampNeg x))))) else none
      | _ => none
    | _ => none
  | .castore => match st with
    | .int x :: .int i :: .ref a :: r => match h[a]? with
      | some (some (.inl (2, n, .inl f))) => if mIn i n = true ∧ k0 ≤ a then some (r, h.set a (some (.inl (2, n, .inl (upd f i.toNatClampNeg (vp_nar .char x)))))) else none
      | _ => none
    | _ => none
  | .bastore => match st with
    | .int x :: .int i :: .ref a :: r => match h[a]? with
      | some (some (.inl (3, n, .inl f))) => if mIn i n = true ∧ k0 ≤ a then some (r, h.set a (some (.inl (3, n, .inl (upd f i.toNatClampNeg (vp_nar .boolean x)))))) else none
      | _ => none
    | _ => none
  | .lastore => match st with
    | .long x :: .int i :: .ref a :: r => match h[a]? with
      | some (some (.inl (1, n, .inr (.inl f)))) => if mIn i n = true ∧ k0 ≤ a then some (r, h.set a (some (.inl (1, n, .inr (.inl (vp_updL f i.toNatClampNeg x)))))) else none
      | _ => none
    | _ => none
  | _ => none
/-- new arrays (at most 1000 places), new objects (their class o1, o2 fields: v is no more than a place for nothing) -/
def mNa (k : Nat) (st : List Value) (h : mH) (a : Nat → vp_A) : Option (List Value × mH) := match st with
  | .int n :: r => if ¬ n < 0 ∧ n.toNatClampNeg ≤ 1000 then some (.ref h.length :: r, h ++ [some (.inl (k, a n.toNatClampNeg))]) else none
  | _ => none
def mN (dflt : Nat → List Value) (i : Instr) (o1 : Nat) (st : List Value) (h : mH) : Option (List Value × mH) := match i with
  | .newarray .int => mNa 0 st h (fun n => (n, .inl (fun _ => 0)))
  | .newarray .long => mNa 1 st h (fun n => (n, .inr (.inl (fun _ => 0))))
  | .newarray .char => mNa 2 st h (fun n => (n, .inl (fun _ => 0)))
  | .newarray .boolean => mNa 3 st h (fun n => (n, .inl (fun _ => 0)))
  | .new _ => some (.ref h.length :: st, h ++ [some (.inr (o1, dflt o1))])
  | _ => none
/-- how long an instruction is (switches apart) -/
def mLen (i : Instr) : Nat := match i with
  | .bipush _ => 2
  | .sipush _ => 3
  | .iload _ => 2
  | .lload _ => 2
  | .aload _ => 2
  | .istore _ => 2
  | .lstore _ => 2
  | .astore _ => 2
  | .iinc _ _ => 3
  | .ldc _ => 2
  | .ldc_w _ => 3
  | .ldc2_w _ => 3
  | .getfield _ => 3
  | .putfield _ => 3
  | .getstatic _ => 3
  | .new _ => 3
  | .newarray _ => 2
  | .invokevirtual _ => 3
  | .invokespecial _ => 3
  | .invokestatic _ => 3
  | .goto _ => 3
  | .ifCond _ _ => 3
  | .if_icmp _ _ => 3
  | .if_acmp _ _ => 3
  | _ => 1
/-- calls that are done at once: 1 the constructor of Object, 2 Math.min, 3 Math.max -/
def mX (o3 : Nat) (st : List Value) (h : mH) : Option (List Value × mH) := match o3 with
  | 1 => match st with
    | .ref _ :: r => if (r.map fun v => v.category).sum ≤ 8 then some (r, h) else none
    | _ => none
  | 2 => match st with
    | .int y :: .int x :: r => if (r.map fun v => v.category).sum ≤ 7 then some (.int (if y < x then y else x) :: r, h) else none
    | _ => none
  | 3 => match st with
    | .int y :: .int x :: r => if (r.map fun v => v.category).sum ≤ 7 then some (.int (if x < y then y else x) :: r, h) else none
    | _ => none
  | _ => none
/-- System.arraycopy from one new array to another: 4 of ints, 5 of longs -/
def mYr (sp dp n : Int32) (n0 n1 : Nat) : Bool := decide ((¬ sp < 0 ∧ ¬ dp < 0 ∧ ¬ n < 0) ∧ sp.toNatClampNeg + n.toNatClampNeg ≤ n0 ∧ dp.toNatClampNeg + n.toNatClampNeg ≤ n1)
def mY (k0 o3 : Nat) (st : List Value) (h : mH) : Option (List Value × mH) := match o3 with
  | 4 => match st with
    | [.int n, .int dp, .ref a, .int sp, .ref b] => match h[a]?, h[b]? with
      | some (some (.inl (0, n1, .inl g))), some (some (.inl (0, n0, .inl f))) => if mYr sp dp n n0 n1 = true ∧ k0 ≤ a ∧ k0 ≤ b ∧ ¬ a = b then some ([], h.set a (some (.inl (0, n1, .inl (va_cpy f g sp.toNatClampNeg dp.toNatClampNeg n.toNatClampNeg))))) else none
      | _, _ => none
    | _ => none
  | 5 => match st with
    | [.int n, .int dp, .ref a, .int sp, .ref b] => match h[a]?, h[b]? with
      | some (some (.inl (1, n1, .inr (.inl g)))), some (some (.inl (1, n0, .inr (.inl f)))) => if mYr sp dp n n0 n1 = true ∧ k0 ≤ a ∧ k0 ≤ b ∧ ¬ a = b then some ([], h.set a (some (.inl (1, n1, .inr (.inl (va_cpy f g sp.toNatClampNeg dp.toNatClampNeg n.toNatClampNeg)))))) else none
      | _, _ => none
    | _ => none
  | _ => none
def mIv (i : Instr) : Bool := match i with
  | .invokevirtual _ => true
  | .invokespecial _ => true
  | .invokestatic _ => true
  | _ => false
def mNw (i : Instr) : Bool := match i with
  | .new _ => true
  | _ => false
/-- the next point, where no call, return or throw is at hand -/
def mNx (k0 : Nat) (dflt : Nat → List Value) (e : mI) (pc : Nat) (lv : mL) (st : List Value) (h : mH) : Option (Nat × mL × List Value × mH) :=
  match mA e.1 st with
  | some st' => some (pc + mLen e.1, lv, st', h)
  | none => match mB e.1 lv with
    | some v => some (pc + mLen e.1, lv, v :: st, h)
    | none => match mD e.1 e.2.1 lv st with
      | some (lv', st') => some (pc + mLen e.1, lv', st', h)
      | none => match mJ e.1 pc st with
        | some (pc', st') => some (pc', lv, st', h)
        | none => match mG e.1 e.2.1 e.2.2.1 e.2.2.2.2 st h with
          | some st' => some (pc + mLen e.1, lv, st', h)
          | none => match mP k0 e.1 e.2.1 e.2.2.1 e.2.2.2.1 st h with
            | some (st', h') => some (pc + mLen e.1, lv, st', h')
            | none => match mN dflt e.1 e.2.1 st h with
              | some (st', h') => some (pc + mLen e.1, lv, st', h')
              | none => if mIv e.1 = true then (match mX e.2.2.2.1 st h with
                | some (st', h') => some (pc + 3, lv, st', h')
                | none => match mY k0 e.2.2.2.1 st h with
                  | some (st', h') => some (pc + 3, lv, st', h')
                  | none => none) else none
/-- what a method answers: a value, or what it has thrown (its kind, its cell) -/
abbrev mO : Type := Option Value ⊕ (Nat × Nat)
/-- returns: kinds 0 int, 1 boolean, 2 char, 3 byte -/
def mRt (i : Instr) (o1 : Nat) (st : List Value) : Option (Option Value) := match i with
  | .ireturn => match st with
    | [.int x] => match o1 with
      | 0 => some (some (.int x))
      | 1 => if x = 0 ∨ x = 1 then some (some (.int x)) else none
      | 2 => if (x.toUInt32 % 65536).toInt32 = x then some (some (.int x)) else none
      | 3 => if x.toInt8.toInt32 = x then some (some (.int x)) else none
      | _ => none
    | _ => none
  | .lreturn => match st with
    | [.long x] => some (some (.long x))
    | _ => none
  | .areturn => match st with
    | [.ref x] => some (some (.ref x))
    | _ => none
  | .return_ => match st with
    | [] => some none
    | _ => none
  | _ => none
/-- a throw: at the 'new' of an exception, o3 its kind and 1 more -/
def mTh (e : mI) : Option Nat := if mNw e.1 = true then (match e.2.2.2.1 with
  | 0 => none
  | x + 1 => some x) else none
/-- the receiver of a call: v tells its class's number -/
def mRc (i : Instr) (v : Value) (as : List Value) (h : mH) : Bool := match i with
  | .invokestatic _ => true
  | .invokespecial _ => match as with
    | .ref _ :: _ => true
    | _ => false
  | .invokevirtual _ => match as with
    | .ref b :: _ => match h[b]? with
      | some (some (.inr (ci, _))) => match v with
        | .retAddr k => ci == k
        | _ => false
      | _ => false
    | _ => false
  | _ => false
/-- a call: o1 the method, o2 how many values it takes -/
def mCl (e : mI) (st : List Value) (h : mH) : Option (Nat × List Value × List Value) :=
  if mIv e.1 = true ∧ e.2.2.2.1 = 0 ∧ e.2.2.1 ≤ st.length ∧ ((st.drop e.2.2.1).map fun v => v.category).sum ≤ 8 ∧ mRc e.1 e.2.2.2.2 (st.take e.2.2.1).reverse h = true then some (e.2.1, (st.take e.2.2.1).reverse, st.drop e.2.2.1) else none
/-- the handler of a throw -/
def mHd (hs : List (Nat × Nat × Nat × Nat)) (pc x : Nat) : Option Nat := match hs with
  | [] => none
  | q :: r => if q.1 ≤ pc ∧ pc < q.2.1 ∧ q.2.2.2 = x then some q.2.2.1 else mHd r pc x
/-- a thrown object: its class's number, and six fields that nobody reads -/
def mXc (x : Nat) : Nat := 9 + x
def mEx (x : Nat) : mC := some (.inr (mXc x, [.null, .null, .null, .null, .null, .null]))
/-- a method's run from a point on: so many steps, so deep a stack -/
def evF (k0 : Nat) (dflt : Nat → List Value) (P : Nat → Nat → Option mI) (Hn : Nat → List (Nat × Nat × Nat × Nat)) (dp : Nat) (call : Nat → List Value → mH → Option (mO × mH)) : Nat → Nat → Nat → mL → List Value → mH → Option (mO × mH)
  | 0, _, _, _, _, _ => none
  | n + 1, mi, pc, lv, st, h => match P mi pc with
    | none => none
    | some e => match mRt e.1 e.2.1 st with
      | some v => some (.inl v, h)
      | none => match mTh e with
        | some x => if 7 ≤ dp ∧ st.isEmpty = true then some (.inr (x, h.length), h ++ [mEx x]) else none
        | none => match mCl e st h with
          | some (ce, as, rest) => match call ce as h with
            | some (.inl v, h') => evF k0 dflt P Hn dp call n mi (pc + 3) lv (v.toList ++ rest) h'
            | some (.inr (x, a), h') => match mHd (Hn mi) pc x with
              | some hp => evF k0 dflt P Hn dp call n mi hp lv [.ref a] h'
              | none => if (Hn mi).isEmpty = true then some (.inr (x, a), h') else none
            | none => none
          | none => match mNx k0 dflt e pc lv st h with
            | some (pc', lv', st', h') => evF k0 dflt P Hn dp call n mi pc' lv' st' h'
            | none => none
/-- a method's run: mx: how many locals each method has -/
def evM (k0 : Nat) (dflt : Nat → List Value) (P : Nat → Nat → Option mI) (Hn : Nat → List (Nat × Nat × Nat × Nat)) (mx : Nat → Nat) : Nat → Nat → Nat → List Value → mH → Option (mO × mH)
  | 0, _, _, _, _ => none
  | d + 1, n, mi, as, h => if (lg_sl as).length ≤ mx mi then evF k0 dflt P Hn (d + 1) (evM k0 dflt P Hn mx d n) n mi 0 (lv_args 0 as) [] h else none
/-- how long an instruction is: a switch's length stands in o1 -/
def mLn (i : Instr) (o1 : Nat) : Nat := match i with
  | .tableswitch _ _ _ _ => o1
  | .lookupswitch _ _ => o1
  | i => mLen i
