section
/-! THE SMALL MACHINE: an interpreter of the bytecode over a heap that is a list. A cell: none (an old one that nobody looks into), an array (its kind, its length, its contents), an object (its class's number, its fields). A reference is a place in that list; the first k0 cells are old: they are never written. -/
abbrev mC : Type := Option ((Nat × vp_A) ⊕ (Nat × List Value))
abbrev mH : Type := List mC
abbrev mL : Type := List (Nat × Value)
/-- an instruction, and what its constant pool entry means: three numbers and a value -/
abbrev mI : Type := Instr × Nat × Nat × Nat × Value
def mSt1 (lv : mL) (i : Nat) (v : Value) : mL := (i, v) :: lv.filter (fun q => !(q.1 == i) && !(q.1 + 1 == i && q.2.category == 2))
def mSt2 (lv : mL) (i : Nat) (v : Value) : mL := (i, v) :: lv.filter (fun q => !(q.1 == i) && (!(q.1 == i + 1) && !(q.1 + 1 == i && q.2.category == 2)))
def mLd : mL → Nat → Option Value
  | [], _ => none
  | q :: r, i => if q.1 = i then some q.2 else mLd r i
def m1i (f : Int32 → Value) (st : List Value) : Option (List Value) := match st with
  | .int x :: r => some (f x :: r)
  | _ => none
def m2i (f : Int32 → Int32 → Value) (st : List Value) : Option (List Value) := match st with
  | .int y :: .int x :: r => some (f x y :: r)
  | _ => none
def m2d (f : Int32 → Int32 → Value) (st : List Value) : Option (List Value) := match st with
  | .int y :: .int x :: r => if y = 0 then none else some (f x y :: r)
  | _ => none
def m1l (f : Int64 → Value) (st : List Value) : Option (List Value) := match st with
  | .long x :: r => some (f x :: r)
  | _ => none
def m2l (f : Int64 → Int64 → Value) (st : List Value) : Option (List Value) := match st with
  | .long y :: .long x :: r => some (f x y :: r)
  | _ => none
def m2e (f : Int64 → Int64 → Value) (st : List Value) : Option (List Value) := match st with
  | .long y :: .long x :: r => if y = 0 then none else some (f x y :: r)
  | _ => none
def m2s (f : Int64 → Int32 → Value) (st : List Value) : Option (List Value) := match st with
  | .int y :: .long x :: r => some (f x y :: r)
  | _ => none
/-- instructions that change the stack alone -/
def mA (i : Instr) (st : List Value) : Option (List Value) := match i with
  | .iconst n => some (.int (Int32.ofInt n) :: st)
  | .bipush n => some (.int (Int8.ofInt n).toInt32 :: st)
  | .sipush n => some (.int (Int16.ofInt n).toInt32 :: st)
  | .lconst n => some (.long (Int64.ofNat (n : Nat)) :: st)
  | .iadd => m2i (fun x y => .int (x + y)) st
  | .isub => m2i (fun x y => .int (x - y)) st
  | .imul => m2i (fun x y => .int (x * y)) st
  | .iand => m2i (fun x y => .int (x &&& y)) st
  | .ior => m2i (fun x y => .int (x ||| y)) st
  | .ixor => m2i (fun x y => .int (x ^^^ y)) st
  | .idiv => m2d (fun x y => .int (x / y)) st
  | .irem => m2d (fun x y => .int (x - x / y * y)) st
  | .ineg => m1i (fun x => .int (-x)) st
  | .ishl => m2i (fun x y => .int (x <<< (y &&& 31))) st
  | .ishr => m2i (fun x y => .int (x >>> (y &&& 31))) st
  | .iushr => m2i (fun x y => .int (x.toUInt32 >>> (y.toUInt32 &&& Int32.toUInt32 31)).toInt32) st
  | .ladd => m2l (fun x y => .long (x + y)) st
  | .lsub => m2l (fun x y => .long (x - y)) st
  | .lmul => m2l (fun x y => .long (x * y)) st
  | .land => m2l (fun x y => .long (x &&& y)) st
  | .lor => m2l (fun x y => .long (x ||| y)) st
  | .ldiv => m2e (fun x y => .long (x / y)) st
  | .lrem => m2e (fun x y => .long (x - x / y * y)) st
  | .lneg => m1l (fun x => .long (-x)) st
  | .lshl => m2s (fun x y => .long (x <<< (y.toInt64 &&& 63))) st
  | .lshr => m2s (fun x y => .long (x >>> (y.toInt64 &&& 63))) st
  | .i2l => m1i (fun x => .long x.toInt64) st
  | .l2i => m1l (fun x => .int x.toInt32) st
  | .i2c => m1i (fun x => .int (x.toUInt32 % 65536).toInt32) st
  | .i2b => m1i (fun x => .int x.toInt8.toInt32) st
  | .lcmp => m2l (fun x y => .int (lg_cmp x y)) st
  | .dup => match st with
    | v :: r => if v.category = 1 then some (v :: v :: r) else none
    | _ => none
  | .pop => match st with
    | v :: r => if v.category = 1 then some r else none
    | _ => none
  | .dup_x1 => match st with
    | v :: w :: r => if v.category = 1 ∧ w.category = 1 then some (v :: w :: v :: r) else none
    | _ => none
  | .dup_x2 => match st with
    | v :: w :: x :: r => if v.category = 1 ∧ w.category = 1 ∧ x.category = 1 then some (v :: w :: x :: v :: r) else none
    | _ => none
  | .dup2 => match st with
    | v :: w :: r => if v.category = 1 ∧ w.category = 1 then some (v :: w :: v :: w :: r) else none
    | _ => none
  | _ => none
/-- loads from the locals -/
def mKi (o : Option Value) : Option Value := match o with
  | some (.int x) => some (.int x)
  | _ => none
def mKl (o : Option Value) : Option Value := match o with
  | some (.long x) => some (.long x)
  | _ => none
def mKr (o : Option Value) : Option Value := match o with
  | some (.ref x) => some (.ref x)
  | _ => none
def mB (i : Instr) (lv : mL) : Option Value := match i with
  | .iload n => mKi (mLd lv n)
  | .iload_n n => mKi (mLd lv n.val)
  | .lload n => mKl (mLd lv n)
  | .lload_n n => mKl (mLd lv n.val)
  | .aload n => mKr (mLd lv n)
  | .aload_n n => mKr (mLd lv n.val)
  | _ => none
/-- stores to the locals -/
def mSi (nL : Nat) (lv : mL) (n : Nat) (st : List Value) : Option (mL × List Value) := match st with
  | .int x :: r => if n < nL then some (mSt1 lv n (.int x), r) else none
  | _ => none
def mSl (nL : Nat) (lv : mL) (n : Nat) (st : List Value) : Option (mL × List Value) := match st with
  | .long x :: r => if n + 1 < nL then some (mSt2 lv n (.long x), r) else none
  | _ => none
def mSr (nL : Nat) (lv : mL) (n : Nat) (st : List Value) : Option (mL × List Value) := match st with
  | .ref x :: r => if n < nL then some (mSt1 lv n (.ref x), r) else none
  | _ => none
def mIc (nL : Nat) (lv : mL) (n : Nat) (c : Int) (o : Option Value) (st : List Value) : Option (mL × List Value) := match o with
  | some (.int x) => if n < nL then some (mSt1 lv n (.int (x + Int32.ofInt c)), st) else none
  | _ => none
def mD (i : Instr) (nL : Nat) (lv : mL) (st : List Value) : Option (mL × List Value) := match i with
  | .istore n => mSi nL lv n st
  | .istore_n n => mSi nL lv n.val st
  | .lstore n => mSl nL lv n st
  | .lstore_n n => mSl nL lv n.val st
  | .astore n => mSr nL lv n st
  | .astore_n n => mSr nL lv n.val st
  | .iinc n c => mIc nL lv n c (mLd lv n) st
  | _ => none
/-- jumps -/
def mTo (pc : Nat) (off : Int) : Option Nat := match (pc : Int) + off with
  | .ofNat n => some n
  | _ => none
def mCnd (c : ClassFile.Cond) (x y : Int32) : Bool := match c with
  | .eq => decide (x = y)
  | .ne => decide (¬ x = y)
  | .lt => decide (x < y)
  | .ge => decide (y ≤ x)
  | .gt => decide (y < x)
  | .le => decide (x ≤ y)
/-- cells that are known to be apart: only they are compared -/
def mEa (x : Nat) : Prop := 2 ≤ x ∧ x < 52
/-- the one String that a method loads: whose constant, its entry, its text, its cell -/
def mRN : String × Nat × String × Nat := ("MixMachine$Operation", 198, "A123456X", 53)
/-- classes of constant objects (numbers beyond the table of classes): the class, the fields that are told -/
def mKc (ci : Nat) : String × List (String × String × String) := match ci with
  | 13 => ("MixMachine$Operation", [("MixMachine$Operation", "pattern", "Ljava/lang/String;"), ("MixMachine$Operation", "code", "I"), ("MixMachine$Operation", "f", "I")])
  | 14 => ("java/lang/String", [("java/lang/String", "value", "[B"), ("java/lang/String", "coder", "B")])
  | _ => ("", [])
def mBr (b : Bool) (pc : Nat) (off : Int) (r : List Value) : Option (Nat × List Value) := match b with
  | true => (mTo pc off).map (fun q => (q, r))
  | false => (mTo pc off).map (fun _ => (pc + 3, r))
def mJ (i : Instr) (pc : Nat) (st : List Value) : Option (Nat × List Value) := match i with
  | .goto off => (mTo pc off).map (fun q => (q, st))
  | .ifCond c off => match st with
    | .int x :: r => mBr (mCnd c x 0) pc off r
    | _ => none
  | .if_icmp c off => match st with
    | .int y :: .int x :: r => mBr (mCnd c x y) pc off r
    | _ => none
  | .if_acmp .eq off => match st with
    | .ref y :: .ref x :: r => if (2 ≤ x ∧ x < 52) ∧ (2 ≤ y ∧ y < 52) then mBr (decide (x = y)) pc off r else none
    | _ => none
  | .if_acmp .ne off => match st with
    | .ref y :: .ref x :: r => if (2 ≤ x ∧ x < 52) ∧ (2 ≤ y ∧ y < 52) then mBr (decide (¬ x = y)) pc off r else none
    | _ => none
  | .tableswitch d lo hi offs => match st with
    | .int x :: r => if x.toInt < lo ∨ hi < x.toInt then (mTo pc d).map (fun q => (q, r)) else match offs[(x.toInt - lo).toNat]? with
      | some off => (mTo pc off).map (fun q => (q, r))
      | none => none
    | _ => none
  | .lookupswitch d ps => match st with
    | .int x :: r => if (ps.toList.zip (ps.toList.drop 1)).all (fun (a, next) => a.1 < next.1) = true then (mTo pc (Op.lookupswitch.offset ps.toList d x.toInt)).map (fun q => (q, r)) else none
    | _ => none
  | _ => none
/-- an index within -/
def mIn (i : Int32) (n : Nat) : Bool := !(decide (i < 0)) && decide (i.toNatClampNeg < n)
/-- reads of the heap, and constants. Kinds of arrays: 0 int, 1 long, 2 char, 3 boolean, 4 the script; old ones: 6 references, 7 bytes -/
def mG (i : Instr) (o1 o2 : Nat) (v : Value) (st : List Value) (h : mH) : Option (List Value) := match i with
  | .getfield _ => match st with
    | .ref a :: r => match h[a]? with
      | some (some (.inr (ci, fs))) => if ci = o1 then (fs[o2]?).map (fun x => x :: r) else none
      | _ => none
    | _ => none
  | .getstatic _ => some (v :: st)
  | .ldc _ => some (v :: st)
  | .ldc_w _ => some (v :: st)
  | .ldc2_w _ => some (v :: st)
  | .iaload => match st with
    | .int i :: .ref a :: r => match h[a]? with
      | some (some (.inl (0, n, .inl f))) => if mIn i n = true then some (.int (f i.toNatClampNeg) :: r) else none
      | some (some (.inl (4, n, .inl f))) => if mIn i n = true then some (.int (f i.toNatClampNeg) :: r) else none
      | _ => none
    | _ => none
  | .caload => match st with
    | .int i :: .ref a :: r => match h[a]? with
      | some (some (.inl (2, n, .inl f))) => if mIn i n = true then some (.int (f i.toNatClampNeg) :: r) else none
      | _ => none
    | _ => none
  | .baload => match st with
    | .int i :: .ref a :: r => match h[a]? with
      | some (some (.inl (3, n, .inl f))) => if mIn i n = true then some (.int (f i.toNatClampNeg) :: r) else none
      | some (some (.inl (7, n, .inl f))) => if mIn i n = true then some (.int (f i.toNatClampNeg) :: r) else none
      | _ => none
    | _ => none
  | .aaload => match st with
    | .int i :: .ref a :: r => match h[a]? with
      | some (some (.inl (6, n, .inr (.inr (.inr (.inr f)))))) => if mIn i n = true then (f i.toNatClampNeg).map (fun q => .ref q :: r) else none
      | _ => none
    | _ => none
  | .laload => match st with
    | .int i :: .ref a :: r => match h[a]? with
      | some (some (.inl (1, n, .inr (.inl f)))) => if mIn i n = true then some (.long (f i.toNatClampNeg) :: r) else none
      | _ => none
    | _ => none
  | .arraylength => match st with
    | .ref a :: r => match h[a]? with
      | some (some (.inl (4, n, .inl _))) => some (.int (Int32.ofNat n) :: r)
      | some (some (.inl (7, n, .inl _))) => some (.int (Int32.ofNat n) :: r)
      | some (some (.inl (6, n, .inr (.inr (.inr (.inr _)))))) => some (.int (Int32.ofNat n) :: r)
      | some (some (.inl (t, n, _))) => if t < 4 then some (.int (Int32.ofNat n) :: r) else none
      | _ => none
    | _ => none
  | _ => none
/-- may this value be put into a field of that kind: 0 int, 1 boolean, 2 long, 3 reference -/
def mFit (k : Nat) (v : Value) : Bool := match k, v with
  | 0, .int _ => true
  | 1, .int x => x == 0 || x == 1
  | 2, .long _ => true
  | 3, .ref _ => true
  | _, _ => false
/-- writes of the heap -/
def mP (k0 : Nat) (i : Instr) (o1 o2 o3 : Nat) (st : List Value) (h : mH) : Option (List Value × mH) := match i with
  | .putfield _ => match st with
    | v :: .ref a :: r => match h[a]? with
      | some (some (.inr (ci, fs))) => if ci = o1 ∧ k0 ≤ a ∧ o2 < fs.length ∧ mFit o3 v = true then some (r, h.set a (some (.inr (ci, fs.set o2 v)))) else none
      | _ => none
    | _ => none
  | .iastore => match st with
    | .int x :: .int i :: .ref a :: r => match h[a]? with
      | some (some (.inl (0, n, .inl f))) => if mIn i n = true ∧ k0 ≤ a then some (r, h.set a (some (.inl (0, n, .inl (upd f i.toNatClampNeg x))))) else none
      | _ => none
    | _ => none
  | .castore => match st with
    | .int x :: .int i :: .ref a :: r => match h[a]? with
      | some (some (.inl (2, n, .inl f))) => if mIn i n = true ∧ k0 ≤ a then some (r, h.set a (some (.inl (2, n, .inl (upd f i.toNatClampNeg (vp_nar .char x)))))) else none
      | _ => none
    | _ => none
  | .bastore => match st with
    | .int x :: .int i :: .ref a :: r => match h[a]? with
      | some (some (.inl (3, n, .inl f))) => if mIn i n = true ∧ k0 ≤ a then some (r, h.set a (some (.inl (3, n, .inl (upd f i.toNatClampNeg (vp_nar .boolean x)))))) else none
      | _ => none
    | _ => none
  | .lastore => match st with
    | .long x :: .int i :: .ref a :: r => match h[a]? with
      | some (some (.inl (1, n, .inr (.inl f)))) => if mIn i n = true ∧ k0 ≤ a then some (r, h.set a (some (.inl (1, n, .inr (.inl (vp_updL f i.toNatClampNeg x)))))) else none
      | _ => none
    | _ => none
  | _ => none
/-- new arrays (at most 1000 places), new objects (their class o1, o2 fields: v is no more than a place for nothing) -/
def mNa (k : Nat) (st : List Value) (h : mH) (a : Nat → vp_A) : Option (List Value × mH) := match st with
  | .int n :: r => if ¬ n < 0 ∧ n.toNatClampNeg ≤ 1000 then some (.ref h.length :: r, h ++ [some (.inl (k, a n.toNatClampNeg))]) else none
  | _ => none
def mN (dflt : Nat → List Value) (i : Instr) (o1 : Nat) (st : List Value) (h : mH) : Option (List Value × mH) := match i with
  | .newarray .int => mNa 0 st h (fun n => (n, .inl (fun _ => 0)))
  | .newarray .long => mNa 1 st h (fun n => (n, .inr (.inl (fun _ => 0))))
  | .newarray .char => mNa 2 st h (fun n => (n, .inl (fun _ => 0)))
  | .newarray .boolean => mNa 3 st h (fun n => (n, .inl (fun _ => 0)))
  | .new _ => some (.ref h.length :: st, h ++ [some (.inr (o1, dflt o1))])
  | _ => none
/-- how long an instruction is (switches apart) -/
def mLen (i : Instr) : Nat := match i with
  | .bipush _ => 2
  | .sipush _ => 3
  | .iload _ => 2
  | .lload _ => 2
  | .aload _ => 2
  | .istore _ => 2
  | .lstore _ => 2
  | .astore _ => 2
  | .iinc _ _ => 3
  | .ldc _ => 2
  | .ldc_w _ => 3
  | .ldc2_w _ => 3
  | .getfield _ => 3
  | .putfield _ => 3
  | .getstatic _ => 3
  | .new _ => 3
  | .newarray _ => 2
  | .invokevirtual _ => 3
  | .invokespecial _ => 3
  | .invokestatic _ => 3
  | .goto _ => 3
  | .ifCond _ _ => 3
  | .if_icmp _ _ => 3
  | .if_acmp _ _ => 3
  | _ => 1
/-- calls that are done at once: 1 the constructor of Object, 2 Math.min, 3 Math.max -/
def mX (o3 : Nat) (st : List Value) (h : mH) : Option (List Value × mH) := match o3 with
  | 1 => match st with
    | .ref _ :: r => if (r.map fun v => v.category).sum ≤ 8 then some (r, h) else none
    | _ => none
  | 2 => match st with
    | .int y :: .int x :: r => if (r.map fun v => v.category).sum ≤ 7 then some (.int (if y < x then y else x) :: r, h) else none
    | _ => none
  | 3 => match st with
    | .int y :: .int x :: r => if (r.map fun v => v.category).sum ≤ 7 then some (.int (if x < y then y else x) :: r, h) else none
    | _ => none
  | _ => none
/-- System.arraycopy from one new array to another: 4 of ints, 5 of longs -/
def mYr (sp dp n : Int32) (n0 n1 : Nat) : Bool := decide ((¬ sp < 0 ∧ ¬ dp < 0 ∧ ¬ n < 0) ∧ sp.toNatClampNeg + n.toNatClampNeg ≤ n0 ∧ dp.toNatClampNeg + n.toNatClampNeg ≤ n1)
def mY (k0 o3 : Nat) (st : List Value) (h : mH) : Option (List Value × mH) := match o3 with
  | 4 => match st with
    | [.int n, .int dp, .ref a, .int sp, .ref b] => match h[a]?, h[b]? with
      | some (some (.inl (0, n1, .inl g))), some (some (.inl (0, n0, .inl f))) => if mYr sp dp n n0 n1 = true ∧ k0 ≤ a ∧ k0 ≤ b ∧ ¬ a = b then some ([], h.set a (some (.inl (0, n1, .inl (va_cpy f g sp.toNatClampNeg dp.toNatClampNeg n.toNatClampNeg))))) else none
      | _, _ => none
    | _ => none
  | 5 => match st with
    | [.int n, .int dp, .ref a, .int sp, .ref b] => match h[a]?, h[b]? with
      | some (some (.inl (1, n1, .inr (.inl g)))), some (some (.inl (1, n0, .inr (.inl f)))) => if mYr sp dp n n0 n1 = true ∧ k0 ≤ a ∧ k0 ≤ b ∧ ¬ a = b then some ([], h.set a (some (.inl (1, n1, .inr (.inl (va_cpy f g sp.toNatClampNeg dp.toNatClampNeg n.toNatClampNeg)))))) else none
      | _, _ => none
    | _ => none
  | _ => none
def mIv (i : Instr) : Bool := match i with
  | .invokevirtual _ => true
  | .invokespecial _ => true
  | .invokestatic _ => true
  | _ => false
def mNw (i : Instr) : Bool := match i with
  | .new _ => true
  | _ => false
/-- the next point, where no call, return or throw is at hand -/
def mNx (k0 : Nat) (dflt : Nat → List Value) (e : mI) (pc : Nat) (lv : mL) (st : List Value) (h : mH) : Option (Nat × mL × List Value × mH) :=
  match mA e.1 st with
  | some st' => some (pc + mLen e.1, lv, st', h)
  | none => match mB e.1 lv with
    | some v => some (pc + mLen e.1, lv, v :: st, h)
    | none => match mD e.1 e.2.1 lv st with
      | some (lv', st') => some (pc + mLen e.1, lv', st', h)
      | none => match mJ e.1 pc st with
        | some (pc', st') => some (pc', lv, st', h)
        | none => match mG e.1 e.2.1 e.2.2.1 e.2.2.2.2 st h with
          | some st' => some (pc + mLen e.1, lv, st', h)
          | none => match mP k0 e.1 e.2.1 e.2.2.1 e.2.2.2.1 st h with
            | some (st', h') => some (pc + mLen e.1, lv, st', h')
            | none => match mN dflt e.1 e.2.1 st h with
              | some (st', h') => some (pc + mLen e.1, lv, st', h')
              | none => if mIv e.1 = true then (match mX e.2.2.2.1 st h with
                | some (st', h') => some (pc + 3, lv, st', h')
                | none => match mY k0 e.2.2.2.1 st h with
                  | some (st', h') => some (pc + 3, lv, st', h')
                  | none => none) else none
/-- what a method answers: a value, or what it has thrown (its kind, its cell) -/
abbrev mO : Type := Option Value ⊕ (Nat × Nat)
/-- returns: kinds 0 int, 1 boolean, 2 char, 3 byte -/
def mRt (i : Instr) (o1 : Nat) (st : List Value) : Option (Option Value) := match i with
  | .ireturn => match st with
    | [.int x] => match o1 with
      | 0 => some (some (.int x))
      | 1 => if x = 0 ∨ x = 1 then some (some (.int x)) else none
      | 2 => if (x.toUInt32 % 65536).toInt32 = x then some (some (.int x)) else none
      | 3 => if x.toInt8.toInt32 = x then some (some (.int x)) else none
      | _ => none
    | _ => none
  | .lreturn => match st with
    | [.long x] => some (some (.long x))
    | _ => none
  | .areturn => match st with
    | [.ref x] => some (some (.ref x))
    | _ => none
  | .return_ => match st with
    | [] => some none
    | _ => none
  | _ => none
/-- a throw: at the 'new' of an exception, o3 its kind and 1 more -/
def mTh (e : mI) : Option Nat := if mNw e.1 = true then (match e.2.2.2.1 with
  | 0 => none
  | x + 1 => some x) else none
/-- the receiver of a call: v tells its class's number -/
def mRc (i : Instr) (v : Value) (as : List Value) (h : mH) : Bool := match i with
  | .invokestatic _ => true
  | .invokespecial _ => match as with
    | .ref _ :: _ => true
    | _ => false
  | .invokevirtual _ => match as with
    | .ref b :: _ => match h[b]? with
      | some (some (.inr (ci, _))) => match v with
        | .retAddr k => ci == k
        | _ => false
      | _ => false
    | _ => false
  | _ => false
/-- a call: o1 the method, o2 how many values it takes -/
def mCl (e : mI) (st : List Value) (h : mH) : Option (Nat × List Value × List Value) :=
  if mIv e.1 = true ∧ e.2.2.2.1 = 0 ∧ e.2.2.1 ≤ st.length ∧ ((st.drop e.2.2.1).map fun v => v.category).sum ≤ 8 ∧ mRc e.1 e.2.2.2.2 (st.take e.2.2.1).reverse h = true then some (e.2.1, (st.take e.2.2.1).reverse, st.drop e.2.2.1) else none
/-- the handler of a throw -/
def mHd (hs : List (Nat × Nat × Nat × Nat)) (pc x : Nat) : Option Nat := match hs with
  | [] => none
  | q :: r => if q.1 ≤ pc ∧ pc < q.2.1 ∧ q.2.2.2 = x then some q.2.2.1 else mHd r pc x
/-- a thrown object: its class's number, and six fields that nobody reads -/
def mXc (x : Nat) : Nat := 9 + x
def mEx (x : Nat) : mC := some (.inr (mXc x, [.null, .null, .null, .null, .null, .null]))
/-- a method's run from a point on: so many steps, so deep a stack -/
def evF (k0 : Nat) (dflt : Nat → List Value) (P : Nat → Nat → Option mI) (Hn : Nat → List (Nat × Nat × Nat × Nat)) (dp : Nat) (call : Nat → List Value → mH → Option (mO × mH)) : Nat → Nat → Nat → mL → List Value → mH → Option (mO × mH)
  | 0, _, _, _, _, _ => none
  | n + 1, mi, pc, lv, st, h => match P mi pc with
    | none => none
    | some e => match mRt e.1 e.2.1 st with
      | some v => some (.inl v, h)
      | none => match mTh e with
        | some x => if 7 ≤ dp ∧ st.isEmpty = true then some (.inr (x, h.length), h ++ [mEx x]) else none
        | none => match mCl e st h with
          | some (ce, as, rest) => match call ce as h with
            | some (.inl v, h') => evF k0 dflt P Hn dp call n mi (pc + 3) lv (v.toList ++ rest) h'
            | some (.inr (x, a), h') => match mHd (Hn mi) pc x with
              | some hp => evF k0 dflt P Hn dp call n mi hp lv [.ref a] h'
              | none => if (Hn mi).isEmpty = true then some (.inr (x, a), h') else none
            | none => none
          | none => match mNx k0 dflt e pc lv st h with
            | some (pc', lv', st', h') => evF k0 dflt P Hn dp call n mi pc' lv' st' h'
            | none => none
/-- a method's run: mx: how many locals each method has -/
def evM (k0 : Nat) (dflt : Nat → List Value) (P : Nat → Nat → Option mI) (Hn : Nat → List (Nat × Nat × Nat × Nat)) (mx : Nat → Nat) : Nat → Nat → Nat → List Value → mH → Option (mO × mH)
  | 0, _, _, _, _ => none
  | d + 1, n, mi, as, h => if (lg_sl as).length ≤ mx mi then evF k0 dflt P Hn (d + 1) (evM k0 dflt P Hn mx d n) n mi 0 (lv_args 0 as) [] h else none
/-- how long an instruction is: a switch's length stands in o1 -/
def mLn (i : Instr) (o1 : Nat) : Nat := match i with
  | .tableswitch _ _ _ _ => o1
  | .lookupswitch _ _ => o1
  | i => mLen i
end
section
/-! THE SMALL MACHINE's INSTRUCTIONS, EACH BY THE KIT's ROW: stack, locals, jumps. ad: where a cell of the small machine lies in the machine. -/
def mT (ad : Nat → Nat) (v : Value) : Value := match v with
  | .ref a => .ref (ad a)
  | w => w
abbrev mTs (ad : Nat → Nat) (st : List Value) : List Value := st.map (mT ad)
abbrev mTl (ad : Nat → Nat) (lv : mL) : mL := lv.map (fun q => (q.1, mT ad q.2))
theorem mT_cat (ad : Nat → Nat) (v : Value) : (mT ad v).category = v.category := by cases v <;> rfl
theorem m1i_inv {f : Int32 → Value} {st st' : List Value} (h : m1i f st = some st') : ∃ x r, st = .int x :: r ∧ st' = f x :: r := by
  unfold m1i at h
  split at h
  · cases h; exact ⟨_, _, rfl, rfl⟩
  · cases h
theorem m2i_inv {f : Int32 → Int32 → Value} {st st' : List Value} (h : m2i f st = some st') : ∃ y x r, st = .int y :: .int x :: r ∧ st' = f x y :: r := by
  unfold m2i at h
  split at h
  · cases h; exact ⟨_, _, _, rfl, rfl⟩
  · cases h
theorem m2d_inv {f : Int32 → Int32 → Value} {st st' : List Value} (h : m2d f st = some st') : ∃ y x r, st = .int y :: .int x :: r ∧ st' = f x y :: r ∧ ¬ y = 0 := by
  unfold m2d at h
  split at h
  · split at h
    · cases h
    · cases h; exact ⟨_, _, _, rfl, rfl, by assumption⟩
  · cases h
theorem m1l_inv {f : Int64 → Value} {st st' : List Value} (h : m1l f st = some st') : ∃ x r, st = .long x :: r ∧ st' = f x :: r := by
  unfold m1l at h
  split at h
  · cases h; exact ⟨_, _, rfl, rfl⟩
  · cases h
theorem m2l_inv {f : Int64 → Int64 → Value} {st st' : List Value} (h : m2l f st = some st') : ∃ y x r, st = .long y :: .long x :: r ∧ st' = f x y :: r := by
  unfold m2l at h
  split at h
  · cases h; exact ⟨_, _, _, rfl, rfl⟩
  · cases h
theorem m2e_inv {f : Int64 → Int64 → Value} {st st' : List Value} (h : m2e f st = some st') : ∃ y x r, st = .long y :: .long x :: r ∧ st' = f x y :: r ∧ ¬ y = 0 := by
  unfold m2e at h
  split at h
  · split at h
    · cases h
    · cases h; exact ⟨_, _, _, rfl, rfl, by assumption⟩
  · cases h
theorem m2s_inv {f : Int64 → Int32 → Value} {st st' : List Value} (h : m2s f st = some st') : ∃ y x r, st = .int y :: .long x :: r ∧ st' = f x y :: r := by
  unfold m2s at h
  split at h
  · cases h; exact ⟨_, _, _, rfl, rfl⟩
  · cases h
section MR
variable {p : Program} {l : Launch} {e : Env} {R : Room} {s : State} {m : MethodId} {args : Array Value} {below : List Frame} {meth : Method} {c : Code} {H : Heap} {locs : List Loc} {cells slots : Nat} {Q : State → Prop}
variable {cc : ByteArray} {pc : Nat} {ls : Array Slot}
set_option maxHeartbeats 4000000 in
theorem mA_ok (ad : Nat → Nat) {i : Instr} {o1 : Nat} {st st' : List Value} (hx : p.tables.exec = Jvm.exec) (hb : c.code = cc) (hdg : decode cc pc = .ok (i, mLn i o1)) (h : mA i st = some st')
    (k : W p l e R s m args below meth c H locs cells slots Q (F0 m (pc + mLen i) ls (mTs ad st'))) : W p l e R s m args below meth c H locs cells slots Q (F0 m pc ls (mTs ad st)) := by
  cases i <;> simp only [mA, reduceCtorEq] at h
  case iconst n => cases h; exact lv_iconst hx hb hdg rfl k
  case bipush n => cases h; exact lv_bipush hx hb hdg rfl k
  case sipush n => cases h; exact lv_sipush hx hb hdg rfl k
  case lconst n => cases h; exact lv_lconst hx hb hdg rfl k
  case iadd => obtain ⟨y, x, r, rfl, rfl⟩ := m2i_inv h; exact lv_iadd hx hb hdg k
  case isub => obtain ⟨y, x, r, rfl, rfl⟩ := m2i_inv h; exact lv_isub hx hb hdg k
  case imul => obtain ⟨y, x, r, rfl, rfl⟩ := m2i_inv h; exact lv_imul hx hb hdg k
  case iand => obtain ⟨y, x, r, rfl, rfl⟩ := m2i_inv h; exact lv_iand hx hb hdg k
  case ior => obtain ⟨y, x, r, rfl, rfl⟩ := m2i_inv h; exact lv_ior hx hb hdg k
  case ixor => obtain ⟨y, x, r, rfl, rfl⟩ := m2i_inv h; exact lv_ixor hx hb hdg k
  case idiv => obtain ⟨y, x, r, rfl, rfl, hy⟩ := m2d_inv h; exact lv_idiv hx hb hdg hy k
  case irem => obtain ⟨y, x, r, rfl, rfl, hy⟩ := m2d_inv h; exact lv_irem hx hb hdg hy k
  case ineg => obtain ⟨x, r, rfl, rfl⟩ := m1i_inv h; exact lv_ineg hx hb hdg k
  case ishl => obtain ⟨y, x, r, rfl, rfl⟩ := m2i_inv h; exact lv_ishl hx hb hdg k
  case ishr => obtain ⟨y, x, r, rfl, rfl⟩ := m2i_inv h; exact lv_ishr hx hb hdg k
  case iushr => obtain ⟨y, x, r, rfl, rfl⟩ := m2i_inv h; exact lv_iushr hx hb hdg rfl k
  case ladd => obtain ⟨y, x, r, rfl, rfl⟩ := m2l_inv h; exact lv_ladd hx hb hdg k
  case lsub => obtain ⟨y, x, r, rfl, rfl⟩ := m2l_inv h; exact lv_lsub hx hb hdg k
  case lmul => obtain ⟨y, x, r, rfl, rfl⟩ := m2l_inv h; exact lv_lmul hx hb hdg k
  case land => obtain ⟨y, x, r, rfl, rfl⟩ := m2l_inv h; exact lv_land hx hb hdg k
  case lor => obtain ⟨y, x, r, rfl, rfl⟩ := m2l_inv h; exact lv_lor hx hb hdg k
  case ldiv => obtain ⟨y, x, r, rfl, rfl, hy⟩ := m2e_inv h; exact lv_ldiv hx hb hdg hy k
  case lrem => obtain ⟨y, x, r, rfl, rfl, hy⟩ := m2e_inv h; exact lv_lrem hx hb hdg hy k
  case lneg => obtain ⟨x, r, rfl, rfl⟩ := m1l_inv h; exact lv_lneg hx hb hdg k
  case lshl => obtain ⟨y, x, r, rfl, rfl⟩ := m2s_inv h; exact lv_lshl hx hb hdg rfl k
  case lshr => obtain ⟨y, x, r, rfl, rfl⟩ := m2s_inv h; exact lv_lshr hx hb hdg rfl k
  case i2l => obtain ⟨x, r, rfl, rfl⟩ := m1i_inv h; exact lv_i2l hx hb hdg rfl k
  case l2i => obtain ⟨x, r, rfl, rfl⟩ := m1l_inv h; exact lv_l2i hx hb hdg rfl k
  case i2c => obtain ⟨x, r, rfl, rfl⟩ := m1i_inv h; exact lv_i2c hx hb hdg rfl k
  case i2b => obtain ⟨x, r, rfl, rfl⟩ := m1i_inv h; exact lv_i2b hx hb hdg rfl k
  case lcmp => obtain ⟨y, x, r, rfl, rfl⟩ := m2l_inv h; exact W.lcmp hx hb hdg k
  case dup =>
    split at h
    · split at h
      · rename_i v r hv
        cases h
        exact lv_dup hx hb hdg (by rw [mT_cat]; exact hv) k
      · cases h
    · cases h
  case pop =>
    split at h
    · split at h
      · rename_i v r hv
        cases h
        exact lv_pop hx hb hdg (by rw [mT_cat]; exact hv) k
      · cases h
    · cases h
  case dup_x1 =>
    split at h
    · split at h
      · rename_i v w r hv
        cases h
        exact lv_dup_x1 hx hb hdg (by rw [mT_cat]; exact hv.1) (by rw [mT_cat]; exact hv.2) k
      · cases h
    · cases h
  case dup_x2 =>
    split at h
    · split at h
      · rename_i v w x r hv
        cases h
        exact lv_dup_x2 hx hb hdg (by rw [mT_cat]; exact hv.1) (by rw [mT_cat]; exact hv.2.1) (by rw [mT_cat]; exact hv.2.2) k
      · cases h
    · cases h
  case dup2 =>
    split at h
    · split at h
      · rename_i v w r hv
        cases h
        exact lv_dup2_11 hx hb hdg (by rw [mT_cat]; exact hv.1) (by rw [mT_cat]; exact hv.2) k
      · cases h
    · cases h
theorem mLd_mem : ∀ {lv : mL} {i : Nat} {v : Value}, mLd lv i = some v → (i, v) ∈ lv
  | [], i, v, h => by cases h
  | q :: r, i, v, h => by
    unfold mLd at h
    split at h
    · rename_i hq
      cases h
      rw [← hq]
      exact List.mem_cons_self
    · exact List.mem_cons_of_mem _ (mLd_mem h)
theorem mLd_at {ad : Nat → Nat} {nL : Nat} {lv : mL} (hl : lv_has ls nL (mTl ad lv)) {i : Nat} {v : Value} (h : mLd lv i = some v) : ls[i]? = some (.val (mT ad v)) :=
  hl.2.2 (i, mT ad v) (List.mem_map.mpr ⟨(i, v), mLd_mem h, rfl⟩)
theorem mKi_inv {o : Option Value} {v : Value} (h : mKi o = some v) : ∃ x, o = some (.int x) ∧ v = .int x := by
  unfold mKi at h
  split at h
  · cases h; exact ⟨_, rfl, rfl⟩
  · cases h
theorem mKl_inv {o : Option Value} {v : Value} (h : mKl o = some v) : ∃ x, o = some (.long x) ∧ v = .long x := by
  unfold mKl at h
  split at h
  · cases h; exact ⟨_, rfl, rfl⟩
  · cases h
theorem mKr_inv {o : Option Value} {v : Value} (h : mKr o = some v) : ∃ x, o = some (.ref x) ∧ v = .ref x := by
  unfold mKr at h
  split at h
  · cases h; exact ⟨_, rfl, rfl⟩
  · cases h
set_option maxHeartbeats 4000000 in
theorem mB_ok (ad : Nat → Nat) {i : Instr} {o1 nL : Nat} {lv : mL} {st : List Value} {v : Value} (hx : p.tables.exec = Jvm.exec) (hb : c.code = cc) (hdg : decode cc pc = .ok (i, mLn i o1)) (hl : lv_has ls nL (mTl ad lv)) (h : mB i lv = some v)
    (k : W p l e R s m args below meth c H locs cells slots Q (F0 m (pc + mLen i) ls (mTs ad (v :: st)))) : W p l e R s m args below meth c H locs cells slots Q (F0 m pc ls (mTs ad st)) := by
  cases i <;> simp only [mB, reduceCtorEq] at h
  case iload n => obtain ⟨x, hm, rfl⟩ := mKi_inv h; exact lv_iload hx hb hdg (mLd_at hl hm) k
  case iload_n n => obtain ⟨x, hm, rfl⟩ := mKi_inv h; exact lv_iload_n hx hb hdg rfl (mLd_at hl hm) k
  case lload n => obtain ⟨x, hm, rfl⟩ := mKl_inv h; exact lv_lload hx hb hdg (mLd_at hl hm) k
  case lload_n n => obtain ⟨x, hm, rfl⟩ := mKl_inv h; exact lv_lload_n hx hb hdg rfl (mLd_at hl hm) k
  case aload n => obtain ⟨x, hm, rfl⟩ := mKr_inv h; exact lv_aload hx hb hdg (mLd_at hl hm) k
  case aload_n n => obtain ⟨x, hm, rfl⟩ := mKr_inv h; exact lv_aload_n hx hb hdg rfl (mLd_at hl hm) k
theorem mTl_filter (ad : Nat → Nat) (f : Nat × Value → Bool) (hf : ∀ q : Nat × Value, f (q.1, mT ad q.2) = f q) : ∀ lv : mL, (mTl ad lv).filter f = mTl ad (lv.filter f)
  | [] => rfl
  | q :: r => by
    show List.filter f ((q.1, mT ad q.2) :: mTl ad r) = mTl ad (List.filter f (q :: r))
    rw [List.filter_cons, List.filter_cons, hf q, mTl_filter ad f hf r]
    split <;> rfl
theorem mSt1_T (ad : Nat → Nat) (lv : mL) (i : Nat) (v : Value) : (i, mT ad v) :: (mTl ad lv).filter (fun q => !(q.1 == i) && !(q.1 + 1 == i && q.2.category == 2)) = mTl ad (mSt1 lv i v) := by
  rw [mTl_filter ad _ (fun q => by show (!(q.1 == i) && !(q.1 + 1 == i && (mT ad q.2).category == 2)) = _; rw [mT_cat])]
  rfl
theorem mSt2_T (ad : Nat → Nat) (lv : mL) (i : Nat) (v : Value) : (i, mT ad v) :: (mTl ad lv).filter (fun q => !(q.1 == i) && (!(q.1 == i + 1) && !(q.1 + 1 == i && q.2.category == 2))) = mTl ad (mSt2 lv i v) := by
  rw [mTl_filter ad _ (fun q => by show (!(q.1 == i) && (!(q.1 == i + 1) && !(q.1 + 1 == i && (mT ad q.2).category == 2))) = _; rw [mT_cat])]
  rfl
theorem mSi_inv {nL n : Nat} {lv lv' : mL} {st st' : List Value} (h : mSi nL lv n st = some (lv', st')) : ∃ x, st = .int x :: st' ∧ n < nL ∧ lv' = mSt1 lv n (.int x) := by
  unfold mSi at h
  split at h
  · split at h
    · cases h; exact ⟨_, rfl, by assumption, rfl⟩
    · cases h
  · cases h
theorem mSl_inv {nL n : Nat} {lv lv' : mL} {st st' : List Value} (h : mSl nL lv n st = some (lv', st')) : ∃ x, st = .long x :: st' ∧ n + 1 < nL ∧ lv' = mSt2 lv n (.long x) := by
  unfold mSl at h
  split at h
  · split at h
    · cases h; exact ⟨_, rfl, by assumption, rfl⟩
    · cases h
  · cases h
theorem mSr_inv {nL n : Nat} {lv lv' : mL} {st st' : List Value} (h : mSr nL lv n st = some (lv', st')) : ∃ x, st = .ref x :: st' ∧ n < nL ∧ lv' = mSt1 lv n (.ref x) := by
  unfold mSr at h
  split at h
  · split at h
    · cases h; exact ⟨_, rfl, by assumption, rfl⟩
    · cases h
  · cases h
theorem mIc_inv {nL n : Nat} {lv lv' : mL} {cn : Int} {o : Option Value} {st st' : List Value} (h : mIc nL lv n cn o st = some (lv', st')) : ∃ x, o = some (.int x) ∧ n < nL ∧ lv' = mSt1 lv n (.int (x + Int32.ofInt cn)) ∧ st' = st := by
  unfold mIc at h
  split at h
  · split at h
    · cases h; exact ⟨_, rfl, by assumption, rfl, rfl⟩
    · cases h
  · cases h
theorem mLd_ix {ad : Nat → Nat} {lv : mL} {i : Nat} {v : Value} (h : mLd lv i = some v) : ∃ k : Nat, (mTl ad lv : List (Nat × Value))[k]? = some (i, mT ad v) :=
  List.getElem?_of_mem (List.mem_map.mpr ⟨(i, v), mLd_mem h, rfl⟩)
set_option maxHeartbeats 4000000 in
theorem mD_ok (ad : Nat → Nat) {i : Instr} {nL : Nat} {lv lv' : mL} {st st' : List Value} (hx : p.tables.exec = Jvm.exec) (hb : c.code = cc) (hdg : decode cc pc = .ok (i, mLn i nL)) (hl : lv_has ls nL (mTl ad lv)) (h : mD i nL lv st = some (lv', st'))
    (k : ∀ ls' : Array Slot, lv_has ls' nL (mTl ad lv') → W p l e R s m args below meth c H locs cells slots Q (F0 m (pc + mLen i) ls' (mTs ad st'))) : W p l e R s m args below meth c H locs cells slots Q (F0 m pc ls (mTs ad st)) := by
  cases i <;> simp only [mD, reduceCtorEq] at h
  case istore n => obtain ⟨x, rfl, hn, rfl⟩ := mSi_inv h; exact lv_istore hx hb hdg hl hn (mSt1_T ad lv n (.int x)) k
  case istore_n n => obtain ⟨x, rfl, hn, rfl⟩ := mSi_inv h; exact lv_istore_n hx hb hdg rfl hl hn (mSt1_T ad lv n.val (.int x)) k
  case lstore n => obtain ⟨x, rfl, hn, rfl⟩ := mSl_inv h; exact lv_lstore hx hb hdg hl hn (mSt2_T ad lv n (.long x)) k
  case lstore_n n => obtain ⟨x, rfl, hn, rfl⟩ := mSl_inv h; exact lv_lstore_n hx hb hdg rfl hl hn (mSt2_T ad lv n.val (.long x)) k
  case astore n => obtain ⟨x, rfl, hn, rfl⟩ := mSr_inv h; exact lv_astore hx hb hdg hl hn (mSt1_T ad lv n (.ref x)) k
  case astore_n n => obtain ⟨x, rfl, hn, rfl⟩ := mSr_inv h; exact lv_astore_n hx hb hdg rfl hl hn (mSt1_T ad lv n.val (.ref x)) k
  case iinc n cn =>
    obtain ⟨x, hm, hn, rfl, rfl⟩ := mIc_inv h
    obtain ⟨q, hq⟩ := mLd_ix (ad := ad) hm
    exact lv_iinc hx hb hdg hl hq rfl hn (mSt1_T ad lv n (.int (x + Int32.ofInt cn))) k
theorem mTo_inv {pc n : Nat} {off : Int} (h : mTo pc off = some n) : (pc : Int) + off = (n : Int) := by
  unfold mTo at h
  split at h
  · rename_i q hq
    cases h
    exact hq
  · cases h
theorem mTo_map {pc n : Nat} {off : Int} {r st' : List Value} (h : (mTo pc off).map (fun q => (q, r)) = some (n, st')) : (pc : Int) + off = (n : Int) ∧ st' = r := by
  cases hq : mTo pc off with
  | none => rw [hq] at h; cases h
  | some q =>
    rw [hq] at h
    cases h
    exact ⟨mTo_inv hq, rfl⟩
theorem mBr_inv {b : Bool} {pc n : Nat} {off : Int} {r st' : List Value} (h : mBr b pc off r = some (n, st')) : st' = r ∧ ∃ tgt : Nat, (pc : Int) + off = (tgt : Int) ∧ ((b = true ∧ n = tgt) ∨ (b = false ∧ n = pc + 3)) := by
  cases b with
  | true =>
    obtain ⟨h1, h2⟩ := mTo_map (show (mTo pc off).map (fun q => (q, r)) = some (n, st') from h)
    exact ⟨h2, n, h1, Or.inl ⟨rfl, rfl⟩⟩
  | false =>
    have h : (mTo pc off).map (fun _ => (pc + 3, r)) = some (n, st') := h
    cases hq : mTo pc off with
    | none => rw [hq] at h; cases h
    | some q =>
      rw [hq] at h
      cases h
      exact ⟨rfl, q, mTo_inv hq, Or.inr ⟨rfl, rfl⟩⟩
theorem mCnd_eq {x y : Int32} : (mCnd .eq x y = true ↔ x = y) := by simp [mCnd]
theorem mCnd_ne {x y : Int32} : (mCnd .ne x y = true ↔ ¬ x = y) := by simp [mCnd]
theorem mCnd_lt {x y : Int32} : (mCnd .lt x y = true ↔ x < y) := by simp [mCnd]
theorem mCnd_ge {x y : Int32} : (mCnd .ge x y = true ↔ y ≤ x) := by simp [mCnd]
theorem mCnd_gt {x y : Int32} : (mCnd .gt x y = true ↔ y < x) := by simp [mCnd]
theorem mCnd_le {x y : Int32} : (mCnd .le x y = true ↔ x ≤ y) := by simp [mCnd]
/-- the two ways of a branch, out of the one that is gone -/
theorem mBr_t {b : Bool} {P : Prop} {n tgt pc3 : Nat} {W1 : Nat → Prop} (hP : b = true ↔ P) (h : (b = true ∧ n = tgt) ∨ (b = false ∧ n = pc3)) (k : W1 n) : P → W1 tgt := by
  intro hp
  rcases h with ⟨-, h2⟩ | ⟨h1, -⟩
  · exact h2 ▸ k
  · rw [hP.mpr hp] at h1; cases h1
theorem mBr_f {b : Bool} {P : Prop} {n tgt pc3 : Nat} {W1 : Nat → Prop} (hP : b = true ↔ P) (h : (b = true ∧ n = tgt) ∨ (b = false ∧ n = pc3)) (k : W1 n) : ¬ P → W1 pc3 := by
  intro hp
  rcases h with ⟨h1, -⟩ | ⟨-, h2⟩
  · exact absurd (hP.mp h1) hp
  · exact h2 ▸ k
set_option maxHeartbeats 4000000 in
theorem mJ_ok (ad : Nat → Nat) (hinj : ∀ a b, mEa a → mEa b → ad a = ad b → a = b) {i : Instr} {o1 : Nat} {pc' : Nat} {st st' : List Value} (hx : p.tables.exec = Jvm.exec) (hb : c.code = cc) (hdg : decode cc pc = .ok (i, mLn i o1)) (h : mJ i pc st = some (pc', st'))
    (k : W p l e R s m args below meth c H locs cells slots Q (F0 m pc' ls (mTs ad st'))) : W p l e R s m args below meth c H locs cells slots Q (F0 m pc ls (mTs ad st)) := by
  cases i <;> simp only [mJ, reduceCtorEq] at h
  case goto off =>
    obtain ⟨h1, rfl⟩ := mTo_map h
    exact lv_goto hx hb hdg h1 k
  case ifCond cnd off =>
    split at h
    · rename_i x r
      obtain ⟨rfl, tgt, ht, h2⟩ := mBr_inv h
      cases cnd
      case eq => exact lv_if_eq hx hb hdg ht (mBr_t (W1 := fun q => W p l e R s m args below meth c H locs cells slots Q (F0 m q ls (mTs ad _))) mCnd_eq h2 k) (mBr_f (W1 := fun q => W p l e R s m args below meth c H locs cells slots Q (F0 m q ls (mTs ad _))) mCnd_eq h2 k)
      case ne => exact lv_if_ne hx hb hdg ht (mBr_t (W1 := fun q => W p l e R s m args below meth c H locs cells slots Q (F0 m q ls (mTs ad _))) mCnd_ne h2 k) (fun hq => mBr_f (W1 := fun q => W p l e R s m args below meth c H locs cells slots Q (F0 m q ls (mTs ad _))) mCnd_ne h2 k (fun hz => hz hq))
      case lt => exact lv_if_lt hx hb hdg ht (mBr_t (W1 := fun q => W p l e R s m args below meth c H locs cells slots Q (F0 m q ls (mTs ad _))) mCnd_lt h2 k) (mBr_f (W1 := fun q => W p l e R s m args below meth c H locs cells slots Q (F0 m q ls (mTs ad _))) mCnd_lt h2 k)
      case ge => exact lv_if_ge hx hb hdg ht (mBr_t (W1 := fun q => W p l e R s m args below meth c H locs cells slots Q (F0 m q ls (mTs ad _))) mCnd_ge h2 k) (mBr_f (W1 := fun q => W p l e R s m args below meth c H locs cells slots Q (F0 m q ls (mTs ad _))) mCnd_ge h2 k)
      case gt => exact lv_if_gt hx hb hdg ht (mBr_t (W1 := fun q => W p l e R s m args below meth c H locs cells slots Q (F0 m q ls (mTs ad _))) mCnd_gt h2 k) (mBr_f (W1 := fun q => W p l e R s m args below meth c H locs cells slots Q (F0 m q ls (mTs ad _))) mCnd_gt h2 k)
      case le => exact lv_if_le hx hb hdg ht (mBr_t (W1 := fun q => W p l e R s m args below meth c H locs cells slots Q (F0 m q ls (mTs ad _))) mCnd_le h2 k) (mBr_f (W1 := fun q => W p l e R s m args below meth c H locs cells slots Q (F0 m q ls (mTs ad _))) mCnd_le h2 k)
    · cases h
  case if_icmp cnd off =>
    split at h
    · rename_i y x r
      obtain ⟨rfl, tgt, ht, h2⟩ := mBr_inv h
      cases cnd
      case eq => exact lv_icmp_eq hx hb hdg ht (mBr_t (W1 := fun q => W p l e R s m args below meth c H locs cells slots Q (F0 m q ls (mTs ad _))) mCnd_eq h2 k) (mBr_f (W1 := fun q => W p l e R s m args below meth c H locs cells slots Q (F0 m q ls (mTs ad _))) mCnd_eq h2 k)
      case ne => exact lv_icmp_ne hx hb hdg ht (mBr_t (W1 := fun q => W p l e R s m args below meth c H locs cells slots Q (F0 m q ls (mTs ad _))) mCnd_ne h2 k) (fun hq => mBr_f (W1 := fun q => W p l e R s m args below meth c H locs cells slots Q (F0 m q ls (mTs ad _))) mCnd_ne h2 k (fun hz => hz hq))
      case lt => exact lv_icmp_lt hx hb hdg ht (mBr_t (W1 := fun q => W p l e R s m args below meth c H locs cells slots Q (F0 m q ls (mTs ad _))) mCnd_lt h2 k) (mBr_f (W1 := fun q => W p l e R s m args below meth c H locs cells slots Q (F0 m q ls (mTs ad _))) mCnd_lt h2 k)
      case ge => exact lv_icmp_ge hx hb hdg ht (mBr_t (W1 := fun q => W p l e R s m args below meth c H locs cells slots Q (F0 m q ls (mTs ad _))) mCnd_ge h2 k) (mBr_f (W1 := fun q => W p l e R s m args below meth c H locs cells slots Q (F0 m q ls (mTs ad _))) mCnd_ge h2 k)
      case gt => exact lv_icmp_gt hx hb hdg ht (mBr_t (W1 := fun q => W p l e R s m args below meth c H locs cells slots Q (F0 m q ls (mTs ad _))) mCnd_gt h2 k) (mBr_f (W1 := fun q => W p l e R s m args below meth c H locs cells slots Q (F0 m q ls (mTs ad _))) mCnd_gt h2 k)
      case le => exact lv_icmp_le hx hb hdg ht (mBr_t (W1 := fun q => W p l e R s m args below meth c H locs cells slots Q (F0 m q ls (mTs ad _))) mCnd_le h2 k) (mBr_f (W1 := fun q => W p l e R s m args below meth c H locs cells slots Q (F0 m q ls (mTs ad _))) mCnd_le h2 k)
    · cases h
  case if_acmp cnd off =>
    cases cnd
    case eq =>
      simp only [] at h
      split at h
      · rename_i y x r
        split at h
        · rename_i hxy
          obtain ⟨rfl, tgt, ht, h2⟩ := mBr_inv h
          have hP : decide (x = y) = true ↔ (some (ad x) = some (ad y)) := ⟨fun q => by rw [of_decide_eq_true q], fun q => decide_eq_true (hinj _ _ hxy.1 hxy.2 (Option.some.inj q))⟩
          exact lv_acmp_eq (rx := some (ad x)) (ry := some (ad y)) hx hb hdg ht (mBr_t (W1 := fun q => W p l e R s m args below meth c H locs cells slots Q (F0 m q ls (mTs ad _))) hP h2 k) (mBr_f (W1 := fun q => W p l e R s m args below meth c H locs cells slots Q (F0 m q ls (mTs ad _))) hP h2 k)
        · cases h
      · cases h
    case ne =>
      simp only [] at h
      split at h
      · rename_i y x r
        split at h
        · rename_i hxy
          obtain ⟨rfl, tgt, ht, h2⟩ := mBr_inv h
          have hP : decide (¬ x = y) = true ↔ ¬ (some (ad x) = some (ad y)) := ⟨fun q z => of_decide_eq_true q (hinj _ _ hxy.1 hxy.2 (Option.some.inj z)), fun q => decide_eq_true (fun z => q (by rw [z]))⟩
          exact lv_acmp_ne (rx := some (ad x)) (ry := some (ad y)) hx hb hdg ht (mBr_t (W1 := fun q => W p l e R s m args below meth c H locs cells slots Q (F0 m q ls (mTs ad _))) hP h2 k) (fun hq => mBr_f (W1 := fun q => W p l e R s m args below meth c H locs cells slots Q (F0 m q ls (mTs ad _))) hP h2 k (fun hz => hz hq))
        · cases h
      · cases h
  case tableswitch d lo hi offs =>
    split at h
    · rename_i x r
      split at h
      · rename_i hc
        obtain ⟨h1, rfl⟩ := mTo_map h
        exact lv_tableOut hx hb hdg hc h1 k
      · rename_i hc
        split at h
        · rename_i off ho
          obtain ⟨h1, rfl⟩ := mTo_map h
          exact lv_tableIn hx hb hdg (fun z => hc (Or.inl z)) (fun z => hc (Or.inr z)) ho h1 k
        · cases h
    · cases h
  case lookupswitch d ps =>
    split at h
    · rename_i x r
      split at h
      · rename_i hc
        obtain ⟨h1, rfl⟩ := mTo_map h
        exact lv_lookup hx hb hdg hc rfl h1 k
      · cases h
    · cases h
end MR
end
section
/-! THE SMALL MACHINE's HEAP IN THE MACHINE's: D, cl: the classes' numbers, slots and field tables; tyC: the classes of arrays by kind (0 int, 1 long, 2 char, 3 boolean; 4: an int array that is old); k0: how many cells are old; sz0: the machine's heap at the law's entry; ad: where each cell lies; zs: statics that nobody writes. -/
def mTy (t : Nat) : FieldType := match t with
  | 0 => .int
  | 1 => .long
  | 2 => .char
  | _ => .boolean
abbrev mTys (tyC : Nat → ClassId) : List (ClassId × FieldType) := [(tyC 0, .int), (tyC 1, .long), (tyC 2, .char), (tyC 3, .boolean)]
/-- an old array of ints -/
def mArr (a n : Nat) (f : Nat → Int32) (U : State) (H : Heap) : Prop := ∃ cell : Cell, H[a]? = some cell ∧ U.isArrayOf cell .int ∧ cell.vm ≠ .unknown ∧ n ≤ cell.slots.size ∧ cell.slots.size.toInt32 = Int32.ofNat n ∧ ∀ j : Nat, j < n → cell.slots[j]? = some (.int (f j))
theorem mArr.moved {a n : Nat} {f : Nat → Int32} {u U : State} {H : Heap} (hvm : u.vm.Alike U.vm) (h : mArr a n f u H) : mArr a n f U H := by
  obtain ⟨cell, h1, h2, h3⟩ := h
  exact ⟨cell, h1, State.isArrayOf_alike hvm h2, h3⟩
theorem mArr.kept {a n : Nat} {f : Nat → Int32} {U : State} {H H1 : Heap} (h : mArr a n f U H) (hq : H1[a]? = H[a]?) : mArr a n f U H1 := by
  obtain ⟨cell, h1, h2⟩ := h
  exact ⟨cell, by rw [hq]; exact h1, h2⟩
/-- a static that nobody writes, with its cell -/
def mZ (C n d : String) (v : Value) (A : Nat → Prop) (U : State) (H : Heap) : Prop := ∃ (cf : ClassId) (kf : Class) (fi : Nat) (f : Field) (a : Nat) (cell : Cell), U.fieldFound? C n d = some (cf, kf, fi, f) ∧ f.isStatic = true ∧ kf.init = .initialized ∧ kf.statics = some a ∧ H[a]? = some cell ∧ cell.vm.isStatics = true ∧ cell.slots[f.slot]? = some v ∧ ¬ A a ∧ U.vm.findClass C = some cf ∧ cell.cls = cf ∧ kf.staticTypes[f.slot]? = some f.type
theorem mZ.z {C n d : String} {v : Value} {A : Nat → Prop} {U : State} {H : Heap} (h : mZ C n d v A U H) : va_Z C n d v A U H := by
  obtain ⟨cf, kf, fi, f, a, cell, h1, h2, h3, h4, h5, h6, h7, h8, -⟩ := h
  exact ⟨cf, kf, fi, f, a, cell, h1, h2, h3, h4, h5, h6, h7, h8⟩
theorem mZ.moved {C n d : String} {v : Value} {A : Nat → Prop} {u U : State} {H : Heap} (hvm : u.vm.Alike U.vm) (h : mZ C n d v A u H) : mZ C n d v A U H := by
  obtain ⟨cf, kf, fi, f, a, cell, h1, h2, h3, h4, h5, h6, h7, h8, h9, h10, h11⟩ := h
  obtain ⟨k', hi', he⟩ := State.fieldFound?_setVm hvm h1
  exact ⟨cf, k', fi, f, a, cell, hi', h2, by rw [he]; exact h3, by rw [he]; exact h4, h5, h6, h7, h8, by rw [hvm.findClass]; exact h9, h10, by rw [he]; exact h11⟩
theorem mZ.kept {C n d : String} {v : Value} {A : Nat → Prop} {U : State} {H H1 : Heap} (h : mZ C n d v A U H) (hq : ∀ a : Nat, a < H.size → ¬ A a → H1[a]? = H[a]?) : mZ C n d v A U H1 := by
  obtain ⟨cf, kf, fi, f, a, cell, h1, h2, h3, h4, h5, h6, h7, h8, h9⟩ := h
  exact ⟨cf, kf, fi, f, a, cell, h1, h2, h3, h4, by rw [hq a (Array.getElem?_eq_some_iff.mp h5).1 h8]; exact h5, h6, h7, h8, h9⟩
theorem mZ.of {args : Array Value} {s : State} {C n d : String} {v : Value} {A : Nat → Prop} (hl : (Cond.laysStatic C n d).before args s = true) (hini : (Cond.initialized C).before args s = true) (hv : (Term.static C n d).eval args s none [] s = some v) (hA : ∀ a : Nat, a < s.heap.size → ¬ A a) : mZ C n d v A s s.heap := by
  obtain ⟨c, k, i, f, a, cell, hc, hi, hst, ha, hcell, hs, hcls, hlt, hty⟩ := Cond.laysStatic_spec hl
  obtain ⟨hst', a', cell', ha', hcell', -, hslot⟩ := Term.static_spec hi hv
  cases ha.symm.trans ha'
  cases hcell.symm.trans hcell'
  exact ⟨c, k, i, f, a, cell, hi, hst, Cond.initialized_spec hc (State.fieldFound?_spec hi).1 hini, ha, hcell, hs, hslot, hA a (Array.getElem?_eq_some_iff.mp hcell).1, hc, hcls, hty⟩
theorem mZ.lays {C n d : String} {v : Value} {A : Nat → Prop} {U : State} {args : Array Value} (h : mZ C n d v A U U.heap) : (Cond.laysStatic C n d).before args U = true := by
  obtain ⟨cf, kf, fi, f, a, cell, h1, h2, h3, h4, h5, h6, h7, h8, h9, h10, h11⟩ := h
  have hlt : f.slot < cell.slots.size := (Array.getElem?_eq_some_iff.mp h7).1
  simp [Cond.before, Cond.holds, Cond.value, h9, h1, h2, h4, h5, h6, h10, hlt, h11]
/-- an old array of any type -/
def mOld (ty : FieldType) (a n : Nat) (f : Nat → Value) (U : State) (H : Heap) : Prop := ∃ cell : Cell, H[a]? = some cell ∧ U.isArrayOf cell ty ∧ cell.vm ≠ .unknown ∧ n ≤ cell.slots.size ∧ cell.slots.size.toInt32 = Int32.ofNat n ∧ ∀ j : Nat, j < n → cell.slots[j]? = some (f j)
theorem mOld.moved {ty : FieldType} {a n : Nat} {f : Nat → Value} {u U : State} {H : Heap} (hvm : u.vm.Alike U.vm) (h : mOld ty a n f u H) : mOld ty a n f U H := by
  obtain ⟨cell, h1, h2, h3⟩ := h
  exact ⟨cell, h1, State.isArrayOf_alike hvm h2, h3⟩
theorem mOld.kept {ty : FieldType} {a n : Nat} {f : Nat → Value} {U : State} {H H1 : Heap} (h : mOld ty a n f U H) (hq : H1[a]? = H[a]?) : mOld ty a n f U H1 := by
  obtain ⟨cell, h1, h2⟩ := h
  exact ⟨cell, by rw [hq]; exact h1, h2⟩
/-- a field of a constant object -/
def mOF (o n d : String) (v : Value) (a : Nat) (U : State) (H : Heap) : Prop := ∃ (cf : ClassId) (k : Class) (fi : Nat) (f : Field) (cell : Cell), U.fieldFound? o n d = some (cf, k, fi, f) ∧ f.isStatic = false ∧ H[a]? = some cell ∧ cell.vm ≠ .unknown ∧ cell.slots[f.slot]? = some v
theorem mOF.moved {o n d : String} {v : Value} {a : Nat} {u U : State} {H : Heap} (hvm : u.vm.Alike U.vm) (h : mOF o n d v a u H) : mOF o n d v a U H := by
  obtain ⟨cf, k, fi, f, cell, h1, h2, h3, h4, h5⟩ := h
  obtain ⟨k', hi', -⟩ := State.fieldFound?_setVm hvm h1
  exact ⟨cf, k', fi, f, cell, hi', h2, h3, h4, h5⟩
theorem mOF.kept {o n d : String} {v : Value} {a : Nat} {U : State} {H H1 : Heap} (h : mOF o n d v a U H) (hq : H1[a]? = H[a]?) : mOF o n d v a U H1 := by
  obtain ⟨cf, k, fi, f, cell, h1, h2, h3, h4, h5⟩ := h
  exact ⟨cf, k, fi, f, cell, h1, h2, by rw [hq]; exact h3, h4, h5⟩
def mKo (ci : Nat) (fs : List Value) (ad : Nat → Nat) (a : Nat) (U : State) (H : Heap) : Prop := (∃ cell : Cell, H[a]? = some cell ∧ cell.vm.isStatics = false ∧ U.vm.findClass (mKc ci).1 = some cell.cls) ∧ ∀ (k : Nat) (q : String × String × String), (mKc ci).2[k]? = some q → ∃ v, fs[k]? = some v ∧ mOF q.1 q.2.1 q.2.2 (mT ad v) a U H
theorem mKo.moved {ci : Nat} {fs : List Value} {ad : Nat → Nat} {a : Nat} {u U : State} {H : Heap} (hvm : u.vm.Alike U.vm) (h : mKo ci fs ad a u H) : mKo ci fs ad a U H := by
  obtain ⟨⟨cell, h1, h2, h3⟩, h4⟩ := h
  refine ⟨⟨cell, h1, h2, by rw [hvm.findClass]; exact h3⟩, fun k q hk => ?_⟩
  obtain ⟨v, v1, v2⟩ := h4 k q hk
  exact ⟨v, v1, v2.moved hvm⟩
theorem mKo.kept {ci : Nat} {fs : List Value} {ad : Nat → Nat} {a : Nat} {U : State} {H H1 : Heap} (h : mKo ci fs ad a U H) (hq : H1[a]? = H[a]?) : mKo ci fs ad a U H1 := by
  obtain ⟨⟨cell, h1, h2, h3⟩, h4⟩ := h
  refine ⟨⟨cell, by rw [hq]; exact h1, h2, h3⟩, fun k q hk => ?_⟩
  obtain ⟨v, v1, v2⟩ := h4 k q hk
  exact ⟨v, v1, v2.kept hq⟩
def mOp : FieldType := .object "MixMachine$Operation"
def mAt (D : va_G) (cl : List vw_C) (tyC : Nat → ClassId) (ad : Nat → Nat) (i : Nat) (c : (Nat × vp_A) ⊕ (Nat × List Value)) (U : State) (H : Heap) : Prop := match c with
  | .inl (4, n, .inl f) => mArr (ad i) n f U H
  | .inl (7, n, .inl f) => mOld .byte (ad i) n (fun j => .int (f j)) U H
  | .inl (6, n, .inr (.inr (.inr (.inr f)))) => mOld mOp (ad i) n (fun j => mT ad (va_rf (f j))) U H
  | .inl (t, a) => H[ad i]? = some (vp_cell (tyC t) a)
  | .inr (ci, fs) => va_at D cl (ad i, .inr (ci, fs.map (mT ad))) H ∨ (cl[ci]? = none ∧ mKo ci fs ad (ad i) U H)
/-- ad: old cells lie below sz0, new ones from there on in their order -/
def mAd (k0 sz0 : Nat) (ad : Nat → Nat) : Prop := (∀ i, i < k0 → ad i < sz0) ∧ (∀ i, k0 ≤ i → ad i = sz0 + (i - k0)) ∧ ∀ i j, mEa i → mEa j → ad i = ad j → i = j
theorem mAd_ne {k0 sz0 : Nat} {ad : Nat → Nat} (had : mAd k0 sz0 ad) {i a : Nat} (ha : k0 ≤ a) (hi : i ≠ a) : ad i ≠ ad a := by
  intro h
  rw [had.2.1 a ha] at h
  by_cases hk : i < k0
  · have := had.1 i hk
    omega
  · rw [had.2.1 i (by omega)] at h
    omega
abbrev mNew (sz0 : Nat) : Nat → Prop := fun q => sz0 ≤ q
/-- all new cells are known -/
def mFull (k0 : Nat) (h : mH) : Prop := ∀ i, k0 ≤ i → i < h.length → ∃ c, h[i]? = some (some c)
def mOK (D : va_G) (cl : List vw_C) (tyC : Nat → ClassId) (k0 sz0 : Nat) (ad : Nat → Nat) (zs : List (String × String × String × Value)) (U : State) (h : mH) (H : Heap) : Prop :=
  va_K D cl (mTys tyC) U ∧ (k0 ≤ h.length ∧ mFull k0 h) ∧ H.size = sz0 + (h.length - k0) ∧ (∀ (i : Nat) (c : (Nat × vp_A) ⊕ (Nat × List Value)), h[i]? = some (some c) → mAt D cl tyC ad i c U H) ∧
  ∀ z ∈ zs, mZ z.1 z.2.1 z.2.2.1 (mT ad z.2.2.2) (mNew sz0) U H
theorem mAt.moved {D : va_G} {cl : List vw_C} {tyC : Nat → ClassId} {ad : Nat → Nat} {i : Nat} {c : (Nat × vp_A) ⊕ (Nat × List Value)} {u U : State} {H : Heap} (hvm : u.vm.Alike U.vm) (h : mAt D cl tyC ad i c u H) : mAt D cl tyC ad i c U H := by
  unfold mAt at h ⊢
  split at h
  · exact h.moved hvm
  · exact h.moved hvm
  · exact h.moved hvm
  · exact h
  · exact h.imp id (fun q => ⟨q.1, q.2.moved hvm⟩)
theorem mAt.obj {D : va_G} {cl : List vw_C} {tyC : Nat → ClassId} {ad : Nat → Nat} {i ci : Nat} {fs : List Value} {q : vw_C} {U : State} {H : Heap} (h : mAt D cl tyC ad i (.inr (ci, fs)) U H) (hc : cl[ci]? = some q) : va_at D cl (ad i, .inr (ci, fs.map (mT ad))) H := by
  rcases (show va_at D cl (ad i, .inr (ci, fs.map (mT ad))) H ∨ (cl[ci]? = none ∧ mKo ci fs ad (ad i) U H) from h) with h | h
  · exact h
  · rw [h.1] at hc
    cases hc
theorem mAt.con {D : va_G} {cl : List vw_C} {tyC : Nat → ClassId} {ad : Nat → Nat} {i ci : Nat} {fs : List Value} {U : State} {H : Heap} (h : mAt D cl tyC ad i (.inr (ci, fs)) U H) (hc : cl[ci]? = none) : mKo ci fs ad (ad i) U H := by
  rcases (show va_at D cl (ad i, .inr (ci, fs.map (mT ad))) H ∨ (cl[ci]? = none ∧ mKo ci fs ad (ad i) U H) from h) with h | h
  · obtain ⟨r, h1, -⟩ := h
    rw [hc] at h1
    cases h1
  · exact h.2
theorem mAt.mk {D : va_G} {cl : List vw_C} {tyC : Nat → ClassId} {ad : Nat → Nat} {i ci : Nat} {fs : List Value} {U : State} {H : Heap} (h : va_at D cl (ad i, .inr (ci, fs.map (mT ad))) H) : mAt D cl tyC ad i (.inr (ci, fs)) U H := Or.inl h
theorem mOK.moved {D : va_G} {cl : List vw_C} {tyC : Nat → ClassId} {k0 sz0 : Nat} {ad : Nat → Nat} {zs : List (String × String × String × Value)} {u U : State} {h : mH} {H : Heap} (hvm : u.vm.Alike U.vm) (k : mOK D cl tyC k0 sz0 ad zs u h H) : mOK D cl tyC k0 sz0 ad zs U h H :=
  ⟨va_K.moved hvm k.1, k.2.1, k.2.2.1, fun i c hc => (k.2.2.2.1 i c hc).moved hvm, fun z hz => (k.2.2.2.2 z hz).moved hvm⟩
theorem va_P_one {D : va_G} {cl : List vw_C} {q : Nat × va_E} {H : Heap} (h : va_at D cl q H) : va_P D cl [q] H := by
  intro k x hx
  have hk : k < 1 := (List.getElem?_eq_some_iff.mp hx).1
  rw [show k = 0 by omega] at hx
  cases hx
  exact h
theorem mAt_arr {D : va_G} {cl : List vw_C} {tyC : Nat → ClassId} {ad : Nat → Nat} {i t : Nat} {a : vp_A} {U : State} {H : Heap} (ht : t < 4) (h : mAt D cl tyC ad i (.inl (t, a)) U H) : va_P D cl [(ad i, .inl (tyC t, a))] H := by
  refine va_P_one ?_
  unfold mAt at h
  split at h
  · rename_i heq; cases heq; omega
  · rename_i heq; cases heq; omega
  · rename_i heq; cases heq; omega
  · rename_i heq; cases heq; exact h
  · rename_i heq; cases heq
theorem mAt_arr' {D : va_G} {cl : List vw_C} {tyC : Nat → ClassId} {ad : Nat → Nat} {i t : Nat} {a : vp_A} {U : State} {H : Heap} (ht : t < 4) (h : H[ad i]? = some (vp_cell (tyC t) a)) : mAt D cl tyC ad i (.inl (t, a)) U H := by
  unfold mAt
  split
  · rename_i heq; cases heq; omega
  · rename_i heq; cases heq; omega
  · rename_i heq; cases heq; omega
  · rename_i heq; cases heq; exact h
  · rename_i heq; cases heq
theorem mIn_ok {i : Int32} {n : Nat} (h : mIn i n = true) : vp_in i n := by
  unfold mIn at h
  simp only [Bool.and_eq_true, Bool.not_eq_true', decide_eq_false_iff_not, decide_eq_true_eq] at h
  intro q
  rcases q with q | q
  · exact h.1 q
  · omega
/-- what an instruction's entry must be, for reads -/
def mVg (own : String) (cl : List vw_C) (zs : List (String × String × String × Value)) (Ts : List Cond) (i : Instr) (o1 o2 : Nat) (v : Value) : Prop := match i with
  | .getfield ix => (∃ (C : String) (T : u_T) (N : Nat), cl[o1]? = some (C, T, N) ∧ o2 < N ∧ (∀ w ∈ u_ws C T N, w ∈ Ts) ∧ (Cond.fieldLink own ix (T o2).1 (T o2).2.1 (T o2).2.2.1 ∈ Ts ∨ ∃ host, Cond.fieldLinkNest own ix (T o2).1 (T o2).2.1 (T o2).2.2.1 host ∈ Ts)) ∨ (cl[o1]? = none ∧ ∃ q, (mKc o1).2[o2]? = some q ∧ (Cond.fieldLink own ix q.1 q.2.1 q.2.2 ∈ Ts ∨ ∃ host, Cond.fieldLinkNest own ix q.1 q.2.1 q.2.2 host ∈ Ts))
  | .getstatic ix => ∃ C n d, (C, n, d, v) ∈ zs ∧ (Cond.fieldLink own ix C n d ∈ Ts ∨ ∃ host, Cond.fieldLinkNest own ix C n d host ∈ Ts)
  | .ldc ix => (∃ x, v = .int x ∧ Cond.constant own ix x ∈ Ts) ∨ (own = mRN.1 ∧ ix = mRN.2.1 ∧ v = .ref mRN.2.2.2)
  | .ldc_w ix => ∃ x, v = .int x ∧ Cond.constant own ix x ∈ Ts
  | .ldc2_w ix => ∃ x, v = .long x ∧ Cond.constantLong own ix x ∈ Ts
  | _ => True
section MG
variable {p : Program} {l : Launch} {e : Env} {R : Room} {s : State} {m : MethodId} {args : Array Value} {below : List Frame} {meth : Method} {c : Code} {H : Heap} {locs : List Loc} {cells slots : Nat} {Q : State → Prop}
variable {cc : ByteArray} {pc : Nat} {ls : Array Slot} {D : va_G} {cl : List vw_C} {tyC : Nat → ClassId} {k0 sz0 : Nat} {ad : Nat → Nat} {zs : List (String × String × String × Value)} {Ts : List Cond} {own : String}
set_option maxHeartbeats 8000000 in
theorem mG_ok (had : mAd k0 sz0 ad) {i : Instr} {o1 o2 : Nat} {v : Value} {st st' : List Value} {h : mH} (hx : p.tables.exec = Jvm.exec) (hb : c.code = cc) (hdg : decode cc pc = .ok (i, mLn i o1)) (hown : s.vm.findClass own = some m.cls) (hts : ∀ w ∈ Ts, w.before args s = true) (hV : mVg own cl zs Ts i o1 o2 v)
    (hOK : mOK D cl tyC k0 sz0 ad zs s h H) (hOK0 : ∀ z ∈ zs, mZ z.1 z.2.1 z.2.2.1 (mT ad z.2.2.2) (mNew sz0) s s.heap) (hRN : vk_R mRN.1 mRN.2.1 mRN.2.2.1 (ad mRN.2.2.2) s) (hS : va_S (mNew sz0) s.heap H locs) (hg : mG i o1 o2 v st h = some st')
    (k : W p l e R s m args below meth c H locs cells slots Q (F0 m (pc + mLen i) ls (mTs ad st'))) : W p l e R s m args below meth c H locs cells slots Q (F0 m pc ls (mTs ad st)) := by
  cases i <;> simp only [mG, reduceCtorEq] at hg
  case getfield ix =>
    split at hg
    · rename_i a r
      split at hg
      · rename_i ci fs hc
        split at hg
        · rename_i hci
          subst hci
          cases hf : fs[o2]? with
          | none => rw [hf] at hg; cases hg
          | some x =>
            rw [hf] at hg
            cases hg
            rcases hV with ⟨C, T, N, h1, h2, h3, h4⟩ | ⟨h1, q, h2, h4⟩
            · have hP := va_P_one ((hOK.2.2.2.1 a _ hc).obj h1)
              have hv : (fs.map (mT ad))[o2]? = some (mT ad x) := by rw [List.getElem?_map, hf]; rfl
              rcases h4 with h4 | ⟨host, h4⟩
              · exact va_get hx hb hts h3 hown hOK.1 hP 0 rfl h1 o2 h2 (hts _ h4) (fun _ q => q) hv hdg k
              · exact va_getN hx hb hts h3 hown hOK.1 hP 0 rfl h1 o2 h2 (hts _ h4) (fun _ q => q) hv hdg k
            · obtain ⟨v', v1, cf, kf, fi, f, cell, g1, g2, g3, g4, g5⟩ := ((hOK.2.2.2.1 a _ hc).con h1).2 o2 q h2
              rw [hf] at v1
              cases v1
              rcases h4 with h4 | ⟨host, h4⟩
              · exact W.getf hx hb hown (hts _ h4) g1 g2 g3 g4 (v := mT ad x) g5 rfl rfl hdg k
              · exact va_Wgetf hx hb hown (hts _ h4) g1 g2 g3 g4 (v := mT ad x) g5 rfl rfl hdg k
        · cases hg
      · cases hg
    · cases hg
  case getstatic ix =>
    cases hg
    obtain ⟨C, n, d, h1, h2 | ⟨host, h2⟩⟩ := hV
    · exact va_gets hx hb (hOK0 _ h1).z hS hown (hts _ h2) (fun _ q => q) hdg k
    · exact va_getsN hx hb (hOK0 _ h1).z hS hown (hts _ h2) (fun _ q => q) hdg k
  case ldc ix =>
    cases hg
    rcases hV with ⟨x, rfl, h2⟩ | ⟨rfl, rfl, rfl⟩
    · exact lv_ldc hx hb hown (hts _ h2) hdg k
    · exact va_ldcS hx hb hown hRN hdg k
  case ldc_w ix =>
    cases hg
    obtain ⟨x, rfl, h2⟩ := hV
    exact lv_ldcw hx hb hown (hts _ h2) hdg k
  case ldc2_w ix =>
    cases hg
    obtain ⟨x, rfl, h2⟩ := hV
    exact lv_ldc2 hx hb hown (hts _ h2) hdg k
  case iaload =>
    split at hg
    · rename_i i a r
      split at hg
      · rename_i n f hc
        split at hg
        · rename_i hin
          cases hg
          exact va_iald hx hb hOK.1 (mAt_arr (by decide) (hOK.2.2.2.1 a _ hc)) 0 0 rfl rfl (mIn_ok hin) hdg k
        · cases hg
      · rename_i n f hc
        split at hg
        · rename_i hin
          cases hg
          have hX : mArr (ad a) n f s H := hOK.2.2.2.1 a _ hc
          obtain ⟨scr, h1, h2, h3, h4, h5, h6⟩ := hX
          have hin := mIn_ok hin
          have hlt : i.toNatClampNeg < n := Nat.not_le.mp fun q => hin (Or.inr q)
          exact W.iald (v := .int (f i.toNatClampNeg)) hx hb h1 h2 h3 (fun q => q.elim (fun q => hin (Or.inl q)) (fun q => by omega)) (h6 _ hlt) rfl rfl hdg k
        · cases hg
      · cases hg
    · cases hg
  case caload =>
    split at hg
    · rename_i i a r
      split at hg
      · rename_i n f hc
        split at hg
        · rename_i hin
          cases hg
          exact va_cald hx hb hOK.1 (mAt_arr (by decide) (hOK.2.2.2.1 a _ hc)) 0 2 rfl rfl (mIn_ok hin) hdg k
        · cases hg
      · cases hg
    · cases hg
  case baload =>
    split at hg
    · rename_i i a r
      split at hg
      · rename_i n f hc
        split at hg
        · rename_i hin
          cases hg
          exact va_zald hx hb hOK.1 (mAt_arr (by decide) (hOK.2.2.2.1 a _ hc)) 0 3 rfl rfl (mIn_ok hin) hdg k
        · cases hg
      · rename_i n f hc
        split at hg
        · rename_i hin
          cases hg
          have hX : mOld .byte (ad a) n (fun j => .int (f j)) s H := hOK.2.2.2.1 a _ hc
          obtain ⟨scr, h1, h2, h3, h4, h5, h6⟩ := hX
          have hin := mIn_ok hin
          have hlt : i.toNatClampNeg < n := Nat.not_le.mp fun q => hin (Or.inr q)
          exact W.bald (v := .int (f i.toNatClampNeg)) hx hb h1 h2 h3 (fun q => q.elim (fun q => hin (Or.inl q)) (fun q => by omega)) (h6 _ hlt) rfl rfl hdg k
        · cases hg
      · cases hg
    · cases hg
  case aaload =>
    split at hg
    · rename_i i a r
      split at hg
      · rename_i n f hc
        split at hg
        · rename_i hin
          cases hq : f i.toNatClampNeg with
          | none => rw [hq] at hg; cases hg
          | some q0 =>
            rw [hq] at hg
            cases hg
            have hX : mOld mOp (ad a) n (fun j => mT ad (va_rf (f j))) s H := hOK.2.2.2.1 a _ hc
            obtain ⟨scr, h1, h2, h3, h4, h5, h6⟩ := hX
            have hin := mIn_ok hin
            have hlt : i.toNatClampNeg < n := Nat.not_le.mp fun q => hin (Or.inr q)
            have h7 := h6 _ hlt
            dsimp only at h7
            rw [hq] at h7
            exact W.aald (v := .ref (ad q0)) (ty := mOp) hx hb h1 h2 rfl h3 (fun q => q.elim (fun q => hin (Or.inl q)) (fun q => by omega)) h7 rfl rfl hdg k
        · cases hg
      · cases hg
    · cases hg
  case laload =>
    split at hg
    · rename_i i a r
      split at hg
      · rename_i n f hc
        split at hg
        · rename_i hin
          cases hg
          exact va_lald hx hb hOK.1 (mAt_arr (by decide) (hOK.2.2.2.1 a _ hc)) 0 1 rfl rfl (mIn_ok hin) hdg k
        · cases hg
      · cases hg
    · cases hg
  case arraylength =>
    split at hg
    · rename_i a r
      split at hg
      · rename_i n f hc
        cases hg
        have hX : mArr (ad a) n f s H := hOK.2.2.2.1 a _ hc
        obtain ⟨scr, h1, h2, h3, h4, h5, h6⟩ := hX
        exact W.alen (n := Int32.ofNat n) hx hb h1 h2 h5 rfl rfl hdg k
      · rename_i n f hc
        cases hg
        have hX : mOld .byte (ad a) n (fun j => .int (f j)) s H := hOK.2.2.2.1 a _ hc
        obtain ⟨scr, h1, h2, h3, h4, h5, h6⟩ := hX
        exact W.alen (n := Int32.ofNat n) hx hb h1 h2 h5 rfl rfl hdg k
      · rename_i n f hc
        cases hg
        have hX : mOld mOp (ad a) n (fun j => mT ad (va_rf (f j))) s H := hOK.2.2.2.1 a _ hc
        obtain ⟨scr, h1, h2, h3, h4, h5, h6⟩ := hX
        exact W.alen (n := Int32.ofNat n) hx hb h1 h2 h5 rfl rfl hdg k
      · rename_i t n f _ _ hne hc
        split at hg
        · rename_i ht
          cases hg
          have hP := mAt_arr (by omega) (hOK.2.2.2.1 a _ hc)
          have hc4 : t = 0 ∨ t = 1 ∨ t = 2 ∨ t = 3 := by omega
          rcases hc4 with rfl | rfl | rfl | rfl
          · exact va_alen hx hb hOK.1 hP 0 0 rfl rfl rfl hdg k
          · exact va_alen hx hb hOK.1 hP 0 1 rfl rfl rfl hdg k
          · exact va_alen hx hb hOK.1 hP 0 2 rfl rfl rfl hdg k
          · exact va_alen hx hb hOK.1 hP 0 3 rfl rfl rfl hdg k
        · cases hg
      · cases hg
    · cases hg
end MG
end
section
/-! WRITES AND NEW CELLS -/
theorem mAt.kept {D : va_G} {cl : List vw_C} {tyC : Nat → ClassId} {ad : Nat → Nat} {i : Nat} {c : (Nat × vp_A) ⊕ (Nat × List Value)} {U : State} {H H1 : Heap} (h : mAt D cl tyC ad i c U H) (hq : H1[ad i]? = H[ad i]?) : mAt D cl tyC ad i c U H1 := by
  unfold mAt at h ⊢
  split at h
  · exact h.kept hq
  · exact h.kept hq
  · exact h.kept hq
  · exact hq.trans h
  · exact h.imp (fun q => va_at.kept q hq) (fun q => ⟨q.1, q.2.kept hq⟩)
theorem mAt.lt {D : va_G} {cl : List vw_C} {tyC : Nat → ClassId} {ad : Nat → Nat} {i : Nat} {c : (Nat × vp_A) ⊕ (Nat × List Value)} {U : State} {H : Heap} (h : mAt D cl tyC ad i c U H) : ad i < H.size := by
  unfold mAt at h
  split at h
  · obtain ⟨scr, q, -⟩ := h
    exact (Array.getElem?_eq_some_iff.mp q).1
  · obtain ⟨scr, q, -⟩ := h
    exact (Array.getElem?_eq_some_iff.mp q).1
  · obtain ⟨scr, q, -⟩ := h
    exact (Array.getElem?_eq_some_iff.mp q).1
  · exact (Array.getElem?_eq_some_iff.mp h).1
  · rcases h with h | ⟨-, ⟨cell, q, -⟩, -⟩
    · exact va_at.lt h
    · exact (Array.getElem?_eq_some_iff.mp q).1
theorem mOK.set {D : va_G} {cl : List vw_C} {tyC : Nat → ClassId} {k0 sz0 : Nat} {ad : Nat → Nat} {zs : List (String × String × String × Value)} {U : State} {h : mH} {H H1 : Heap} (had : mAd k0 sz0 ad) (k : mOK D cl tyC k0 sz0 ad zs U h H) {a : Nat} {c : (Nat × vp_A) ⊕ (Nat × List Value)} (hka : k0 ≤ a) (hl : a < h.length)
    (z : H1.size = H.size) (oq : ∀ q : Nat, q ≠ ad a → H1[q]? = H[q]?) (hc : mAt D cl tyC ad a c U H1) : mOK D cl tyC k0 sz0 ad zs U (h.set a (some c)) H1 := by
  obtain ⟨k1, k2, k3, k4, k5⟩ := k
  refine ⟨k1, ⟨by rw [List.length_set]; exact k2.1, fun i h1 h2 => ?_⟩, by rw [z, List.length_set]; exact k3, fun i x hx => ?_, fun y hy => (k5 y hy).kept (fun q _ hn => oq q (fun e => hn ?_))⟩
  · by_cases hi : i = a
    · subst hi
      exact ⟨c, List.getElem?_set_self hl⟩
    · rw [List.getElem?_set_ne (Ne.symm hi)]
      exact k2.2 i h1 (by rw [List.length_set] at h2; exact h2)
  · by_cases hi : i = a
    · subst hi
      rw [List.getElem?_set_self hl] at hx
      cases hx
      exact hc
    · rw [List.getElem?_set_ne (Ne.symm hi)] at hx
      exact (k4 i x hx).kept (oq _ (mAd_ne had hka hi))
  · rw [e, had.2.1 a hka]
    exact Nat.le_add_right _ _
theorem mOK.push {D : va_G} {cl : List vw_C} {tyC : Nat → ClassId} {k0 sz0 : Nat} {ad : Nat → Nat} {zs : List (String × String × String × Value)} {U : State} {h : mH} {H H1 : Heap} (had : mAd k0 sz0 ad) (k : mOK D cl tyC k0 sz0 ad zs U h H) {c : (Nat × vp_A) ⊕ (Nat × List Value)}
    (z : H1.size = H.size + 1) (oq : ∀ q : Nat, q < H.size → H1[q]? = H[q]?) (hc : mAt D cl tyC ad h.length c U H1) : mOK D cl tyC k0 sz0 ad zs U (h ++ [some c]) H1 := by
  obtain ⟨k1, ⟨k2, kf⟩, k3, k4, k5⟩ := k
  refine ⟨k1, ⟨by rw [List.length_append]; exact Nat.le_trans k2 (Nat.le_add_right _ _), fun i h1 h2 => ?_⟩, by rw [z, List.length_append, k3]; simp; omega, fun i x hx => ?_, fun y hy => (k5 y hy).kept (fun q hq _ => oq q hq)⟩
  · by_cases hi : i < h.length
    · rw [List.getElem?_append_left hi]
      exact kf i h1 hi
    · rw [List.length_append] at h2
      have hi0 : i = h.length := by simp at h2; omega
      subst hi0
      exact ⟨c, by simp⟩
  · by_cases hi : i < h.length
    · rw [List.getElem?_append_left hi] at hx
      have h1 := k4 i x hx
      exact h1.kept (oq _ h1.lt)
    · rw [List.getElem?_append_right (by omega)] at hx
      have hz : i - h.length < 1 := (List.getElem?_eq_some_iff.mp hx).1
      have hi0 : i = h.length := by omega
      subst hi0
      rw [Nat.sub_self] at hx
      have hxc : c = x := Option.some.inj (Option.some.inj hx)
      subst hxc
      exact hc
theorem mAd_at {k0 sz0 : Nat} {ad : Nat → Nat} (had : mAd k0 sz0 ad) {D : va_G} {cl : List vw_C} {tyC : Nat → ClassId} {zs : List (String × String × String × Value)} {U : State} {h : mH} {H : Heap} (k : mOK D cl tyC k0 sz0 ad zs U h H) : ad h.length = H.size := by
  rw [had.2.1 _ k.2.1.1, k.2.2.1]
/-- kinds of fields and their types -/
def mFk (k : Nat) (ty : FieldType) : Bool := match k, ty with
  | 0, .int => true
  | 1, .boolean => true
  | 2, .long => true
  | 3, .object _ => true
  | 3, .array _ => true
  | _, _ => false
theorem mFit_ok {ad : Nat → Nat} {k : Nat} {ty : FieldType} {v : Value} (hk : mFk k ty = true) (hv : mFit k v = true) : narrow ty (mT ad v) = mT ad v ∧ fits ty (mT ad v) = true := by
  unfold mFk at hk
  split at hk
  · unfold mFit at hv
    split at hv <;> first | (exact ⟨rfl, rfl⟩) | (simp at *; done) | contradiction
  · cases v <;> simp [mFit] at hv
    rename_i x
    rcases hv with rfl | rfl <;> exact ⟨rfl, rfl⟩
  · cases v <;> simp [mFit] at hv
    exact ⟨rfl, rfl⟩
  · cases v <;> simp [mFit] at hv
    exact ⟨rfl, rfl⟩
  · cases v <;> simp [mFit] at hv
    exact ⟨rfl, rfl⟩
  · cases hk
def mVp (own : String) (cl : List vw_C) (Ts : List Cond) (isI : Bool) (i : Instr) (o1 o2 o3 : Nat) : Prop := match i with
  | .putfield ix => ∃ (C : String) (T : u_T) (N : Nat) (ty0 : Nat → FieldType), cl[o1]? = some (C, T, N) ∧ o2 < N ∧ (∀ w ∈ u_ws C T N, w ∈ Ts) ∧ (∀ k, k < N → parseFieldDescriptor (T k).2.2.1 = some (ty0 k)) ∧ (∀ a, a < N → ∀ b, b < N → a ≠ b → (T a).2.1 ≠ (T b).2.1) ∧ mFk o3 (ty0 o2) = true ∧
    (((T o2).2.2.2 = false ∧ (Cond.fieldLink own ix (T o2).1 (T o2).2.1 (T o2).2.2.1 ∈ Ts ∨ ∃ host, Cond.fieldLinkNest own ix (T o2).1 (T o2).2.1 (T o2).2.2.1 host ∈ Ts)) ∨ ((T o2).2.2.2 = true ∧ isI = true ∧ (T o2).1 = own ∧ Cond.fieldLink own ix (T o2).1 (T o2).2.1 (T o2).2.2.1 ∈ Ts))
  | _ => True
section MP
variable {p : Program} {l : Launch} {e : Env} {R : Room} {s : State} {m : MethodId} {args : Array Value} {below : List Frame} {meth : Method} {c : Code} {H : Heap} {locs : List Loc} {cells slots : Nat} {Q : State → Prop}
variable {cc : ByteArray} {pc : Nat} {ls : Array Slot} {rest : List Value} {D : va_G} {cl : List vw_C} {tyC : Nat → ClassId} {k0 sz0 : Nat} {ad : Nat → Nat} {zs : List (String × String × String × Value)} {Ts : List Cond} {own : String}
set_option maxHeartbeats 4000000 in
/-- a field's store, with all that it leaves as it was -/
theorem mPut {isI : Bool} {ix o1 o2 o3 a : Nat} {fs : List Value} {v : Value} {h : mH} (had : mAd k0 sz0 ad) (hx : p.tables.exec = Jvm.exec) (hb : c.code = cc) (hdg : decode cc pc = .ok (.putfield ix, 3)) (hown : s.vm.findClass own = some m.cls) (hts : ∀ w ∈ Ts, w.before args s = true) (hV : mVp own cl Ts isI (.putfield ix) o1 o2 o3) (hI : isI = true → meth.name = "<init>")
    (hOK : mOK D cl tyC k0 sz0 ad zs s h H) (hS : va_S (mNew sz0) s.heap H locs) (hc : h[a]? = some (some (.inr (o1, fs)))) (hka : k0 ≤ a) (hl : o2 < fs.length) (hf : mFit o3 v = true)
    (kk : ∀ (H1 : Heap) (locs1 : List Loc), mOK D cl tyC k0 sz0 ad zs s (h.set a (some (.inr (o1, fs.set o2 v)))) H1 → va_S (mNew sz0) s.heap H1 locs1 → W p l e R s m args below meth c H1 locs1 cells slots Q (F0 m (pc + 3) ls rest)) : W p l e R s m args below meth c H locs cells slots Q (F0 m pc ls (mT ad v :: .ref (ad a) :: rest)) := by
  obtain ⟨C, T, N, ty0, h1, h2, h3, h4, h5, h6, h7⟩ := hV
  have hla : a < h.length := (List.getElem?_eq_some_iff.mp hc).1
  have hAa : mNew sz0 (ad a) := by show sz0 ≤ ad a; rw [had.2.1 a hka]; exact Nat.le_add_right _ _
  have hap := va_apart (own := own) hts h3 ty0 h4 h5 hOK.1 h1
  obtain ⟨r, g1, cell, q1, q2, q3, q4⟩ := ((hOK.2.2.2.1 a _ hc).obj h1)
  have hr : r = (C, T, N) := Option.some.inj (g1.symm.trans h1)
  subst hr
  obtain ⟨hSl, hfc, kC, hkC, hkind⟩ := hOK.1.1 o1 _ h1
  obtain ⟨cf, kf, fi, f, hi, hsl⟩ := hSl o2 h2
  obtain ⟨hn, hfit⟩ := mFit_ok (ad := ad) h6 hf
  have hlay := hts _ (h3 _ (u_in_lay h2))
  unfold u_lay at hlay
  have hst := (u_facts hfc hkC (u_lays hts h3 h2) hi).1
  have fin : ∀ H' : Heap, H'[ad a]? = some (cell.setSlot f.slot (mT ad v)) → H'.size = H.size → (∀ q, q ≠ ad a → H'[q]? = H[q]?) → W p l e R s m args below meth c H' (locs ++ [⟨ad a, f.slot⟩]) cells slots Q (F0 m (pc + 3) ls rest) := by
    intro H' e1 e2 e3
    refine kk H' _ (hOK.set had hka hla e2 e3 ?_) (hS.put e2 e3 hAa)
    rw [hsl] at e1
    refine mAt.mk (show va_at D cl (ad a, .inr (o1, (fs.set o2 v).map (mT ad))) H' from ⟨_, h1, ?_⟩)
    rw [List.map_set]
    exact t_OB.to (V := updV (vp_V (fs.map (mT ad))) o2 (mT ad v)) ⟨_, e1, q2, q3, t_set q4 hap h2 (mT ad v)⟩ (fun j _ => vp_updV_set (by rw [List.length_map]; exact hl) (mT ad v) j)
  rcases h7 with ⟨h7, h8⟩ | ⟨h7, h8, h9, h10⟩
  · rw [if_neg (by rw [h7]; decide)] at hlay
    have hs6 := u_store hfc hkC hkind hlay hi (h4 o2 h2) hn hfit
    rcases h8 with h8 | ⟨host, h8⟩
    · exact W.putK hx hb (f := f) ⟨hown, hts _ h8, ⟨_, _, _, hi⟩, hst⟩ (by rw [q2]; exact hs6) q1 q3 (by rw [hsl]; exact k2_hasslot (q4 o2 h2)) rfl rfl hdg fin
    · exact va_WputK hx hb (f := f) hown (hts _ h8) hi hst (by rw [q2]; exact hs6) q1 q3 (by rw [hsl]; exact k2_hasslot (q4 o2 h2)) rfl rfl hdg fin
  · rw [if_pos h7] at hlay
    have hcf : m.cls = cf := by
      obtain ⟨_, _, c', _, _, _, -, -, hf', -, -, -, hown2, -⟩ := Cond.laysFinal_spec hlay
      have e1 : c' = cf := by have := hi.symm.trans hf'; simp at this; exact this.1.symm
      rw [h9] at hown2
      rw [← e1]; exact Option.some.inj (hown.symm.trans hown2)
    have hs6 := u_fits hfc hkC hkind (Or.inr hlay) hi (h4 o2 h2) hn hfit
    exact W.putFinK hx hb hown (hts _ h10) hi hst hcf (hI h8) (by rw [q2]; exact hs6) q1 q3 (by rw [hsl]; exact k2_hasslot (q4 o2 h2)) rfl rfl hdg fin
set_option maxHeartbeats 8000000 in
theorem mP_ok {isI : Bool} {i : Instr} {o1 o2 o3 : Nat} {st st' : List Value} {h h' : mH} (had : mAd k0 sz0 ad) (hx : p.tables.exec = Jvm.exec) (hb : c.code = cc) (hdg : decode cc pc = .ok (i, mLn i o1)) (hown : s.vm.findClass own = some m.cls) (hts : ∀ w ∈ Ts, w.before args s = true) (hV : mVp own cl Ts isI i o1 o2 o3) (hI : isI = true → meth.name = "<init>")
    (hOK : mOK D cl tyC k0 sz0 ad zs s h H) (hS : va_S (mNew sz0) s.heap H locs) (hg : mP k0 i o1 o2 o3 st h = some (st', h'))
    (kk : ∀ (H1 : Heap) (locs1 : List Loc), mOK D cl tyC k0 sz0 ad zs s h' H1 → va_S (mNew sz0) s.heap H1 locs1 → W p l e R s m args below meth c H1 locs1 cells slots Q (F0 m (pc + mLen i) ls (mTs ad st'))) : W p l e R s m args below meth c H locs cells slots Q (F0 m pc ls (mTs ad st)) := by
  have hAa : ∀ a, k0 ≤ a → mNew sz0 (ad a) := fun a hka => by show sz0 ≤ ad a; rw [had.2.1 a hka]; exact Nat.le_add_right _ _
  cases i <;> simp only [mP, reduceCtorEq] at hg
  case putfield ix =>
    split at hg
    · rename_i v a r
      split at hg
      · rename_i ci fs hc
        split at hg
        · rename_i hq
          obtain ⟨rfl, hka, hl, hf⟩ := hq
          cases hg
          exact mPut had hx hb hdg hown hts hV hI hOK hS hc hka hl hf kk
        · cases hg
      · cases hg
    · cases hg
  case iastore =>
    split at hg
    · rename_i x i a r
      split at hg
      · rename_i n f hc
        split at hg
        · rename_i hq
          obtain ⟨hin, hka⟩ := hq
          cases hg
          have hin := mIn_ok hin
          have hcell := mAt_arr (by decide) (hOK.2.2.2.1 a _ hc) 0 _ rfl
          refine W.iast hx hb hcell ((hOK.1.2 0 _ rfl).1 n (fun j => .int (f j))) (fun q => by cases q) (by show ¬ (i < 0 ∨ (arrV _ _ _).slots.size ≤ _); rw [arrV_size]; exact hin) rfl rfl hdg fun H1 e z oq => ?_
          refine kk H1 _ (hOK.set had hka (List.getElem?_eq_some_iff.mp hc).1 z oq (mAt_arr' (by decide) ?_)) (hS.put z oq (hAa a hka))
          rw [e]
          rw [vp_cell_i, vp_cell_i, arrV_store]
          congr 2
          funext q
          by_cases hq : q = i.toNatClampNeg
          · subst hq
            simp [updV, upd]
          · simp [updV, upd, hq]
        · cases hg
      · cases hg
    · cases hg
  case castore =>
    split at hg
    · rename_i x i a r
      split at hg
      · rename_i n f hc
        split at hg
        · rename_i hq
          obtain ⟨hin, hka⟩ := hq
          cases hg
          have hin := mIn_ok hin
          have hcell := mAt_arr (by decide) (hOK.2.2.2.1 a _ hc) 0 _ rfl
          refine W.cast hx hb hcell ((hOK.1.2 2 _ rfl).1 n (fun j => .int (f j))) (fun q => by cases q) (by show ¬ (i < 0 ∨ (arrV _ _ _).slots.size ≤ _); rw [arrV_size]; exact hin) rfl rfl hdg fun H1 e z oq => ?_
          refine kk H1 _ (hOK.set had hka (List.getElem?_eq_some_iff.mp hc).1 z oq (mAt_arr' (by decide) ?_)) (hS.put z oq (hAa a hka))
          rw [e]
          rw [vp_cell_i, vp_cell_i, arrV_store]
          congr 2
          funext q
          by_cases hq : q = i.toNatClampNeg
          · subst hq
            simp [updV, upd, vp_nar]
            try rfl
          · simp [updV, upd, hq]
        · cases hg
      · cases hg
    · cases hg
  case bastore =>
    split at hg
    · rename_i x i a r
      split at hg
      · rename_i n f hc
        split at hg
        · rename_i hq
          obtain ⟨hin, hka⟩ := hq
          cases hg
          have hin := mIn_ok hin
          have hcell := mAt_arr (by decide) (hOK.2.2.2.1 a _ hc) 0 _ rfl
          refine W.zast hx hb hcell ((hOK.1.2 3 _ rfl).1 n (fun j => .int (f j))) (fun q => by cases q) (by show ¬ (i < 0 ∨ (arrV _ _ _).slots.size ≤ _); rw [arrV_size]; exact hin) rfl rfl hdg fun H1 e z oq => ?_
          refine kk H1 _ (hOK.set had hka (List.getElem?_eq_some_iff.mp hc).1 z oq (mAt_arr' (by decide) ?_)) (hS.put z oq (hAa a hka))
          rw [e]
          rw [vp_cell_i, vp_cell_i, arrV_store]
          congr 2
          funext q
          by_cases hq : q = i.toNatClampNeg
          · subst hq
            simp [updV, upd, vp_nar]
            try rfl
          · simp [updV, upd, hq]
        · cases hg
      · cases hg
    · cases hg
  case lastore =>
    split at hg
    · rename_i x i a r
      split at hg
      · rename_i n f hc
        split at hg
        · rename_i hq
          obtain ⟨hin, hka⟩ := hq
          cases hg
          have hin := mIn_ok hin
          have hcell := mAt_arr (by decide) (hOK.2.2.2.1 a _ hc) 0 _ rfl
          refine W.last hx hb hcell ((hOK.1.2 1 _ rfl).1 n (fun j => .long (f j))) (fun q => by cases q) (by show ¬ (i < 0 ∨ (arrV _ _ _).slots.size ≤ _); rw [arrV_size]; exact hin) rfl rfl hdg fun H1 e z oq => ?_
          refine kk H1 _ (hOK.set had hka (List.getElem?_eq_some_iff.mp hc).1 z oq (mAt_arr' (by decide) ?_)) (hS.put z oq (hAa a hka))
          rw [e]
          rw [vp_cell_l, vp_cell_l, arrV_store]
          congr 2
          funext q
          by_cases hq : q = i.toNatClampNeg
          · subst hq
            simp [updV, vp_updL]
          · simp [updV, vp_updL, hq]
        · cases hg
      · cases hg
    · cases hg
end MP
/-! COPIES FROM ARRAY TO ARRAY -/
def mVy (own : String) (Ts : List Cond) (i : Instr) : Prop := ∃ ix, i = .invokestatic ix ∧ Cond.methodLink own ix arraycopyName ∈ Ts ∧ Cond.native arraycopyName ∈ Ts ∧ Cond.static arraycopyName ∈ Ts ∧ Cond.initialized "java/lang/System" ∈ Ts
section MY
variable {p : Program} {l : Launch} {e : Env} {R : Room} {s : State} {m : MethodId} {args : Array Value} {below : List Frame} {meth : Method} {c : Code} {H : Heap} {locs : List Loc} {cells slots : Nat} {Q : State → Prop}
variable {cc : ByteArray} {pc : Nat} {ls : Array Slot} {D : va_G} {cl : List vw_C} {tyC : Nat → ClassId} {k0 sz0 : Nat} {ad : Nat → Nat} {zs : List (String × String × String × Value)} {Ts : List Cond} {own : String}
set_option maxHeartbeats 4000000 in
theorem mCpI (hexec : p.tables.exec = Jvm.exec) (hb : c.code = cc) (hml : c.maxLocals = ls.size) {index : Nat} (hown : s.vm.findClass own = some m.cls) (hlink : (Cond.methodLink own index arraycopyName).before args s = true) (hnat : (Cond.native arraycopyName).before args s = true) (hstat : (Cond.static arraycopyName).before args s = true) (hini : (Cond.initialized "java/lang/System").before args s = true)
    {a0 a : Nat} {c0 c1 : ClassId} {n0 n1 : Nat} {f g : Nat → Int32} (hc0 : H[a0]? = some (vp_cell c0 (n0, .inl f))) (hc1 : H[a]? = some (vp_cell c1 (n1, .inl g))) (hA0 : ArrOfT s c0 .int) (hA1 : ArrOfT s c1 .int)
    {sp dp n : Int32} (h1 : ¬ sp < 0) (h2 : ¬ dp < 0) (h3 : ¬ n < 0) (h4 : sp.toNatClampNeg + n.toNatClampNeg ≤ n0) (h5 : dp.toNatClampNeg + n.toNatClampNeg ≤ n1) (hframes : 1 ≤ R.frames) (hlo : 20 ≤ R.locals) (hdg : decode cc pc = .ok (.invokestatic index, 3))
    (kk : ∀ (H1 : Heap) (locs1 : List Loc), H1[a]? = some (vp_cell c1 (n1, .inl (va_cpy f g sp.toNatClampNeg dp.toNatClampNeg n.toNatClampNeg))) → H1.size = H.size → (∀ q : Nat, q ≠ a → H1[q]? = H[q]?) → (∀ q ∈ locs1, q ∈ locs ∨ q.base = a) → W p l e R s m args below meth c H1 locs1 cells slots Q (F0 m (pc + 3) ls [])) : W p l e R s m args below meth c H locs cells slots Q (F0 m pc ls [.int n, .int dp, .ref a, .int sp, .ref a0]) := by
  have nn : ∀ z : Int32, ¬ z < 0 → z.toInt = (z.toNatClampNeg : Int) := by
    intro z hz
    have hz0 : (0 : Int) ≤ z.toInt := by
      have := Int32.not_lt.mp hz
      simpa using Int32.le_iff_toInt_le.mp this
    show z.toInt = ((z.toInt.toNat : Nat) : Int)
    omega
  intro T hT X
  obtain ⟨-, k0, hk0, cm0, hkk0⟩ := hA0 n0 (fun j => .int (f j))
  obtain ⟨-, k1, hk1, cm1, hkk1⟩ := hA1 n1 (fun j => .int (g j))
  obtain ⟨vm', X', step⟩ := X.arraycopy hexec hown hlink hnat hstat hini (src := a0) (dst := a) (cs := vp_cell c0 (n0, .inl f)) (cd := vp_cell c1 (n1, .inl g)) (srcPos := sp) (destPos := dp) (n := n) (by rw [hT]; exact hc0) (by rw [hT]; exact hc1)
    (fun _ h => by cases h) (fun _ h => by cases h) (fun h => by cases h) (fun h => by cases h) hk0 hk1 hkk0 hkk1 (by simp [refKind]) h1 h2 h3
    (by rw [nn sp h1, nn n h3]; show ¬ _ > ((arrV c0 n0 (fun j => .int (f j))).slots.size : Int); rw [arrV_size]; omega)
    (by rw [nn dp h2, nn n h3]; show ¬ _ > ((arrV c1 n1 (fun j => .int (g j))).slots.size : Int); rw [arrV_size]; omega)
    (fun vm₁ _ i hi => by
      have e : (vp_cell c0 (n0, .inl f)).slots.getD (sp.toNatClampNeg + i) .null = .int (f (sp.toNatClampNeg + i)) := by
        show (arrV c0 n0 (fun j => .int (f j))).slots.getD _ _ = _
        rw [Array.getD_eq_getD_getElem?, arrV_read _ _ (by omega)]
        rfl
      refine ⟨?_, ?_⟩
      · rw [e]
        rfl
      · rw [e]
        exact trivial)
    (g := F0 m pc ls [.int n, .int dp, .ref a, .int sp, .ref a0]) rfl (by rw [hml]) (rest := []) rfl (by rw [hb]; exact hdg) hframes (by show 2 * 0 + 0 + (7 + 11) ≤ _; omega)
  have e1 : copied (vp_cell c0 (n0, .inl f)) (vp_cell c1 (n1, .inl g)) sp dp n = vp_cell c1 (n1, .inl (va_cpy f g sp.toNatClampNeg dp.toNatClampNeg n.toNatClampNeg)) := va_copied (fun z => .int z) c0 c1 f g h4
  rw [e1] at X' step
  have hl : a < H.size := (Array.getElem?_eq_some_iff.mp hc1).1
  have hheap : ((T.setVm vm').setCell a (vp_cell c1 (n1, .inl (va_cpy f g sp.toNatClampNeg dp.toNatClampNeg n.toNatClampNeg)))).heap = H.setIfInBounds a (vp_cell c1 (n1, .inl (va_cpy f g sp.toNatClampNeg dp.toNatClampNeg n.toNatClampNeg))) := by rw [← hT]; rfl
  obtain ⟨t, a1, b1⟩ := kk _ _ (show (H.setIfInBounds a _)[a]? = some _ by simp [Array.getElem?_setIfInBounds, hl]) (by simp) (fun q hq => by simp [Array.getElem?_setIfInBounds, Ne.symm hq]) (fun q hq => by
    rcases List.mem_append.mp hq with h | h
    · exact Or.inl h
    · obtain ⟨z, -, hz⟩ := List.mem_map.mp h
      rw [← hz]
      exact Or.inr rfl) _ hheap X'
  exact ⟨t, step t a1, b1⟩
set_option maxHeartbeats 4000000 in
theorem mCpL (hexec : p.tables.exec = Jvm.exec) (hb : c.code = cc) (hml : c.maxLocals = ls.size) {index : Nat} (hown : s.vm.findClass own = some m.cls) (hlink : (Cond.methodLink own index arraycopyName).before args s = true) (hnat : (Cond.native arraycopyName).before args s = true) (hstat : (Cond.static arraycopyName).before args s = true) (hini : (Cond.initialized "java/lang/System").before args s = true)
    {a0 a : Nat} {c0 c1 : ClassId} {n0 n1 : Nat} {f g : Nat → Int64} (hc0 : H[a0]? = some (vp_cell c0 (n0, .inr (.inl f)))) (hc1 : H[a]? = some (vp_cell c1 (n1, .inr (.inl g)))) (hA0 : ArrOfT s c0 .long) (hA1 : ArrOfT s c1 .long)
    {sp dp n : Int32} (h1 : ¬ sp < 0) (h2 : ¬ dp < 0) (h3 : ¬ n < 0) (h4 : sp.toNatClampNeg + n.toNatClampNeg ≤ n0) (h5 : dp.toNatClampNeg + n.toNatClampNeg ≤ n1) (hframes : 1 ≤ R.frames) (hlo : 20 ≤ R.locals) (hdg : decode cc pc = .ok (.invokestatic index, 3))
    (kk : ∀ (H1 : Heap) (locs1 : List Loc), H1[a]? = some (vp_cell c1 (n1, .inr (.inl (va_cpy f g sp.toNatClampNeg dp.toNatClampNeg n.toNatClampNeg)))) → H1.size = H.size → (∀ q : Nat, q ≠ a → H1[q]? = H[q]?) → (∀ q ∈ locs1, q ∈ locs ∨ q.base = a) → W p l e R s m args below meth c H1 locs1 cells slots Q (F0 m (pc + 3) ls [])) : W p l e R s m args below meth c H locs cells slots Q (F0 m pc ls [.int n, .int dp, .ref a, .int sp, .ref a0]) := by
  have nn : ∀ z : Int32, ¬ z < 0 → z.toInt = (z.toNatClampNeg : Int) := by
    intro z hz
    have hz0 : (0 : Int) ≤ z.toInt := by
      have := Int32.not_lt.mp hz
      simpa using Int32.le_iff_toInt_le.mp this
    show z.toInt = ((z.toInt.toNat : Nat) : Int)
    omega
  intro T hT X
  obtain ⟨-, k0, hk0, cm0, hkk0⟩ := hA0 n0 (fun j => .long (f j))
  obtain ⟨-, k1, hk1, cm1, hkk1⟩ := hA1 n1 (fun j => .long (g j))
  obtain ⟨vm', X', step⟩ := X.arraycopy hexec hown hlink hnat hstat hini (src := a0) (dst := a) (cs := vp_cell c0 (n0, .inr (.inl f))) (cd := vp_cell c1 (n1, .inr (.inl g))) (srcPos := sp) (destPos := dp) (n := n) (by rw [hT]; exact hc0) (by rw [hT]; exact hc1)
    (fun _ h => by cases h) (fun _ h => by cases h) (fun h => by cases h) (fun h => by cases h) hk0 hk1 hkk0 hkk1 (by simp [refKind]) h1 h2 h3
    (by rw [nn sp h1, nn n h3]; show ¬ _ > ((arrV c0 n0 (fun j => .long (f j))).slots.size : Int); rw [arrV_size]; omega)
    (by rw [nn dp h2, nn n h3]; show ¬ _ > ((arrV c1 n1 (fun j => .long (g j))).slots.size : Int); rw [arrV_size]; omega)
    (fun vm₁ _ i hi => by
      have e : (vp_cell c0 (n0, .inr (.inl f))).slots.getD (sp.toNatClampNeg + i) .null = .long (f (sp.toNatClampNeg + i)) := by
        show (arrV c0 n0 (fun j => .long (f j))).slots.getD _ _ = _
        rw [Array.getD_eq_getD_getElem?, arrV_read _ _ (by omega)]
        rfl
      refine ⟨?_, ?_⟩
      · rw [e]
        rfl
      · rw [e]
        exact trivial)
    (g := F0 m pc ls [.int n, .int dp, .ref a, .int sp, .ref a0]) rfl (by rw [hml]) (rest := []) rfl (by rw [hb]; exact hdg) hframes (by show 2 * 0 + 0 + (7 + 11) ≤ _; omega)
  have e1 : copied (vp_cell c0 (n0, .inr (.inl f))) (vp_cell c1 (n1, .inr (.inl g))) sp dp n = vp_cell c1 (n1, .inr (.inl (va_cpy f g sp.toNatClampNeg dp.toNatClampNeg n.toNatClampNeg))) := va_copied (fun z => .long z) c0 c1 f g h4
  rw [e1] at X' step
  have hl : a < H.size := (Array.getElem?_eq_some_iff.mp hc1).1
  have hheap : ((T.setVm vm').setCell a (vp_cell c1 (n1, .inr (.inl (va_cpy f g sp.toNatClampNeg dp.toNatClampNeg n.toNatClampNeg))))).heap = H.setIfInBounds a (vp_cell c1 (n1, .inr (.inl (va_cpy f g sp.toNatClampNeg dp.toNatClampNeg n.toNatClampNeg)))) := by rw [← hT]; rfl
  obtain ⟨t, a1, b1⟩ := kk _ _ (show (H.setIfInBounds a _)[a]? = some _ by simp [Array.getElem?_setIfInBounds, hl]) (by simp) (fun q hq => by simp [Array.getElem?_setIfInBounds, Ne.symm hq]) (fun q hq => by
    rcases List.mem_append.mp hq with h | h
    · exact Or.inl h
    · obtain ⟨z, -, hz⟩ := List.mem_map.mp h
      rw [← hz]
      exact Or.inr rfl) _ hheap X'
  exact ⟨t, step t a1, b1⟩
set_option maxHeartbeats 4000000 in
theorem mY_ok (had : mAd k0 sz0 ad) {i : Instr} {o3 : Nat} {st st' : List Value} {h h' : mH} (hx : p.tables.exec = Jvm.exec) (hb : c.code = cc) (hml : c.maxLocals = ls.size) (hdg : decode cc pc = .ok (i, 3)) (hown : s.vm.findClass own = some m.cls) (hts : ∀ w ∈ Ts, w.before args s = true) (hV : mVy own Ts i)
    (hOK : mOK D cl tyC k0 sz0 ad zs s h H) (hS : va_S (mNew sz0) s.heap H locs) (hg : mY k0 o3 st h = some (st', h')) (hfr : 1 ≤ R.frames) (hlo : 20 ≤ R.locals)
    (kk : ∀ (H1 : Heap) (locs1 : List Loc), mOK D cl tyC k0 sz0 ad zs s h' H1 → va_S (mNew sz0) s.heap H1 locs1 → W p l e R s m args below meth c H1 locs1 cells slots Q (F0 m (pc + 3) ls (mTs ad st'))) : W p l e R s m args below meth c H locs cells slots Q (F0 m pc ls (mTs ad st)) := by
  have hAa : ∀ a, k0 ≤ a → mNew sz0 (ad a) := fun a hka => by show sz0 ≤ ad a; rw [had.2.1 a hka]; exact Nat.le_add_right _ _
  have hSp : ∀ {a : Nat} {H1 : Heap} {locs1 : List Loc}, k0 ≤ a → H1.size = H.size → (∀ q : Nat, q ≠ ad a → H1[q]? = H[q]?) → (∀ q ∈ locs1, q ∈ locs ∨ q.base = ad a) → va_S (mNew sz0) s.heap H1 locs1 := fun {a H1 locs1} hka z oq hlq => by
    refine ⟨by rw [z]; exact hS.1, fun q g1 g2 => ?_, fun q hq => ?_⟩
    · rw [oq q (fun e => g2 (by rw [e]; exact hAa a hka))]
      exact hS.2.1 q g1 g2
    · rcases hlq q hq with h | h
      · exact hS.2.2 q h
      · rw [h]
        exact hAa a hka
  obtain ⟨ix, rfl, l1, l2, l3, l4⟩ := hV
  unfold mY at hg
  split at hg
  · split at hg
    · rename_i n dp a sp b
      split at hg
      · rename_i n1 g n0 f ha hb0
        split at hg
        · rename_i hq
          obtain ⟨hr, hka, hkb, hab⟩ := hq
          unfold mYr at hr
          rw [decide_eq_true_eq] at hr
          obtain ⟨⟨r1, r2, r3⟩, r4, r5⟩ := hr
          cases hg
          have hca := mAt_arr (by decide) (hOK.2.2.2.1 a _ ha) 0 _ rfl
          have hcb := mAt_arr (by decide) (hOK.2.2.2.1 b _ hb0) 0 _ rfl
          exact mCpI hx hb hml hown (hts _ l1) (hts _ l2) (hts _ l3) (hts _ l4) hcb hca (hOK.1.2 0 _ rfl).1 (hOK.1.2 0 _ rfl).1 r1 r2 r3 r4 r5 hfr hlo hdg (fun H1 locs1 e1 z oq hlq => kk H1 locs1 (hOK.set had hka (List.getElem?_eq_some_iff.mp ha).1 z oq (mAt_arr' (by decide) e1)) (hSp hka z oq hlq))
        · cases hg
      · cases hg
    · cases hg
  · split at hg
    · rename_i n dp a sp b
      split at hg
      · rename_i n1 g n0 f ha hb0
        split at hg
        · rename_i hq
          obtain ⟨hr, hka, hkb, hab⟩ := hq
          unfold mYr at hr
          rw [decide_eq_true_eq] at hr
          obtain ⟨⟨r1, r2, r3⟩, r4, r5⟩ := hr
          cases hg
          have hca := mAt_arr (by decide) (hOK.2.2.2.1 a _ ha) 0 _ rfl
          have hcb := mAt_arr (by decide) (hOK.2.2.2.1 b _ hb0) 0 _ rfl
          exact mCpL hx hb hml hown (hts _ l1) (hts _ l2) (hts _ l3) (hts _ l4) hcb hca (hOK.1.2 1 _ rfl).1 (hOK.1.2 1 _ rfl).1 r1 r2 r3 r4 r5 hfr hlo hdg (fun H1 locs1 e1 z oq hlq => kk H1 locs1 (hOK.set had hka (List.getElem?_eq_some_iff.mp ha).1 z oq (mAt_arr' (by decide) e1)) (hSp hka z oq hlq))
        · cases hg
      · cases hg
    · cases hg
  · cases hg
end MY
end
section
/-! NEW CELLS -/
/-- how many slots a cell has (a thrown object: six) -/
def mSz (c : mC) : Nat := match c with
  | none => 6
  | some (.inl (_, n, _)) => n
  | some (.inr (_, fs)) => fs.length
def mVn (own : String) (cl : List vw_C) (Ts : List Cond) (dflt : Nat → List Value) (i : Instr) (o1 : Nat) : Prop := match i with
  | .newarray t => Cond.arrayClass (newarray.typeOf t) ∈ Ts
  | .new ix => ∃ (C : String) (T : u_T) (N : Nat) (ty0 : Nat → FieldType), cl[o1]? = some (C, T, N) ∧ (∀ w ∈ u_ws C T N, w ∈ Ts) ∧ (∀ k, k < N → parseFieldDescriptor (T k).2.2.1 = some (ty0 k)) ∧ Cond.classLink own ix C ∈ Ts ∧ Cond.instantiable C N ∈ Ts ∧ Cond.initialized C ∈ Ts ∧ (dflt o1).length = N ∧ ∀ j, j < N → (dflt o1)[j]? = some (defaultValue (ty0 j))
  | _ => True
theorem mT_default (ad : Nat → Nat) (ty : FieldType) : mT ad (defaultValue ty) = defaultValue ty := by cases ty <;> rfl
section MN
variable {p : Program} {l : Launch} {e : Env} {R : Room} {s : State} {m : MethodId} {args : Array Value} {below : List Frame} {meth : Method} {c : Code} {H : Heap} {locs : List Loc} {cells slots : Nat} {Q : State → Prop}
variable {cc : ByteArray} {pc : Nat} {ls : Array Slot} {rest : List Value} {D : va_G} {cl : List vw_C} {tyC : Nat → ClassId} {k0 sz0 : Nat} {ad : Nat → Nat} {zs : List (String × String × String × Value)} {Ts : List Cond} {own : String}
theorem mNa_inv {k : Nat} {st st' : List Value} {h h' : mH} {a : Nat → vp_A} (hg : mNa k st h a = some (st', h')) : ∃ n r, st = .int n :: r ∧ ¬ n < 0 ∧ n.toNatClampNeg ≤ 1000 ∧ st' = .ref h.length :: r ∧ h' = h ++ [some (.inl (k, a n.toNatClampNeg))] := by
  unfold mNa at hg
  split at hg
  · split at hg
    · rename_i hq
      cases hg
      exact ⟨_, _, rfl, hq.1, hq.2, rfl, rfl⟩
    · cases hg
  · cases hg
theorem va_S.grow {A : Nat → Prop} {H0 H H1 : Heap} {locs : List Loc} (h : va_S A H0 H locs) (z : H1.size = H.size + 1) (o1 : ∀ q : Nat, q < H.size → H1[q]? = H[q]?) : va_S A H0 H1 locs :=
  ⟨Nat.le_trans h.1 (by omega), fun x h1 h2 => (o1 x (Nat.lt_of_lt_of_le h1 h.1)).trans (h.2.1 x h1 h2), h.2.2⟩
set_option maxHeartbeats 4000000 in
/-- a new array of the kind k -/
theorem mNa_row {t : ArrayType} {ty : FieldType} (hty : newarray.typeOf t = ty) (k : Nat) (hk : k < 4) (htk : (mTys tyC)[k]? = some (tyC k, ty)) (hRA : ∀ cA, va_RA s cA ty → s.vm.findClass ("[" ++ ty.toString) = some cA) {a : Nat → vp_A} (ha : ∀ (cA : ClassId) (n : Nat), vp_cell cA (a n) = arrV cA n (fun _ => defaultValue ty)) (hb8 : ∀ n, n ≤ 1000 → n * componentBytes ty ≤ 536870912)
    {st st' : List Value} {h h' : mH} (had : mAd k0 sz0 ad) (hx : p.tables.exec = Jvm.exec) (hb : c.code = cc) (hdg : decode cc pc = .ok (.newarray t, 2)) (hts : ∀ w ∈ Ts, w.before args s = true) (hV : Cond.arrayClass (newarray.typeOf t) ∈ Ts)
    (hOK : mOK D cl tyC k0 sz0 ad zs s h H) (hS : va_S (mNew sz0) s.heap H locs) (hg : mNa k st h a = some (st', h')) (hcells : cells + 1 ≤ R.cells) (hslots : ∀ x, h' = h ++ [x] → slots + mSz x ≤ R.slots) (hsz : ∀ n, (a n).1 = n)
    (kk : ∀ (x : mC) (H1 : Heap), h' = h ++ [x] → mOK D cl tyC k0 sz0 ad zs s h' H1 → va_S (mNew sz0) s.heap H1 locs → W p l e R s m args below meth c H1 locs (cells + 1) (slots + mSz x) Q (F0 m (pc + 2) ls (mTs ad st'))) : W p l e R s m args below meth c H locs cells slots Q (F0 m pc ls (mTs ad st)) := by
  obtain ⟨n, r, rfl, hn, hN, rfl, rfl⟩ := mNa_inv hg
  subst hty
  have hsl : mSz (some (.inl (k, a n.toNatClampNeg))) = n.toNatClampNeg := hsz _
  have h9 := hslots _ rfl
  rw [hsl] at h9
  refine va_newaK hx hb (hts _ hV) rfl hdg rfl hn rfl (hb8 _ hN) hcells h9 rfl fun H1 cA e1 z1 o1 hAr hNm => ?_
  have hcA : cA = tyC k := by
    have h1 := hRA _ (hOK.1.2 k _ htk).2
    exact Option.some.inj (hNm.symm.trans h1)
  subst hcA
  have h8 := kk _ H1 rfl (hOK.push had z1 o1 (by
    refine mAt_arr' hk ?_
    rw [mAd_at had hOK, ha]
    exact e1)) (hS.grow z1 o1)
  rw [hsl] at h8
  have h7 : mTs ad (.ref h.length :: r) = .ref H.size :: mTs ad r := by show Value.ref (ad h.length) :: _ = _; rw [mAd_at had hOK]
  rw [h7] at h8
  exact h8
set_option maxHeartbeats 4000000 in
theorem mN_ok {dflt : Nat → List Value} {i : Instr} {o1 : Nat} {st st' : List Value} {h h' : mH} (had : mAd k0 sz0 ad) (hx : p.tables.exec = Jvm.exec) (hb : c.code = cc) (hdg : decode cc pc = .ok (i, mLn i o1)) (hown : s.vm.findClass own = some m.cls) (hts : ∀ w ∈ Ts, w.before args s = true) (hV : mVn own cl Ts dflt i o1)
    (hOK : mOK D cl tyC k0 sz0 ad zs s h H) (hS : va_S (mNew sz0) s.heap H locs) (hg : mN dflt i o1 st h = some (st', h')) (hcells : cells + 1 ≤ R.cells) (hslots : ∀ x, h' = h ++ [x] → slots + mSz x ≤ R.slots)
    (kk : ∀ (x : mC) (H1 : Heap), h' = h ++ [x] → mOK D cl tyC k0 sz0 ad zs s h' H1 → va_S (mNew sz0) s.heap H1 locs → W p l e R s m args below meth c H1 locs (cells + 1) (slots + mSz x) Q (F0 m (pc + mLen i) ls (mTs ad st'))) : W p l e R s m args below meth c H locs cells slots Q (F0 m pc ls (mTs ad st)) := by
  cases i <;> simp only [mN, reduceCtorEq] at hg
  case newarray t =>
    cases t <;> simp only [reduceCtorEq] at hg
    case int => exact mNa_row (t := .int) (ty := .int) rfl 0 (by decide) rfl (fun _ q => q) (fun cA n => vp_cell_i cA n _) (fun n hn => by show n * 4 ≤ _; omega) had hx hb hdg hts hV hOK hS hg hcells hslots (fun _ => rfl) kk
    case long => exact mNa_row (t := .long) (ty := .long) rfl 1 (by decide) rfl (fun _ q => q) (fun cA n => vp_cell_l cA n _) (fun n hn => by show n * 8 ≤ _; omega) had hx hb hdg hts hV hOK hS hg hcells hslots (fun _ => rfl) kk
    case char => exact mNa_row (t := .char) (ty := .char) rfl 2 (by decide) rfl (fun _ q => q) (fun cA n => vp_cell_i cA n _) (fun n hn => by show n * 2 ≤ _; omega) had hx hb hdg hts hV hOK hS hg hcells hslots (fun _ => rfl) kk
    case boolean => exact mNa_row (t := .boolean) (ty := .boolean) rfl 3 (by decide) rfl (fun _ q => q) (fun cA n => vp_cell_i cA n _) (fun n hn => by show n * 1 ≤ _; omega) had hx hb hdg hts hV hOK hS hg hcells hslots (fun _ => rfl) kk
  case new ix =>
    cases hg
    obtain ⟨C, T, N, ty0, h1, h3, h4, h5, h6, h7, h8, h9⟩ := hV
    have hKn := hOK.1.1 o1 _ h1
    have hsl : mSz (some (.inr (o1, dflt o1))) = N := h8
    have h10 := hslots _ rfl
    rw [hsl] at h10
    refine W.newcK hx hb hown (hts _ h5) (hts _ h6) (hts _ h7) rfl hdg hcells h10 hKn.2.1 rfl fun H1 kC hkC e1 z1 o1' => ?_
    have h11 := kk _ H1 rfl (hOK.push had z1 o1' (by
      refine mAt.mk (show va_at D cl (ad h.length, .inr (o1, (dflt o1).map (mT ad))) H1 from ⟨_, h1, ?_⟩)
      rw [mAd_at had hOK]
      refine (u_born ty0 hts h3 hKn hkC e1 h4).to (fun j hj => ?_)
      show defaultValue (ty0 j) = ((dflt o1).map (mT ad)).getD j .null
      rw [List.getD_eq_getElem?_getD, List.getElem?_map, h9 j hj]
      exact (mT_default ad _).symm)) (hS.grow z1 o1')
    rw [hsl] at h11
    have h12 : mTs ad (.ref h.length :: st) = .ref H.size :: mTs ad st := by show Value.ref (ad h.length) :: _ = _; rw [mAd_at had hOK]
    rw [h12] at h11
    exact h11
/-- calls that are done at once -/
def mVx (own : String) (Ts : List Cond) (i : Instr) (o3 : Nat) : Prop := match o3 with
  | 1 => ∃ ix, i = .invokespecial ix ∧ Cond.methodLink own ix Lib.objectInit ∈ Ts ∧ Cond.instanceMethod Lib.objectInit ∈ Ts ∧ Cond.code Lib.objectInit ⟨#[0xb1]⟩ 1 none ∈ Ts
  | 2 => ∃ ix, i = .invokestatic ix ∧ Cond.methodLink own ix Lib.Math.min.name ∈ Ts ∧ Cond.static Lib.Math.min.name ∈ Ts ∧ Cond.initialized "java/lang/Math" ∈ Ts ∧ Cond.code Lib.Math.min.name Lib.Math.min.code 2 (some .int) ∈ Ts
  | 3 => ∃ ix, i = .invokestatic ix ∧ Cond.methodLink own ix Lib.Math.max.name ∈ Ts ∧ Cond.static Lib.Math.max.name ∈ Ts ∧ Cond.initialized "java/lang/Math" ∈ Ts ∧ Cond.code Lib.Math.max.name Lib.Math.max.code 2 (some .int) ∈ Ts
  | 4 => mVy own Ts i
  | 5 => mVy own Ts i
  | _ => True
theorem mTs_cat (ad : Nat → Nat) (st : List Value) : ((mTs ad st).map fun v => v.category) = st.map fun v => v.category := by
  rw [List.map_map]
  exact List.map_congr_left (fun v _ => mT_cat ad v)
set_option maxHeartbeats 4000000 in
theorem mX_ok {i : Instr} {o3 nL : Nat} {st st' : List Value} {h h' : mH} (hx : p.tables.exec = Jvm.exec) (hb : c.code = cc) (hdg : decode cc pc = .ok (i, 3)) (hown : s.vm.findClass own = some m.cls) (hts : ∀ w ∈ Ts, w.before args s = true) (hV : mVx own Ts i o3) (hsz : ls.size = c.maxLocals)
    (hg : mX o3 st h = some (st', h')) (hfr : 1 ≤ R.frames) (hlo : 20 ≤ R.locals) (hc : cells ≤ R.cells) (hs : slots ≤ R.slots)
    (kk : h' = h → W p l e R s m args below meth c H locs cells slots Q (F0 m (pc + 3) ls (mTs ad st'))) : W p l e R s m args below meth c H locs cells slots Q (F0 m pc ls (mTs ad st)) := by
  unfold mX at hg
  split at hg
  · split at hg
    · rename_i a r
      split at hg
      · rename_i hq
        cases hg
        obtain ⟨ix, rfl, h1, h2, h3⟩ := hV
        refine W.objInit hx hb hown (hts _ h1) (hts _ h2) (hts _ h3) rfl hsz rfl hdg hfr ?_ (kk rfl)
        have h4 := lv_room (m := m) (pc := pc) (ls := ls) (rest := mTs ad (.ref a :: st')) (st := mTs ad st') (by rw [mTs_cat]; exact hq)
        exact Nat.le_trans (Nat.add_le_add_right h4 12) hlo
      · cases hg
    · cases hg
  · split at hg
    · rename_i y x r
      split at hg
      · rename_i hq
        cases hg
        obtain ⟨ix, rfl, h1, h2, h3, h4⟩ := hV
        exact va_mmin hx hb hsz.symm hown (hts _ h1) (hts _ h2) (hts _ h3) (hts _ h4) hfr (by rw [mTs_cat]; omega) hc hs hdg (kk rfl)
      · cases hg
    · cases hg
  · split at hg
    · rename_i y x r
      split at hg
      · rename_i hq
        cases hg
        obtain ⟨ix, rfl, h1, h2, h3, h4⟩ := hV
        exact va_mmax hx hb hsz.symm hown (hts _ h1) (hts _ h2) (hts _ h3) (hts _ h4) hfr (by rw [mTs_cat]; omega) hc hs hdg (kk rfl)
      · cases hg
    · cases hg
  · cases hg
end MN
end
section
/-! ONE STEP OF THE SMALL MACHINE, WHERE NO CALL, RETURN OR THROW IS AT HAND -/
def mSls (h : mH) : Nat := (h.map mSz).sum
theorem mSls_app (h : mH) (x : mC) : mSls (h ++ [x]) = mSls h + mSz x := by simp [mSls]
theorem mSls_set : ∀ (h : mH) {a : Nat} {x y : mC}, h[a]? = some x → mSz y = mSz x → mSls (h.set a y) = mSls h
  | [], a, x, y, hx, _ => by simp at hx
  | z :: h, 0, x, y, hx, hs => by
    have hz : z = x := by simpa using hx
    subst hz
    simp [mSls, hs]
  | z :: h, a + 1, x, y, hx, hs => by
    have h1 := mSls_set h (a := a) (x := x) (y := y) (by simpa using hx) hs
    show (mSz z :: (h.set a y).map mSz).sum = (mSz z :: h.map mSz).sum
    rw [List.sum_cons, List.sum_cons]
    exact congrArg (mSz z + ·) h1
theorem mP_keeps {k0 : Nat} {i : Instr} {o1 o2 o3 : Nat} {st st' : List Value} {h h' : mH} (hg : mP k0 i o1 o2 o3 st h = some (st', h')) : h'.length = h.length ∧ mSls h' = mSls h := by
  cases i <;> simp only [mP, reduceCtorEq] at hg
  case putfield ix =>
    split at hg
    · split at hg
      · rename_i hc
        split at hg
        · cases hg
          exact ⟨by simp, mSls_set h hc (by simp [mSz])⟩
        · cases hg
      · cases hg
    · cases hg
  all_goals
    split at hg
    · split at hg
      · rename_i hc
        split at hg
        · cases hg
          exact ⟨by simp, mSls_set h hc (by simp [mSz])⟩
        · cases hg
      · cases hg
    · cases hg
theorem mN_grows {dflt : Nat → List Value} {i : Instr} {o1 : Nat} {st st' : List Value} {h h' : mH} (hg : mN dflt i o1 st h = some (st', h')) : ∃ x, h' = h ++ [x] := by
  cases i <;> simp only [mN, reduceCtorEq] at hg
  case newarray t =>
    cases t <;> simp only [reduceCtorEq] at hg
    all_goals
      obtain ⟨n, r, -, -, -, -, rfl⟩ := mNa_inv hg
      exact ⟨_, rfl⟩
  case new ix =>
    cases hg
    exact ⟨_, rfl⟩
theorem mX_same {o3 : Nat} {st st' : List Value} {h h' : mH} (hg : mX o3 st h = some (st', h')) : h' = h := by
  unfold mX at hg
  split at hg
  · split at hg
    · split at hg
      · cases hg; rfl
      · cases hg
    · cases hg
  · split at hg
    · split at hg
      · cases hg; rfl
      · cases hg
    · cases hg
  · split at hg
    · split at hg
      · cases hg; rfl
      · cases hg
    · cases hg
  · cases hg
theorem mY_keeps {k0 o3 : Nat} {st st' : List Value} {h h' : mH} (hg : mY k0 o3 st h = some (st', h')) : h'.length = h.length ∧ mSls h' = mSls h := by
  unfold mY at hg
  split at hg
  · split at hg
    · split at hg
      · rename_i ha hb
        split at hg
        · cases hg
          exact ⟨List.length_set .., mSls_set _ ha rfl⟩
        · cases hg
      · cases hg
    · cases hg
  · split at hg
    · split at hg
      · rename_i ha hb
        split at hg
        · cases hg
          exact ⟨List.length_set .., mSls_set _ ha rfl⟩
        · cases hg
      · cases hg
    · cases hg
  · cases hg
theorem mY_o3 {k0 o3 : Nat} {st : List Value} {h : mH} {r : List Value × mH} (hg : mY k0 o3 st h = some r) : o3 = 4 ∨ o3 = 5 := by
  unfold mY at hg
  split at hg
  · exact Or.inl rfl
  · exact Or.inr rfl
  · cases hg
def mVd (nL : Nat) (i : Instr) (o1 : Nat) : Prop := match i with
  | .istore _ => o1 = nL
  | .istore_n _ => o1 = nL
  | .lstore _ => o1 = nL
  | .lstore_n _ => o1 = nL
  | .astore _ => o1 = nL
  | .astore_n _ => o1 = nL
  | .iinc _ _ => o1 = nL
  | _ => True
theorem mD_nL {nL : Nat} {i : Instr} {o1 : Nat} {lv : mL} {st : List Value} {r : mL × List Value} (h : mD i o1 lv st = some r) (hV : mVd nL i o1) : o1 = nL := by
  cases i <;> simp only [mD, reduceCtorEq] at h <;> exact hV
theorem mIv_len {i : Instr} {o1 : Nat} (h : mIv i = true) : mLn i o1 = 3 := by
  cases i <;> simp only [mIv, reduceCtorEq] at h <;> rfl
/-- what an entry must be -/
def mV (own : String) (cl : List vw_C) (zs : List (String × String × String × Value)) (Ts : List Cond) (dflt : Nat → List Value) (isI : Bool) (nL : Nat) (en : mI) : Prop :=
  mVd nL en.1 en.2.1 ∧ mVg own cl zs Ts en.1 en.2.1 en.2.2.1 en.2.2.2.2 ∧ mVp own cl Ts isI en.1 en.2.1 en.2.2.1 en.2.2.2.1 ∧ (en.2.2.2.1 = 0 ∨ mNw en.1 = false → mVn own cl Ts dflt en.1 en.2.1) ∧ (mIv en.1 = true → mVx own Ts en.1 en.2.2.2.1)
section MX
variable {p : Program} {l : Launch} {e : Env} {R : Room} {s : State} {m : MethodId} {args : Array Value} {below : List Frame} {meth : Method} {c : Code} {H : Heap} {locs : List Loc} {cells slots : Nat} {Q : State → Prop}
variable {cc : ByteArray} {pc : Nat} {ls : Array Slot} {rest : List Value} {D : va_G} {cl : List vw_C} {tyC : Nat → ClassId} {k0 sz0 : Nat} {ad : Nat → Nat} {zs : List (String × String × String × Value)} {Ts : List Cond} {own : String}
set_option maxHeartbeats 4000000 in
theorem mNx_ok {dflt : Nat → List Value} {isI : Bool} {nL : Nat} {en : mI} {pc' : Nat} {lv lv' : mL} {st st' : List Value} {h h' : mH} (had : mAd k0 sz0 ad) (hx : p.tables.exec = Jvm.exec) (hb : c.code = cc) (hdg : decode cc pc = .ok (en.1, mLn en.1 en.2.1)) (hown : s.vm.findClass own = some m.cls) (hts : ∀ w ∈ Ts, w.before args s = true) (hV : mV own cl zs Ts dflt isI nL en) (hI : isI = true → meth.name = "<init>") (hth : mTh en = none)
    (hml : c.maxLocals = nL) (hOK : mOK D cl tyC k0 sz0 ad zs s h H) (hOK0 : ∀ z ∈ zs, mZ z.1 z.2.1 z.2.2.1 (mT ad z.2.2.2) (mNew sz0) s s.heap) (hRN : vk_R mRN.1 mRN.2.1 mRN.2.2.1 (ad mRN.2.2.2) s) (hS : va_S (mNew sz0) s.heap H locs) (hl : lv_has ls nL (mTl ad lv)) (hfr : 1 ≤ R.frames) (hlo : 20 ≤ R.locals)
    (hn : mNx k0 dflt en pc lv st h = some (pc', lv', st', h')) (hcells : cells + (h'.length - h.length) ≤ R.cells) (hslots : slots + (mSls h' - mSls h) ≤ R.slots)
    (kk : ∀ (ls' : Array Slot) (H1 : Heap) (locs1 : List Loc), lv_has ls' nL (mTl ad lv') → mOK D cl tyC k0 sz0 ad zs s h' H1 → va_S (mNew sz0) s.heap H1 locs1 → W p l e R s m args below meth c H1 locs1 (cells + (h'.length - h.length)) (slots + (mSls h' - mSls h)) Q (F0 m pc' ls' (mTs ad st'))) : W p l e R s m args below meth c H locs cells slots Q (F0 m pc ls (mTs ad st)) := by
  obtain ⟨v1, v2, v3, v4, v5⟩ := hV
  have same : ∀ {q1 : Nat} {l1 : Array Slot} {s1 : List Value}, W p l e R s m args below meth c H locs (cells + (h.length - h.length)) (slots + (mSls h - mSls h)) Q (F0 m q1 l1 s1) → W p l e R s m args below meth c H locs cells slots Q (F0 m q1 l1 s1) := fun k => by
    rw [Nat.sub_self, Nat.sub_self] at k
    exact k
  unfold mNx at hn
  split at hn
  · rename_i st1 hA
    cases hn
    exact mA_ok ad hx hb hdg hA (same (kk ls H locs hl hOK hS))
  · split at hn
    · rename_i v hB
      cases hn
      exact mB_ok ad hx hb hdg hl hB (same (kk ls H locs hl hOK hS))
    · split at hn
      · rename_i lv1 st1 hD
        cases hn
        have hq := mD_nL hD v1
        rw [hq] at hD hdg
        exact mD_ok ad hx hb hdg hl hD (fun ls' hl' => same (kk ls' H locs hl' hOK hS))
      · split at hn
        · rename_i pc1 st1 hJ
          cases hn
          exact mJ_ok ad had.2.2 hx hb hdg hJ (same (kk ls H locs hl hOK hS))
        · split at hn
          · rename_i st1 hG
            cases hn
            exact mG_ok had hx hb hdg hown hts v2 hOK hOK0 hRN hS hG (same (kk ls H locs hl hOK hS))
          · split at hn
            · rename_i st1 h1 hP
              cases hn
              obtain ⟨e1, e2⟩ := mP_keeps hP
              refine mP_ok had hx hb hdg hown hts v3 hI hOK hS hP (fun H1 locs1 k1 k2 => ?_)
              have k3 := kk ls H1 locs1 hl k1 k2
              rw [e1, e2, Nat.sub_self, Nat.sub_self] at k3
              exact k3
            · split at hn
              · rename_i st1 h1 hN
                cases hn
                obtain ⟨x, hx1⟩ := mN_grows hN
                have e1 : h'.length - h.length = 1 := by rw [hx1]; simp
                have e2 : mSls h' - mSls h = mSz x := by rw [hx1, mSls_app]; omega
                rw [e1, e2] at kk
                rw [e1] at hcells
                rw [e2] at hslots
                have h0 : en.2.2.2.1 = 0 ∨ mNw en.1 = false := by
                  unfold mTh at hth
                  cases hnw : mNw en.1
                  · exact Or.inr rfl
                  · rw [if_pos hnw] at hth
                    split at hth
                    · rename_i hz; exact Or.inl hz
                    · cases hth
                have hinj : ∀ y : mC, h' = h ++ [y] → y = x := fun y hy => by
                  have := hy.symm.trans hx1
                  simpa using this
                refine mN_ok had hx hb hdg hown hts (v4 h0) hOK hS hN hcells (fun y hy => by rw [hinj y hy]; exact hslots) (fun y H1 hy k1 k2 => ?_)
                rw [hinj y hy]
                exact kk ls H1 locs hl k1 k2
              · split at hn
                · rename_i hiv
                  split at hn
                  · rename_i st1 h1 hX
                    cases hn
                    have e1 := mX_same hX
                    subst e1
                    rw [mIv_len hiv] at hdg
                    exact mX_ok (nL := nL) hx hb hdg hown hts (v5 hiv) (by rw [hml]; exact hl.1) hX hfr hlo (by omega) (by omega) (fun _ => same (kk ls H locs hl hOK hS))
                  · split at hn
                    · rename_i st1 h1 hY
                      cases hn
                      obtain ⟨e1, e2⟩ := mY_keeps hY
                      rw [mIv_len hiv] at hdg
                      have hVy : mVy own Ts en.1 := by
                        have hv := v5 hiv
                        rcases mY_o3 hY with ho | ho <;> (rw [ho] at hv; exact hv)
                      refine mY_ok had hx hb (by rw [hml, hl.1]) hdg hown hts hVy hOK hS hY hfr hlo (fun H1 locs1 k1 k2 => ?_)
                      have k3 := kk ls H1 locs1 hl k1 k2
                      rw [e1, e2, Nat.sub_self, Nat.sub_self] at k3
                      exact k3
                    · cases hn
                · cases hn
end MX
end
section
/-! CALLS THAT RETURN OR THROW -/
/-- a method's code, with its handlers -/
def mCW (y : MethodName) (bytes : ByteArray) (maxL : Nat) (ret : Option FieldType) (hs : List (Nat × Nat × Nat × Nat)) : Cond := match hs with
  | [] => .code y bytes maxL ret
  | q :: r => .codeWith y bytes maxL ret (q :: r)
theorem mCW_spec {y : MethodName} {bytes : ByteArray} {maxL : Nat} {ret : Option FieldType} {hs : List (Nat × Nat × Nat × Nat)} {args : Array Value} {s : State} (h : (mCW y bytes maxL ret hs).before args s = true) :
    ∃ m meth c, s.methodNamed? y = some m ∧ s.vm.method? m = some meth ∧ meth.code = some c ∧ c.code = bytes ∧ c.maxLocals = maxL ∧ c.exceptionTable.toList.map (fun h => (h.startPc, h.endPc, h.handlerPc, h.catchType)) = hs ∧ meth.sig.returnType = ret ∧ meth.locks = false ∧ parseMethodDescriptor y.desc = some meth.sig := by
  cases hs with
  | nil =>
    have h : (Cond.code y bytes maxL ret).before args s = true := h
    obtain ⟨m, hn⟩ := Cond.code_named h
    obtain ⟨meth, c, h1, h2, h3, h4, h5, h6, h7, h8⟩ := Cond.code_spec hn h
    refine ⟨m, meth, c, hn, h1, h2, h3, h4, ?_, h5, h6, h8⟩
    have h9 : c.exceptionTable = #[] := by simpa using h7
    rw [h9]
    rfl
  | cons q r => exact Cond.codeWith_spec h
/-- a method's contract: it returns, or it throws -/
def MetX (l : Launch) (y : MethodName) (ws : List Cond) (rm : Room) (Pc : Array Value → State → Prop) (Qc : Array Value → State → Outcome → State → Prop) (mc ms : Nat) (free : Addr → Prop) : Prop :=
  MetFree l y (headSpec ws rm) Pc (fun _ _ _ _ _ => True) (fun a st o t => Qc a st o t ∧ ∃ L, (st.WarmedH t.vm ∧ st.sameButNew ({ t with vm := st.vm } : State) L mc ms) ∧ ∀ q ∈ L, free q.base)
def MQX (below : List Frame) (Qc : Array Value → State → Outcome → State → Prop) (a : Array Value) (s : State) (mc ms : Nat) (free : Addr → Prop) : State → Prop := fun t =>
  ∃ o, t.status = .running ∧ Ended t below o ∧ Qc a s o t ∧ ∃ L, (s.WarmedH t.vm ∧ s.sameButNew ({ t with vm := s.vm } : State) L mc ms) ∧ ∀ q ∈ L, free q.base
theorem MQ.toX {below : List Frame} {Qc : Array Value → State → Outcome → State → Prop} {a : Array Value} {s : State} {mc ms : Nat} {free : Addr → Prop} {t : State} (h : MQ below Qc a s mc ms free t) : MQX below Qc a s mc ms free t := by
  obtain ⟨o, h1, h2, h3, L, ⟨-, h4, h5⟩, h6⟩ := h
  exact ⟨o, h1, h2, h3, L, ⟨h4, h5⟩, h6⟩
section MW
variable {p : Program} {l : Launch} {e : Env} {R : Room} {s : State} {m : MethodId} {args : Array Value} {below : List Frame} {meth : Method} {c : Code} {H : Heap} {locs : List Loc} {cells slots : Nat} {Q : State → Prop}
theorem W.mono {Q' : State → Prop} {g : JFrame} (hQ : ∀ t, Q t → Q' t) (k : W p l e R s m args below meth c H locs cells slots Q g) : W p l e R s m args below meth c H locs cells slots Q' g := by
  intro T hT X
  obtain ⟨t, a, b⟩ := k T hT X
  exact ⟨t, a, hQ t b⟩
theorem MetX.ofW {y : MethodName} {ws : List Cond} {rm : Room} {Pc : Array Value → State → Prop} {Qc : Array Value → State → Outcome → State → Prop} {mc ms : Nat} {free : Addr → Prop} {cc : ByteArray} {maxL : Nat} {ret : Option FieldType} {hs : List (Nat × Nat × Nat × Nat)}
    (hy : plainName y.cls = true) (hw : mCW y cc maxL ret hs ∈ ws)
    (body : ∀ p e s m args below meth c s₁, BodyLoose p l y (headSpec ws rm) cc maxL ret e s m args below meth c s₁ → c.maxLocals = maxL → c.exceptionTable.toList.map (fun h => (h.startPc, h.endPc, h.handlerPc, h.catchType)) = hs → Pc args s →
      W p l e (headSpec ws rm).room s m args below meth c s.heap [] 0 0 (MQX below Qc args s mc ms free) (entryFrame m args maxL)) : MetX l y ws rm Pc Qc mc ms free := by
  refine MetFree.of_bodyS (code := cc) (maxLocals := maxL) (ret := ret) hy ?_ ?_
  · intro args s m h hn
    obtain ⟨m', meth, c, h0, h1, h2, h3, h4, -, h5, h6, -⟩ := mCW_spec (atoms_spec (ws := ws) h _ hw)
    cases hn.symm.trans h0
    exact ⟨meth, c, h1, h2, h3, h4, h5, h6⟩
  · intro p e s m args below meth c s₁ B hml hP _
    have hh0 : s₁.heap = s.heap := by rw [B.state]; rfl
    have X := Stand.of_body B
    obtain ⟨m', meth', c', h0, h1, h2, h3, h4, h7, h5, h6, -⟩ := mCW_spec (atoms_spec (ws := ws) B.pre _ hw)
    cases B.named.symm.trans h0
    cases B.method.symm.trans h1
    cases X.code.symm.trans h2
    obtain ⟨t, a1, o, b1, b2, b3⟩ := body p e s m args below meth c s₁ B hml h7 hP s₁ hh0 X
    exact ⟨t, o, a1, b1, b2, ⟨b3.1, b3.2⟩⟩
/-- where the caller goes on -/
def mRes (U : State) (g : JFrame) (o : Outcome) : State := match o with
  | .returned v => U.setTop { g with pc := g.pc + 3, stack := v.toList ++ g.stack }
  | .threw x => (U.setTop g).pushFrame (.throwing x)
set_option maxHeartbeats 4000000 in
/-- a call by a contract, once its instruction is linked -/
theorem mCall {y : MethodName} {ws : List Cond} {rm : Room} {Pc : Array Value → State → Prop} {Qc : Array Value → State → Outcome → State → Prop} {mc ms : Nat} {free : Addr → Prop} {bytes : ByteArray} {maxL : Nat} {ret : Option FieldType} {hs : List (Nat × Nat × Nat × Nat)} {T : State}
    (X : Stand p l e R s m args below meth c T locs cells slots) (hM : MetX l y ws rm Pc Qc mc ms free) (hbl : FrameBlind Pc) (hrc : rm.cells = mc) (hrs : rm.slots = ms) (hfr : rm.frames + 1 ≤ R.frames) (hlo : 8 + (maxL + 11) + rm.locals ≤ R.locals)
    (hws : ∀ w ∈ ws, ∀ (a' : Array Value) (U : State), s.WarmedH U.vm → w.before a' U = true) (hcw : mCW y bytes maxL ret hs ∈ ws) (hini : ∀ (a' : Array Value) (U : State), s.WarmedH U.vm → (Cond.initialized y.cls).before a' U = true)
    {g : JFrame} (hg : g.method = m) (hsize : g.locals.size = c.maxLocals) {ig : Instr} (hdg : decode c.code g.pc = .ok (ig, 3)) (hW : 2 * g.monitorRoom + (g.stack.map fun v => v.category).sum ≤ 8) {mk : MethodId} (hn : T.methodNamed? y = some mk) {a : Array Value} (hc : cells + mc ≤ R.cells) (hsl : slots + ms ≤ R.slots) (hP : Pc a T) :
    ∃ (o : Outcome) (t T' : State) (L : List Loc), Stand p l e R s m args below meth c T' (locs ++ L) (cells + mc) (slots + ms) ∧ (∀ q ∈ L, free q.base) ∧ T'.heap = t.heap ∧ T'.vm = t.vm ∧ Qc a (T.calling g mk a) o t ∧ Steps p.tables e below (doInvoke e (T.setTop g) [] mk a).1 (mRes T' g o) := by
  have h1 : (headSpec ws rm).pre.before a T = true := atoms_intro fun w hw => hws w hw _ _ X.warmed
  obtain ⟨mk', methY, cY, hn', hmY, hcY, -, hlY, -, -, -, -⟩ := mCW_spec (hws _ hcw a T X.warmed)
  cases hn.symm.trans hn'
  obtain ⟨kY, hkY, -⟩ := className_of_methodNamed hn
  have hinitY : kY.init = .initialized := Cond.initialized_spec (findClass_of_methodNamed hn) hkY (hini a T X.warmed)
  have h : At T g.method c below := by rw [hg]; exact X.here
  have happ : (headSpec ws rm).appliesLoose y e.platform (T.calling g mk a) = true :=
    Spec.appliesLoose_calling (g := g) h hdg hn hkY hinitY
      (X.room_calling (g := g) (R' := (headSpec ws rm).room) hsize hmY hcY hfr (by rw [hlY]; show _ + rm.locals ≤ _; omega) (by show cells + rm.cells ≤ _; rw [hrc]; exact hc) (by show slots + rm.slots ≤ _; rw [hrs]; exact hsl)) h1
  obtain ⟨mid, hmid⟩ := h.above
  have hfr' : (T.setTop g).frames = (.java g :: mid) ++ below := by rw [State.frames_setTop' g h.top, hmid]; rfl
  obtain ⟨o, s₂, hsteps, -, hend, hq⟩ := Steps.callFree hM p X.admits X.cas X.clock (acts := []) hfr' happ (hbl _ _ _ _ hP) trivial
  have hq' : Qc a (T.calling g mk a) o s₂ ∧ _ := hq
  obtain ⟨hq1, L, ⟨hW₂, hsame⟩, hL⟩ := hq'
  rw [State.frames_setTop' g h.top, X.tail] at hend
  cases o with
  | returned v =>
    obtain ⟨T', X', -, -, ht⟩ := X.outOf hg hdg hend hW₂ hsame
    have e1 : T'.heap = s₂.heap := by rw [ht]; rfl
    have e2 : T'.vm = s₂.vm := by rw [ht]; rfl
    refine ⟨.returned v, s₂, T', L, X', hL, e1, e2, hq1, ?_⟩
    rw [ht] at hsteps
    exact hsteps
  | threw x =>
    obtain ⟨T', X', -, -, ht⟩ := X.outOfThrown hg hend hW₂ hsame
    have e1 : T'.heap = s₂.heap := by rw [ht]; rfl
    have e2 : T'.vm = s₂.vm := by rw [ht]; rfl
    refine ⟨.threw x, s₂, T', L, X', hL, e1, e2, hq1, ?_⟩
    rw [ht] at hsteps
    exact hsteps
end MW
end
section
/-! THROWN: OUT OF A METHOD, INTO A HANDLER; CALLS LINKED -/
section MT
variable {p : Program} {l : Launch} {e : Env} {R : Room} {s : State} {m : MethodId} {args : Array Value} {below : List Frame} {meth : Method} {c : Code} {H : Heap} {locs : List Loc} {cells slots : Nat} {Q : State → Prop}
/-- something was thrown at the frame g -/
def WT (p : Program) (l : Launch) (e : Env) (R : Room) (s : State) (m : MethodId) (args : Array Value) (below : List Frame) (meth : Method) (c : Code) (H : Heap) (locs : List Loc) (cells slots : Nat) (Q : State → Prop) (g : JFrame) (x : Addr) : Prop :=
  ∀ T : State, T.heap = H → Stand p l e R s m args below meth c T locs cells slots → ∃ t, Steps p.tables e below ((T.setTop g).pushFrame (.throwing x)) t ∧ Q t
theorem WT.leave {Qc : Array Value → State → Outcome → State → Prop} {free : Addr → Prop} {pc : Nat} {ls : Array Slot} {st : List Value} {x : Addr} (hout : ∀ y ∈ c.exceptionTable.toList, covers y pc = false) (hlocks : meth.locks = false)
    (hq : ∀ t : State, t.heap = H → s.WarmedH t.vm → Qc args s (.threw x) t) (hf : ∀ q ∈ locs, free q.base) : WT p l e R s m args below meth c H locs cells slots (MQX below Qc args s cells slots free) (F0 m pc ls st) x := by
  intro T hT X
  obtain ⟨h1, h2, h3, h4, h5⟩ := X.leaveThrown x (g := F0 m pc ls st) rfl rfl rfl hout hlocks
  exact ⟨_, h1, .threw x, h2, h3, hq _ hT h4, locs, ⟨h4, h5⟩, hf⟩
/-- what the search through handlers gives, and the tables that it leaves -/
def mFind (e : Env) (s : State) (f : JFrame) (a : Addr) (xs : List ExceptionTableEntry) (pc : Nat) (vm' : Vm) : Prop :=
  ∀ (Q : Handler → Pre) (E : CtlPost) (d : Bool) (acts : List Action), wp (findHandler.go f a xs) Q E e d acts s ↔ Q (.found pc) d acts (s.setVm vm')
theorem mFind_hit {s : State} {f : JFrame} {a : Addr} {x : ExceptionTableEntry} {t : List ExceptionTableEntry} {cT : ClassId} {cell : Cell} (hx : covers x f.pc = true) (h0 : x.catchType ≠ 0)
    (hl : s.vm.ClassLinks e.platform f.method.cls x.catchType cT) (hcell : s.heap[a]? = some cell) (hobj : ∀ k, cell.vm ≠ .statics k) (hk : ∃ k, s.vm.classes[cell.cls]? = some k) (hc : ∃ k, s.vm.classes[cT]? = some k) (hfit : s.vm.assignable cell.cls cT = true) :
    mFind e s f a (x :: t) x.handlerPc (s.vm.noted f.method.cls x.catchType (.cls cT)) := by
  intro Q E d acts
  simp only [covers] at hx
  obtain ⟨ha, ht⟩ := (resolveClass_links e.toSetting hl).op (op := VmOp.resolveClass f.method.cls x.catchType) rfl
  have hal : s.vm.Alike (s.vm.noted f.method.cls x.catchType (.cls cT)) := (Vm.Alike.refl s.vm).noted _ _ _
  obtain ⟨k1, hk1⟩ := hk
  obtain ⟨k2, hk2⟩ := hc
  obtain ⟨k1', hk1', -⟩ := hal.2.2 _ _ hk1
  obtain ⟨k2', hk2', -⟩ := hal.2.2 _ _ hk2
  have hfit' : (s.vm.noted f.method.cls x.catchType (.cls cT)).assignable cell.cls cT = true := by rw [hal.assignable]; exact hfit
  simp [findHandler.go, hx, h0, ha, ht, hcell, hobj, hk1', hk2', hfit', VmOp.dirties, VmOp.acts]
theorem mFind_miss {s : State} {f : JFrame} {a : Addr} {x : ExceptionTableEntry} {t : List ExceptionTableEntry} {cT : ClassId} {cell : Cell} {pc : Nat} {vm' : Vm} (hx : covers x f.pc = true) (h0 : x.catchType ≠ 0)
    (hl : s.vm.ClassLinks e.platform f.method.cls x.catchType cT) (hcell : s.heap[a]? = some cell) (hobj : ∀ k, cell.vm ≠ .statics k) (hk : ∃ k, s.vm.classes[cell.cls]? = some k) (hc : ∃ k, s.vm.classes[cT]? = some k) (hfit : s.vm.assignable cell.cls cT = false)
    (h : mFind e (s.setVm (s.vm.noted f.method.cls x.catchType (.cls cT))) f a t pc vm') : mFind e s f a (x :: t) pc vm' := by
  intro Q E d acts
  simp only [covers] at hx
  obtain ⟨ha, ht⟩ := (resolveClass_links e.toSetting hl).op (op := VmOp.resolveClass f.method.cls x.catchType) rfl
  have hal : s.vm.Alike (s.vm.noted f.method.cls x.catchType (.cls cT)) := (Vm.Alike.refl s.vm).noted _ _ _
  obtain ⟨k1, hk1⟩ := hk
  obtain ⟨k2, hk2⟩ := hc
  obtain ⟨k1', hk1', -⟩ := hal.2.2 _ _ hk1
  obtain ⟨k2', hk2', -⟩ := hal.2.2 _ _ hk2
  have hfit' : (s.vm.noted f.method.cls x.catchType (.cls cT)).assignable cell.cls cT = false := by rw [hal.assignable]; exact hfit
  have h9 := h Q E
  rw [← show (s.setVm (s.vm.noted f.method.cls x.catchType (.cls cT))).setVm vm' = s.setVm vm' from rfl]
  simp [findHandler.go, hx, h0, ha, ht, hcell, hobj, hk1', hk2', hfit', VmOp.dirties, VmOp.acts, h9]
theorem mFind_skip {s : State} {f : JFrame} {a : Addr} {x : ExceptionTableEntry} {t : List ExceptionTableEntry} {pc : Nat} {vm' : Vm} (hx : covers x f.pc = false) (h : mFind e s f a t pc vm') : mFind e s f a (x :: t) pc vm' := by
  intro Q E d acts
  rw [W.findHandler_go_skip hx]
  exact h Q E d acts
theorem mThrowing_catch {s : State} {a : Addr} {f : JFrame} {r : List Frame} {pc : Nat} {vm' : Vm} {meth : Method} {c : Code} (hm : s.vm.method? f.method = some meth) (hc : meth.code = some c) (hfind : mFind e s f a c.exceptionTable.toList pc vm') :
    (stepThrowing e s a (.java f :: r)).Is ((s.setVm vm').setFrames (.java { f with pc := pc, stack := [.ref a] } :: r)) [] := by
  have h1 : ∀ (Q : Handler → Pre) (E : CtlPost) (d : Bool) (acts : List Action), wp (findHandler f a) Q E e d acts s ↔ Q (.found pc) d acts (s.setVm vm') := fun Q E d acts => by
    rw [W.findHandler_eq hm hc]
    exact hfind Q E d acts
  simp only [stepThrowing, searchFrame, vmDo]
  generalize hr : Sem.go _ e false [] s = res
  obtain ⟨as, rfl, ha⟩ := Sem.eq_ok_of hr (a := Handler.found pc) (s' := s.setVm vm') (acts' := []) (by simp [h1 _ _ _ _])
  exact ⟨rfl, ha⟩
theorem mCaught0 {tb : Tables} {s target : State} {g : JFrame} {c : Code} {a : Addr} {meth : Method} (h : At s g.method c below) (hm : s.vm.method? g.method = some meth) (hc : meth.code = some c) {pc : Nat} {vm' : Vm}
    (hfind : mFind e ((s.setTop g).pushFrame (.throwing a)) g a c.exceptionTable.toList pc vm') (hrest : Steps tb e below ((s.setVm vm').setTop { g with pc := pc, stack := [.ref a] }) target) :
    Steps tb e below ((s.setTop g).pushFrame (.throwing a)) target := by
  obtain ⟨hgo, hw⟩ := h.throwing a
  refine Steps.head hgo hw ?_
  rw [stepThread_throwing (frames_entered h.top _), (mThrowing_catch (s := (s.setTop g).pushFrame (.throwing a)) (meth := meth) (c := c) (by simpa [State.pushFrame, State.setFrames] using hm) hc hfind).1]
  obtain ⟨g₀, hg⟩ := Option.isSome_iff_exists.mp h.top
  obtain ⟨r, hr⟩ := State.topJava?_eq_some.mp hg
  have hr' : (s.setVm vm').frames = .java g₀ :: r := hr
  rw [State.setTop_of_frames _ hr'] at hrest
  have h2 : ∀ (u : State) (F G : List Frame), ((u.setFrames F).setVm vm').setFrames G = (u.setVm vm').setFrames G := fun u F G => by
    rw [show (u.setFrames F).setVm vm' = (u.setVm vm').setFrames F from rfl, State.setFrames_setFrames]
  rw [hr, List.tail_cons, State.pushFrame, h2, State.setTop_of_frames _ hr, h2]
  exact hrest
set_option maxHeartbeats 2000000 in
/-- the search through a table of handlers -/
theorem mSearch {own : String} {EX : Nat → String} {ct : Nat → Nat} {x hp a : Nat} {f : JFrame} {cell : Cell} (hadm : l.admits e) (hown : s.vm.findClass own = some f.method.cls) (hcls : s.vm.findClass (EX x) = some cell.cls) (hobj : cell.vm.isStatics = false) (hct : ∀ y, ct y ≠ 0) (hself : (Cond.castable (EX x) (EX x)).before args s = true) :
    ∀ (hs : List (Nat × Nat × Nat × Nat)) (xs : List ExceptionTableEntry) (U : State), xs.map (fun h => (h.startPc, h.endPc, h.handlerPc, h.catchType)) = hs.map (fun q => (q.1, q.2.1, q.2.2.1, ct q.2.2.2)) → (∀ q ∈ hs, (Cond.classLink own (ct q.2.2.2) (EX q.2.2.2)).before args s = true) → (∀ q ∈ hs, q.2.2.2 ≠ x → va_Nc (EX x) (EX q.2.2.2) s) →
      s.WarmedH U.vm → U.heap[a]? = some cell → mHd hs f.pc x = some hp → ∃ vm', s.WarmedH vm' ∧ mFind e U f a xs hp vm'
  | [], xs, U, hxs, _, _, _, _, hh => by cases hh
  | q :: hs, [], U, hxs, _, _, _, _, hh => by cases hxs
  | q :: hs, y :: xs, U, hxs, hlk, hnc, hW, hcell, hh => by
    have hpl : e.platform.magicAccessors = ({} : Platform).magicAccessors := by rw [hadm.platform]
    have hq : (y.startPc, y.endPc, y.handlerPc, y.catchType) = (q.1, q.2.1, q.2.2.1, ct q.2.2.2) := by simpa using (List.cons.inj hxs).1
    have hxs' := (List.cons.inj hxs).2
    obtain ⟨e1, hq2⟩ := Prod.mk.inj hq
    obtain ⟨e2, hq3⟩ := Prod.mk.inj hq2
    obtain ⟨e3, e4⟩ := Prod.mk.inj hq3
    by_cases hcov : q.1 ≤ f.pc ∧ f.pc < q.2.1
    · have hx : covers y f.pc = true := by
        simp only [covers]
        rw [e1, e2]
        simp [hcov.1, hcov.2]
      have h0 : y.catchType ≠ 0 := by rw [e4]; exact hct _
      obtain ⟨cT, hcT, hcl⟩ := Cond.classLink_spec hown (hlk q List.mem_cons_self) e.platform hpl
      rw [← e4] at hcl
      obtain ⟨dk, _, _, kt, hd, _, _, _, _, hkt, _, hopen⟩ := hcl.here
      have hclU := hW.classLinks hcl
      have hW' : s.WarmedH (U.vm.noted f.method.cls y.catchType (.cls cT)) := hW.noted hd hopen (State.rightAt_cls hcl)
      have hal := hW.alike
      obtain ⟨kt', hkt', -⟩ := hal.2.2 _ _ hkt
      obtain ⟨cs, cs', hcs, hcs', hasg⟩ := Cond.castable_spec hself
      cases hcls.symm.trans hcs
      cases hcls.symm.trans hcs'
      have hkc : ∃ k, U.vm.classes[cell.cls]? = some k := by
        obtain ⟨k, hk⟩ := Vm.classAt_of_findClass hcls
        obtain ⟨k', hk', -⟩ := hal.2.2 _ _ hk
        exact ⟨k', hk'⟩
      by_cases hqx : q.2.2.2 = x
      · have hhp : hp = q.2.2.1 := by
          unfold mHd at hh
          rw [if_pos ⟨hcov.1, hcov.2, hqx⟩] at hh
          exact (Option.some.inj hh).symm
        rw [hqx] at hcT
        cases hcls.symm.trans hcT
        refine ⟨_, hW', ?_⟩
        rw [hhp, ← e3]
        exact mFind_hit hx h0 hclU hcell (VmData.ne_statics_of hobj) hkc ⟨kt', hkt'⟩ (by rw [hal.assignable]; exact hasg)
      · obtain ⟨c1, c2, g1, g2, g3⟩ := hnc q List.mem_cons_self hqx
        cases hcls.symm.trans g1
        cases hcT.symm.trans g2
        have hh' : mHd hs f.pc x = some hp := by
          unfold mHd at hh
          rw [if_neg (fun z => hqx z.2.2)] at hh
          exact hh
        obtain ⟨vm', w1, w2⟩ := mSearch hadm hown hcls hobj hct hself hs xs (U.setVm (U.vm.noted f.method.cls y.catchType (.cls cT))) hxs' (fun z hz => hlk z (List.mem_cons_of_mem _ hz)) (fun z hz => hnc z (List.mem_cons_of_mem _ hz)) hW' hcell hh'
        exact ⟨vm', w1, mFind_miss hx h0 hclU hcell (VmData.ne_statics_of hobj) hkc ⟨kt', hkt'⟩ (by rw [hal.assignable]; exact g3) w2⟩
    · have hx : covers y f.pc = false := by
        simp only [covers]
        rw [e1, e2]
        simp only [Bool.and_eq_false_iff, decide_eq_false_iff_not]
        by_cases h1 : q.1 ≤ f.pc
        · exact Or.inr (fun h2 => hcov ⟨h1, h2⟩)
        · exact Or.inl h1
      have hh' : mHd hs f.pc x = some hp := by
        unfold mHd at hh
        rw [if_neg (fun z => hcov ⟨z.1, z.2.1⟩)] at hh
        exact hh
      obtain ⟨vm', w1, w2⟩ := mSearch hadm hown hcls hobj hct hself hs xs U hxs' (fun z hz => hlk z (List.mem_cons_of_mem _ hz)) (fun z hz => hnc z (List.mem_cons_of_mem _ hz)) hW hcell hh'
      exact ⟨vm', w1, mFind_skip hx w2⟩
/-- into a handler -/
theorem WT.catch {own : String} {EX : Nat → String} {ct : Nat → Nat} {x hp a : Nat} {pc : Nat} {ls : Array Slot} {st : List Value} {cell : Cell} (hown : s.vm.findClass own = some m.cls) (hcell : H[a]? = some cell) (hcls : s.vm.findClass (EX x) = some cell.cls) (hobj : cell.vm.isStatics = false) (hct : ∀ y, ct y ≠ 0) (hself : (Cond.castable (EX x) (EX x)).before args s = true)
    {hs : List (Nat × Nat × Nat × Nat)} (hxs : c.exceptionTable.toList.map (fun h => (h.startPc, h.endPc, h.handlerPc, h.catchType)) = hs.map (fun q => (q.1, q.2.1, q.2.2.1, ct q.2.2.2))) (hlk : ∀ q ∈ hs, (Cond.classLink own (ct q.2.2.2) (EX q.2.2.2)).before args s = true) (hnc : ∀ q ∈ hs, q.2.2.2 ≠ x → va_Nc (EX x) (EX q.2.2.2) s) (hh : mHd hs pc x = some hp)
    (k : W p l e R s m args below meth c H locs cells slots Q (F0 m hp ls [.ref a])) : WT p l e R s m args below meth c H locs cells slots Q (F0 m pc ls st) a := by
  intro T hT X
  obtain ⟨vm', w1, w2⟩ := mSearch (l := l) (f := F0 m pc ls st) X.admits hown hcls hobj hct hself hs c.exceptionTable.toList ((T.setTop (F0 m pc ls st)).pushFrame (.throwing a)) hxs hlk hnc (by rw [Stand.throwing_vm]; exact X.warmed) (by rw [Stand.throwing_heap, hT]; exact hcell) hh
  obtain ⟨t, a1, b1⟩ := k (T.setVm vm') hT (X.noted w1)
  exact ⟨t, mCaught0 X.here X.method' X.code w2 a1, b1⟩
end MT
end
section
/-! CALLS, LINKED -/
section ML
variable {p : Program} {l : Launch} {e : Env} {R : Room} {s : State} {m : MethodId} {args : Array Value} {below : List Frame} {meth : Method} {c : Code} {H : Heap} {locs : List Loc} {cells slots : Nat} {Q : State → Prop} {T : State}
/-- the instruction at hand calls y with the values as: what is left is to run it -/
def mLkd (p : Program) (l : Launch) (e : Env) (R : Room) (s : State) (m : MethodId) (args : Array Value) (below : List Frame) (meth : Method) (c : Code) (T : State) (locs : List Loc) (cells slots : Nat) (g : JFrame) (rest : List Value) (y : MethodName) (as : Array Value) : Prop :=
  ∃ (mk : MethodId) (vm₁ : Vm), s.methodNamed? y = some mk ∧ Stand p l e R s m args below meth c (T.setVm vm₁) locs cells slots ∧ ∀ target, (∀ acts, Steps p.tables e below (doInvoke e ((T.setVm vm₁).setTop { g with stack := rest }) acts mk as).1 target) → Steps p.tables e below (T.setTop g) target
theorem mLkV (X : Stand p l e R s m args below meth c T locs cells slots) (hexec : p.tables.exec = Jvm.exec) {own C : String} {index : Nat} {y : MethodName} {bytes : ByteArray} {maxL : Nat} {ret : Option FieldType} {hs : List (Nat × Nat × Nat × Nat)}
    (hown : s.vm.findClass own = some m.cls) (hlink : (Cond.methodLink own index y).before args s = true ∨ ∃ host, (Cond.methodLinkNest own index y host).before args s = true) (hinst : (Cond.instanceMethod y).before args s = true) (hsel : (Cond.selects C y y).before args s = true)
    (hcode : (mCW y bytes maxL ret hs).before args s = true) (hy : y.cls ≠ "java/lang/invoke/MethodHandle" ∧ y.cls ≠ "java/lang/invoke/VarHandle")
    {b : Addr} {cellB : Cell} (hcell : T.heap[b]? = some cellB) (hobj : cellB.vm.isStatics = false) (hcls : s.vm.findClass C = some cellB.cls)
    {g : JFrame} (hg : g.method = m) {argsL rest : List Value} (hlen : (parseMethodDescriptor y.desc).map (fun d => d.parameters.length) = some argsL.length)
    (hstack : g.stack = argsL.reverse ++ .ref b :: rest) (hdg : decode c.code g.pc = .ok (.invokevirtual index, 3)) : mLkd p l e R s m args below meth c T locs cells slots g rest y (Value.ref b :: argsL).toArray := by
  obtain ⟨mk, methM, hnamed, hmethM, hstM, habM⟩ := Cond.instanceMethod_spec hinst
  obtain ⟨mk', methM', cM, hn', hmethM', -, -, -, -, -, -, hsigM⟩ := mCW_spec hcode
  cases hnamed.symm.trans hn'
  cases hmethM.symm.trans hmethM'
  obtain ⟨c2, r2, m2, q1, q2, q3, q4, kP, hkP, hkPi⟩ := Cond.selects_spec hsel
  cases hcls.symm.trans q1
  cases (State.methodFound?_of_named hnamed hy).symm.trans q2
  cases hnamed.symm.trans q3
  have hselP : selectMethod e.platform s.vm cellB.cls mk = .method mk := by rw [Launch.admits_selectMethod X.admits]; exact q4
  have hl2 : argsL.length = methM.sig.parameters.length := by
    rw [hsigM] at hlen
    exact (Option.some.inj hlen).symm
  rcases hlink with hlink | ⟨host, hlink⟩
  · obtain ⟨vm₁, X₁, hstep₁⟩ := X.invokevirtual hexec hown hlink hnamed hmethM hstM hkP hkPi hy (a := b) (cell := cellB) hcell
      (fun z h => by rw [h] at hobj; cases hobj) hselP hmethM habM hkP hkPi (g := g) hg (argsL := argsL) (rest := rest) hl2 hstack hdg
    exact ⟨mk, vm₁, hnamed, X₁, hstep₁⟩
  · obtain ⟨vm₁, X₁, hstep₁⟩ := X.invokevirtualNest hexec hown hlink hnamed hmethM hstM hkP hkPi hy (a := b) (cell := cellB) hcell
      (fun z h => by rw [h] at hobj; cases hobj) hselP hmethM habM hkP hkPi (g := g) hg (argsL := argsL) (rest := rest) hl2 hstack hdg
    exact ⟨mk, vm₁, hnamed, X₁, hstep₁⟩
theorem mLkS (X : Stand p l e R s m args below meth c T locs cells slots) (hexec : p.tables.exec = Jvm.exec) {own : String} {index : Nat} {y : MethodName} {bytes : ByteArray} {maxL : Nat} {ret : Option FieldType} {hs : List (Nat × Nat × Nat × Nat)}
    (hown : s.vm.findClass own = some m.cls) (hlink : (Cond.methodLink own index y).before args s = true ∨ ∃ host, (Cond.methodLinkNest own index y host).before args s = true) (hstat : (Cond.static y).before args s = true) (hinit : (Cond.initialized y.cls).before args s = true)
    (hcode : (mCW y bytes maxL ret hs).before args s = true) (hy : y.cls ≠ "java/lang/invoke/MethodHandle" ∧ y.cls ≠ "java/lang/invoke/VarHandle")
    {g : JFrame} (hg : g.method = m) {argsL rest : List Value} (hlen : (parseMethodDescriptor y.desc).map (fun d => d.parameters.length) = some argsL.length)
    (hstack : g.stack = argsL.reverse ++ rest) (hdg : decode c.code g.pc = .ok (.invokestatic index, 3)) : mLkd p l e R s m args below meth c T locs cells slots g rest y argsL.toArray := by
  obtain ⟨mk, methM, cM, hnamed, hmethM, -, -, -, -, -, -, hsigM⟩ := mCW_spec hcode
  have hstatic : methM.isStatic = true := Cond.static_spec hnamed hmethM hstat
  obtain ⟨kP, hkP, -⟩ := className_of_methodNamed hnamed
  have hinitP : kP.init = .initialized := Cond.initialized_spec (findClass_of_methodNamed hnamed) hkP hinit
  have hl2 : argsL.length = methM.sig.parameters.length := by
    rw [hsigM] at hlen
    exact (Option.some.inj hlen).symm
  rcases hlink with hlink | ⟨host, hlink⟩
  · obtain ⟨vm₁, X₁, hstep₁⟩ := X.invokestatic hexec hown hlink hnamed hmethM hstatic hkP hinitP hy (g := g) hg (argsL := argsL) (rest := rest) hl2 hstack hdg
    exact ⟨mk, vm₁, hnamed, X₁, hstep₁⟩
  · obtain ⟨vm₁, X₁, hstep₁⟩ := X.invokestaticNest hexec hown hlink hnamed hmethM hstatic hkP hinitP hy (g := g) hg (argsL := argsL) (rest := rest) hl2 hstack hdg
    exact ⟨mk, vm₁, hnamed, X₁, hstep₁⟩
theorem mLkI (X : Stand p l e R s m args below meth c T locs cells slots) (hexec : p.tables.exec = Jvm.exec) {own : String} {index : Nat} {y : MethodName} {bytes : ByteArray} {maxL : Nat}
    (hown : s.vm.findClass own = some m.cls) (hy1 : y.name = "<init>") (hlink : (Cond.methodLink own index y).before args s = true) (hinst : (Cond.instanceMethod y).before args s = true)
    (hcode : (Cond.code y bytes maxL none).before args s = true) (hy : y.cls ≠ "java/lang/invoke/MethodHandle" ∧ y.cls ≠ "java/lang/invoke/VarHandle")
    {b : Addr} {g : JFrame} (hg : g.method = m) {argsL rest : List Value} (hlen : (parseMethodDescriptor y.desc).map (fun d => d.parameters.length) = some argsL.length)
    (hstack : g.stack = argsL.reverse ++ .ref b :: rest) (hdg : decode c.code g.pc = .ok (.invokespecial index, 3)) : mLkd p l e R s m args below meth c T locs cells slots g rest y (Value.ref b :: argsL).toArray := by
  subst hg
  have hpl : e.platform.magicAccessors = ({} : Platform).magicAccessors := by rw [X.admits.platform]
  obtain ⟨mk, methM, cM, kP, vm₁, hnamed, hmethM, hcodeM, -, hlocalsM, -, hkP, -, hW₁, hstep₁⟩ := Steps.initColdArgs (e := e) X.here hexec X.warmed hpl hown hy1 hy hlink hinst hcode (f := g) rfl (fun sig h => by rw [h] at hlen; exact (Option.some.inj hlen).symm) hstack hdg
  exact ⟨mk, vm₁, hnamed, X.noted hW₁, hstep₁⟩
set_option maxHeartbeats 4000000 in
/-- a call: it returns, or it throws -/
theorem mCallW {y : MethodName} {ws : List Cond} {rm : Room} {Pc : Array Value → State → Prop} {Qc : Array Value → State → Outcome → State → Prop} {mc ms : Nat} {free : Addr → Prop} {bytes : ByteArray} {maxL : Nat} {ret : Option FieldType} {hs : List (Nat × Nat × Nat × Nat)} {pc nL : Nat} {ls : Array Slot} {st rest : List Value} {as : Array Value} {cc : ByteArray} {ig : Instr}
    (hM : MetX l y ws rm Pc Qc mc ms free) (hbl : FrameBlind Pc) (hrc : rm.cells = mc) (hrs : rm.slots = ms) (hfr : rm.frames + 1 ≤ R.frames) (hlo : 8 + (maxL + 11) + rm.locals ≤ R.locals)
    (hws : ∀ w ∈ ws, ∀ (a' : Array Value) (U : State), s.WarmedH U.vm → w.before a' U = true) (hcw : mCW y bytes maxL ret hs ∈ ws) (hini : Cond.initialized y.cls ∈ ws)
    (hb : c.code = cc) (hml : c.maxLocals = nL) (hsize : ls.size = nL) (hdg : decode cc pc = .ok (ig, 3)) (hW : (rest.map fun v => v.category).sum ≤ 8) (hc : cells + mc ≤ R.cells) (hsl : slots + ms ≤ R.slots) (hP : ∀ U : State, U.heap = H → s.WarmedH U.vm → Pc as U)
    (hlk : ∀ T : State, T.heap = H → Stand p l e R s m args below meth c T locs cells slots → mLkd p l e R s m args below meth c T locs cells slots (F0 m pc ls st) rest y as)
    (kr : ∀ (v : Option Value) (st0 t : State) (L : List Loc), st0.heap = H → s.WarmedH t.vm → (∀ q ∈ L, free q.base) → Qc as st0 (.returned v) t → W p l e R s m args below meth c t.heap (locs ++ L) (cells + mc) (slots + ms) Q (F0 m (pc + 3) ls (v.toList ++ rest)))
    (kt : ∀ (x : Addr) (st0 t : State) (L : List Loc), st0.heap = H → s.WarmedH t.vm → (∀ q ∈ L, free q.base) → Qc as st0 (.threw x) t → WT p l e R s m args below meth c t.heap (locs ++ L) (cells + mc) (slots + ms) Q (F0 m pc ls rest) x) :
    W p l e R s m args below meth c H locs cells slots Q (F0 m pc ls st) := by
  intro T hT X
  obtain ⟨mk, vm₁, hn, X₁, hst⟩ := hlk T hT X
  have hroom : 2 * (F0 m pc ls rest).monitorRoom + ((F0 m pc ls rest).stack.map fun v => v.category).sum ≤ 8 := lv_room (m := m) (pc := pc) (ls := ls) (rest := rest) (st := rest) hW
  obtain ⟨o, t, T', L, X', hL, e1, e2, hq, hsteps⟩ := mCall X₁ hM hbl hrc hrs hfr hlo hws hcw (fun a' U hU => hws _ hini a' U hU) (g := F0 m pc ls rest) rfl (by rw [hml]; exact hsize) (by rw [hb]; exact hdg) hroom (X₁.named hn) hc hsl (hP _ hT X₁.warmed)
  have hWt : s.WarmedH t.vm := by rw [← e2]; exact X'.warmed
  cases o with
  | returned v =>
    obtain ⟨t2, a1, b1⟩ := kr v _ t L (show ((T.setVm vm₁).calling (F0 m pc ls rest) mk as).heap = H from hT) hWt hL hq T' e1 X'
    refine ⟨t2, hst _ (fun acts => ?_), b1⟩
    rw [doInvoke_state]
    exact hsteps.trans a1
  | threw x =>
    obtain ⟨t2, a1, b1⟩ := kt x _ t L (show ((T.setVm vm₁).calling (F0 m pc ls rest) mk as).heap = H from hT) hWt hL hq T' e1 X'
    refine ⟨t2, hst _ (fun acts => ?_), b1⟩
    rw [doInvoke_state]
    exact hsteps.trans a1
end ML
end
section
/-! AN EXCEPTION THROWN WHERE IT IS MADE, ITS CONSTRUCTOR'S LINK OF ANY NUMBER, NO TRACES KEPT -/
section MCX
variable {p : Program} {l : Launch} {e : Env} {R : Room} {s : State} {m : MethodId} {args : Array Value} {below : List Frame} {meth : Method} {c : Code} {V : State} {cells slots : Nat}
set_option maxHeartbeats 4000000 in
theorem mCtorX (X : Stand p l e R s m args below meth c V [] cells slots) (hx : p.tables.exec = Jvm.exec) (htr : e.platform.stackTraces = false) {own cls : String} {names : List String} {ic ix : Nat} {rx : ByteArray}
    (x0 : decode rx 0 = .ok (.aload_n 0, 1)) (x1 : decode rx 1 = .ok (.aload_n 1, 1)) (x2 : decode rx 2 = .ok (.invokespecial ix, 3)) (x5 : decode rx 5 = .ok (.return_, 1))
    (hown : s.vm.findClass own = some m.cls) (hcls : Bundle.fit cls = true) (hnames : ∀ n ∈ names, Bundle.fit n = true) (h : ∀ a ∈ Bundle.ownAtomsX own ic cls ix rx names, a.before args s = true)
    {a : Addr} {cX : ClassId} {kX : Class} (hfX : s.vm.findClass cls = some cX) (hkX : s.vm.classes[cX]? = some kX) (hcell : V.heap[a]? = some (freshCell cX kX)) (hnew : s.heap.size ≤ a) {msg : Value} (hmsg : msg.isRef = true)
    {g : JFrame} (hg : g.method = m) (hsize : g.locals.size = c.maxLocals) (hlocked : g.locked = none) (hentered : g.entered = []) {rest : List Value} (hstack : g.stack = msg :: .ref a :: .ref a :: rest)
    (hd6 : decode c.code g.pc = .ok (.invokespecial ic, 3)) (hd9 : decode c.code (g.pc + 3) = .ok (.athrow, 1)) (hout : ∀ x ∈ c.exceptionTable.toList, covers x (g.pc + 3) = false)
    (hRf : names.length + 3 < R.frames) (hRl : 2 * g.monitorRoom + ((Value.ref a :: rest).map fun v => v.category).sum + (13 * (names.length + 1) + 42) ≤ R.locals) (hlocks : meth.locks = false) :
    ∃ U : State, Steps p.tables e below (V.setTop g) U ∧ U.status = .running ∧ Ended U below (.threw a) ∧ s.WarmedH U.vm ∧ s.sameButNew ({ U with vm := s.vm } : State) [] cells slots ∧ ∃ ce : Cell, U.heap[a]? = some ce ∧ ce.cls = cX ∧ ce.vm = .none := by
  have q1 : e.platform.frameOwnsMonitors = true := by rw [X.admits.platform]
  have q2 : e.platform.finalization = false := by rw [X.admits.platform]
  have hpl : e.platform.magicAccessors = ({} : Platform).magicAccessors := by rw [X.admits.platform]
  obtain ⟨T, Z0, L, -, Y⟩ := ThrowableC.of_atoms (args := args) q1 q2 hpl (fun x hx => h x (by simp [Bundle.ownAtomsX, hx]))
  obtain ⟨Z, M, LZ, LM, hnZ⟩ := Init0T.ofS_atoms (args := args) hpl L Y (fun x hx => h x (by simp [Bundle.ownAtomsX, hx]))
  obtain ⟨P1, Ps, hlen, L1, hL, hP1m, hlink1, hlink⟩ := Bundle.chainSX (args := args) hpl hnZ x0 x1 x2 x5 names cls hcls hnames (fun x hx => h x (by simp [Bundle.ownAtomsX, hx]))
  have hf : s.vm.findClass cls = some P1.m.cls := findClass_of_methodNamed hP1m
  cases hfX.symm.trans hf
  obtain ⟨c1, k1, hc1, hk1, hord, -, -, hn6⟩ := Cond.instantiable_spec (h (.instantiable cls 6) (by simp [Bundle.ownAtomsX]))
  cases hc1.symm.trans hf
  cases hkX.symm.trans hk1
  have hsel : ∀ (y : MethodName) (f : MethodId), s.methodNamed? y = some f → (y.cls ≠ "java/lang/invoke/MethodHandle" ∧ y.cls ≠ "java/lang/invoke/VarHandle") → (Cond.selects cls y y).before args s = true → selectMethod e.platform s.vm P1.m.cls f = .method f := fun y f hy hn hw => by
    obtain ⟨c2, r2, m2, w1, w2, w3, w4, -⟩ := Cond.selects_spec hw
    cases w1.symm.trans hf
    cases w2.symm.trans (State.methodFound?_of_named hy hn)
    cases w3.symm.trans hy
    rw [Launch.admits_selectMethod X.admits]
    exact w4
  have hsel0 := hsel _ _ Y.fill0 (by decide) (h (.selects cls Bundle.tFill0 Bundle.tFill0) (by simp [Bundle.ownAtomsX]))
  have hselF := hsel _ _ Y.fill (by decide) (h (.selects cls Bundle.tFill Bundle.tFill) (by simp [Bundle.ownAtomsX]))
  obtain ⟨cS, hcS, hiss⟩ := Y.statics
  obtain ⟨u0, hu0⟩ := Cond.staticRefV Y.unassigned L.unassignedStatic L.statics hcS hiss (h (.isRef (.static Bundle.tN "UNASSIGNED_STACK" Bundle.steD)) (by simp [Bundle.ownAtomsX]))
  obtain ⟨sen, hsen⟩ := Cond.staticRefV Y.sentinel L.sentinelStatic L.statics hcS hiss (h (.isRef (.static Bundle.tN "SUPPRESSED_SENTINEL" Bundle.listD)) (by simp [Bundle.ownAtomsX]))
  obtain ⟨ci, ib, fB, b1, b2, b3, b4, -, hnB, htB, hffB⟩ := Cond.ownField (t := .object "java/lang/Object") Y.found L.cls (by decide +kernel) (h (.fieldLink Bundle.tN 198 Bundle.tN "backtrace" "Ljava/lang/Object;") (by simp [Bundle.ownAtomsX])) (h (.lays Bundle.tN Bundle.tN "backtrace" "Ljava/lang/Object;") (by simp [Bundle.ownAtomsX])) e.platform hpl
  obtain ⟨cS', hcS', heS, -, hkeep⟩ := X.same.2.2.2.2.2 T.aS cS hcS
  have hkn : cS'.vm ≠ .unknown := by
    rw [heS]
    intro hu
    rw [show cS.vm = .unknown from hu] at hiss
    cases hiss
  have hne : T.aS ≠ a := Nat.ne_of_lt (Nat.lt_of_lt_of_le (Array.getElem?_eq_some_iff.mp hcS).1 hnew)
  have hno : ∀ i, (⟨T.aS, i⟩ : Loc) ∉ ([] : List Loc) := fun _ => List.not_mem_nil
  obtain ⟨iM, hffM⟩ := Y.msg
  obtain ⟨tyC, dC, hdC, hdnC⟩ := Cond.laysAt hf hk1 Y.cause (h (.lays cls Bundle.tN "cause" "Ljava/lang/Throwable;") (by simp [Bundle.ownAtomsX]))
  obtain ⟨tyS, dS, hdS, hdnS⟩ := Cond.laysAt hf hk1 Y.stack (h (.lays cls Bundle.tN "stackTrace" Bundle.steD) (by simp [Bundle.ownAtomsX]))
  obtain ⟨tyP, dP, hdP, hdnP⟩ := Cond.laysAt hf hk1 Y.supp (h (.lays cls Bundle.tN "suppressedExceptions" Bundle.listD) (by simp [Bundle.ownAtomsX]))
  obtain ⟨tyM, dM, hdM, hdnM⟩ := Cond.laysAt hf hk1 hffM (h (.lays cls Bundle.tN "detailMessage" "Ljava/lang/String;") (by simp [Bundle.ownAtomsX]))
  obtain ⟨tyB, dB, hdB, hdnB⟩ := Cond.laysAt hf hk1 hffB (h (.lays cls Bundle.tN "backtrace" "Ljava/lang/Object;") (by simp [Bundle.ownAtomsX]))
  have bC := Cond.laysApart hdB hdC hdnB hdnC (by rw [hnB, Y.causeName]; decide)
  have bS := Cond.laysApart hdB hdS hdnB hdnS (by rw [hnB, Y.stackName]; decide)
  have bP := Cond.laysApart hdB hdP hdnB hdnP (by rw [hnB, Y.suppName]; decide)
  have hskip : SkipFacts T e.platform s (fun u => u) u0 ((preparedCellV T.toThrowableT (freshCell P1.m.cls kX) a u0 sen).withEntry V.cur) :=
    ⟨{ ci198 := ci, i198 := ib, fBack := fB }, ⟨b1, b2, b3, b4⟩, by
      have := fresh_default (c := P1.m.cls) tyB
      rw [htB] at this
      simpa [preparedCellV, Cell.setSlot, Cell.withEntry, Array.getElem?_setIfInBounds, bC, bS, bP, bC.symm, bS.symm, bP.symm, defaultValue] using this, fun _ _ => rfl⟩
  obtain ⟨tm, mC, dC', kC, vm1, hnC, -, -, -, -, -, -, -, hW1, st1⟩ := Steps.initColdS (tb := p.tables) (e := e) (below := below) (s := s) (U := V) X.here hx X.warmed hpl hown (t := Bundle.initS cls) rfl rfl (Bundle.fit_spec hcls).2
    (h (.methodLink own ic (Bundle.initS cls)) (by simp [Bundle.ownAtomsX])) (h (.instanceMethod (Bundle.initS cls)) (by cases names <;> simp [Bundle.ownAtomsX, Bundle.chainSAtomsX, Bundle.passSAtoms])) (bytes := rx) (maxL := 2) (h (.code (Bundle.initS cls) rx 2 none) (by cases names <;> simp [Bundle.ownAtomsX, Bundle.chainSAtomsX, Bundle.passSAtoms]))
    (f := g) hg (a := a) (msg := msg) (rest := .ref a :: rest) hstack hd6
  cases hnC.symm.trans hP1m
  obtain ⟨vm2, X2, st2⟩ := (X.noted hW1).ctorMessageOffV hx (g := { g with stack := .ref a :: rest }) hg hsize T L Z LZ M LM (P1 :: Ps)
    (fun P hP => by rcases List.mem_cons.mp hP with rfl | hP; exact L1; exact hL P hP) ⟨hlink1, hlink⟩ (u0 := u0) (sen := sen) (self := a) hmsg (cell := freshCell P1.m.cls kX) (cellS := cS')
    hcell (fun _ => by simp) (by simp) rfl rfl hsel0 hselF hcS' hne hkn (by rw [hkeep _ (hno _)]; exact hu0) (by rw [hkeep _ (hno _)]; exact hsen)
    (Takes.of_laid hk1 hord tyC (by rw [Y.causeType]; rfl)) (Takes.of_laid hk1 hord tyS (by rw [Y.stackType]; exact fits_refV_array _ u0)) (Takes.of_laid hk1 hord tyP (by rw [Y.suppType]; exact fits_refV_object _ sen))
    (Takes.of_laid hk1 hord tyM (by rw [Y.msgType]; exact fits_refV_object _ ⟨msg, hmsg⟩)) Y.objLocals hskip htr [] hd6
    (by simp only [List.length_cons, hlen]; omega) (by simp only [List.length_cons, hlen]; exact hRl)
  obtain ⟨hwalk, hrun, hended, hWU, hsame⟩ := X2.athrowLeaves hx (g := { g with stack := .ref a :: rest, pc := g.pc + 3 }) hg hlocked hentered hout (a := a) (rest := rest) rfl hd9
  have hlt : a < ((V.setVm vm1).setVm vm2).heap.size := (Array.getElem?_eq_some_iff.mp hcell).1
  have hU := heapAt_setCell_self (s := (V.setVm vm1).setVm vm2) (plainBareV T.toThrowableT (freshCell P1.m.cls kX) a u0 sen msg) hlt
  refine ⟨_, st1 _ (fun acts => by rw [doInvoke_state]; exact st2 _ hwalk), hrun, hended, hWU, hsame.weaken (fun y hy hlt' => ?_) (Nat.le_refl _) (Nat.le_refl _), _, hU, rfl, rfl⟩
  rcases List.mem_append.mp hy with h1 | h1
  · exact h1
  · exfalso
    have hb : y.base = a := by
      simp only [List.mem_cons, List.not_mem_nil, or_false] at h1
      rcases h1 with rfl | rfl | rfl | rfl | rfl <;> rfl
    rw [hb] at hlt'
    exact Nat.not_lt.mpr hnew hlt'
end MCX
end
section
/-! THROW NEW .. -/
theorem mNT {l : Launch} {e : Env} (h : l.admits e) (hl : l.stackTraces = false) : e.platform.stackTraces = false := by rw [h.platform]; exact hl
/-- a static that holds a reference or null -/
theorem mIsRef {C n d : String} {v : Value} {A : Nat → Prop} {U : State} {args : Array Value} (h : va_Z C n d v A U U.heap) (hv : v = .null ∨ ∃ t, v = .ref t) : (Cond.isRef (.static C n d)).before args U = true := by
  obtain ⟨cf, kf, fi, f, a, cell, h1, h2, h3, h4, h5, h6, h7, h8⟩ := h
  rcases hv with rfl | ⟨t, rfl⟩ <;> simp [Cond.before, Cond.holds, Cond.value, Term.eval, State.fieldNamed?, h1, h2, h3, h4, h5, h6, h7]
section MRB
variable {p : Program} {l : Launch} {e : Env} {R R' : Room} {s : State} {m : MethodId} {args : Array Value} {below : List Frame} {meth : Method} {c : Code} {T : State} {locs : List Loc} {cells slots : Nat}
/-- the state at hand, as if the method had begun in it -/
abbrev mNow (T : State) (m : MethodId) (args : Array Value) (below : List Frame) : State := T.setFrames (.invoking m args :: below)
theorem mNow_heap {T : State} {m : MethodId} {args : Array Value} {below : List Frame} : (mNow T m args below).heap = T.heap := rfl
set_option maxHeartbeats 1000000 in
theorem mRebase (X : Stand p l e R s m args below meth c T locs cells slots) (hf : R'.frames ≤ R.frames) (hl : R'.locals ≤ R.locals) (hc : cells + R'.cells ≤ R.cells) (hs : slots + R'.slots ≤ R.slots) : Stand p l e R' (mNow T m args below) m args below meth c T [] 0 0 := by
  obtain ⟨g₀, hr⟩ := X.frames_eq
  obtain ⟨th, hth, -⟩ := State.frames_cons hr
  have hcur : T.cur < T.threads.size := (Array.getElem?_eq_some_iff.mp hth).1
  have hF : (mNow T m args below).frames = .invoking m args :: below := State.frames_setFrames _ hcur
  obtain ⟨th', hth', -⟩ := State.frames_cons hF
  have hcur' : (mNow T m args below).cur < (mNow T m args below).threads.size := State.cur_lt_of_frames hF
  have hm' : (mNow T m args below).vm.method? m = some meth := X.method'
  have hlim : e.platform.stackLimits (mNow T m args below).me = e.platform.stackLimits s.me := (State.stackLimits_setFrames ..).trans X.limits
  have hbytes : (mNow T m args below).me.stackBytes = s.me.stackBytes := (State.stackBytes_setFrames ..).trans X.bytes
  have hroom : (mNow T m args below).hasRoom e.platform R' = true := by
    have hr := X.room
    simp only [State.hasRoom, Bool.and_eq_true, decide_eq_true_eq] at hr ⊢
    rw [State.localsInUse_invoking X.frames X.method X.code, X.frames] at hr
    rw [State.localsInUse_invoking hF hm' X.code, hF, hlim, hbytes]
    have h1 := X.heapSize
    have h2 := X.used
    have h3 : (mNow T m args below).heap.size = T.heap.size := rfl
    have h4 : (mNow T m args below).slotsUsed = T.slotsUsed := rfl
    have h5 : (mNow T m args below).slotsTrue = true := X.book
    rw [h3, h4]
    refine ⟨⟨⟨⟨?_, ?_, ?_, ?_, ?_, ?_⟩, ?_⟩, ?_⟩, h5⟩
    · have := hr.1.1.1.1; omega
    · have := hr.1.1.1.2.1; omega
    · have := hr.1.1.1.2.2.1; omega
    · have := hr.1.1.1.2.2.2.1; omega
    · have := hr.1.1.1.2.2.2.2.1; omega
    · exact hr.1.1.1.2.2.2.2.2
    · have := hr.1.1.2; omega
    · have := hr.1.2; omega
  have hhears : (mNow T m args below).hears m below = true := by
    have h := X.hears
    have hmm : ∀ q, (mNow T m args below).vm.method? q = s.vm.method? q := fun q => X.warmed.alike.method? q
    unfold State.hears at h ⊢
    split at h
    · rw [State.code?_eq] at h ⊢
      rw [hmm]
      exact h
    · rfl
    · rfl
    · rw [hmm]; exact h
  refine ⟨X.admits, X.cas, X.clock, hF, hroom, hhears, hm', X.code, X.here, X.tail, State.WarmedH.refl _, ?_, ?_, ?_⟩
  · rw [State.stackLimits_setFrames]
  · rw [State.stackBytes_setFrames]
  · have h := (State.sameButNew.refl (mNow T m args below) hth').setFrames T.frames hcur'
    have e1 : (mNow T m args below).setFrames T.frames = T := by
      show (T.setFrames _).setFrames T.frames = T
      rw [State.setFrames_setFrames, State.setFrames_self hth]
    rw [e1] at h
    exact h
end MRB
section MTN
variable {p : Program} {l : Launch} {e : Env} {R : Room} {s : State} {m : MethodId} {args : Array Value} {below : List Frame} {meth : Method} {c : Code} {H : Heap} {locs : List Loc} {cells slots : Nat} {Q : State → Prop}
variable {cc : ByteArray} {pc : Nat} {ls : Array Slot} {rest : List Value} {D : va_G} {cl : List vw_C} {tyC : Nat → ClassId} {k0 sz0 : Nat} {ad : Nat → Nat} {zs : List (String × String × String × Value)} {Ts : List Cond} {own : String}
theorem mLdcwS (hx : p.tables.exec = Jvm.exec) (hb : c.code = cc) {own tx : String} {index q : Nat} {rest : List Value} {Q : State → Prop} (hown : s.vm.findClass own = some m.cls) (hZ : vk_R own index tx q s) (hdg : decode cc pc = .ok (.ldc_w index, 3))
    (k : W p l e R s m args below meth c H locs cells slots Q (F0 m (pc + 3) ls (.ref q :: rest))) : W p l e R s m args below meth c H locs cells slots Q (F0 m pc ls rest) := by
  intro T hT X
  obtain ⟨t, a1, b1⟩ := k T hT X
  obtain ⟨k0, cf, i, a', hk, hcf, hcp, -, hr, hev'⟩ := Cond.stringRef_spec hown hZ.1
  cases hZ.2.symm.trans hev'
  obtain ⟨k', hk', he⟩ := X.warmed.alike.2.2 _ _ hk
  have hr' : k'.resolved[index]? = some (some (.string q)) := by
    rcases X.warmed.entry hk hk' index with h | ⟨h, -⟩
    · rw [h]; exact hr
    · rw [hr] at h; cases h
  refine ⟨t, ?_, b1⟩
  have hdg' : decode c.code (F0 m pc ls rest).pc = .ok (.ldc_w index, 3) := by rw [hb]; exact hdg
  jvm_step X.here [hx, hdg', ldc_w.wp_string (e := e) (s := T) (f := F0 m pc ls rest) X.here.top hk' (by rw [he]; exact hcf) hcp hr']
  exact a1
/-- the code of a constructor that passes its text on -/
abbrev mFour (xk : Nat × ByteArray) : Prop := decode xk.2 0 = .ok (.aload_n 0, 1) ∧ decode xk.2 1 = .ok (.aload_n 1, 1) ∧ decode xk.2 2 = .ok (.invokespecial xk.1, 3) ∧ decode xk.2 5 = .ok (.return_, 1)
/-- what a throw needs to know at the state at hand -/
def mOwn (own X tx : String) (names : List String) (xk : Nat × ByteArray) (ix kx ic : Nat) (cX : ClassId) (m : MethodId) (args : Array Value) (U : State) : Prop :=
  U.vm.findClass own = some m.cls ∧ (Cond.classLink own ix X).before args U = true ∧ (Cond.instantiable X 6).before args U = true ∧ (Cond.initialized X).before args U = true ∧ U.vm.findClass X = some cX ∧ (∃ qa, vk_R own kx tx qa U) ∧ ∀ a ∈ Bundle.ownAtomsX own ic X xk.1 xk.2 names, a.before args U = true
theorem sameNow {T V : State} {m : MethodId} {args : Array Value} {below : List Frame} {L : List Loc} {k n : Nat} (h : (mNow T m args below).sameButNew V L k n) : T.sameButNew V L k n := by
  obtain ⟨h1, h2⟩ := h
  refine ⟨?_, h2⟩
  have e1 : (mNow T m args below).setFrames V.frames = T.setFrames V.frames := State.setFrames_setFrames ..
  rw [e1] at h1
  exact h1
set_option maxHeartbeats 4000000 in
theorem mThrow {Qc : Array Value → State → Outcome → State → Prop} {free : Addr → Prop} {X tx : String} {names : List String} {xk : Nat × ByteArray} {ix kx ic cX : Nat} {st : List Value} (hnt : l.stackTraces = false) (hx : p.tables.exec = Jvm.exec) (hb : c.code = cc) (hml : c.maxLocals = ls.size) (hlocks : meth.locks = false)
    (hd0 : decode cc pc = .ok (.new ix, 3)) (hd3 : decode cc (pc + 3) = .ok (.dup, 1)) {kl : Nat} (hd4 : decode cc (pc + 4) = .ok (.ldc kx, 2) ∧ kl = 2 ∨ decode cc (pc + 4) = .ok (.ldc_w kx, 3) ∧ kl = 3) (hd6 : decode cc (pc + 4 + kl) = .ok (.invokespecial ic, 3)) (hd9 : decode cc (pc + 4 + kl + 3) = .ok (.athrow, 1)) (hout : ∀ x ∈ c.exceptionTable.toList, covers x (pc + 4 + kl + 3) = false)
    (hF : ∀ U : State, s.WarmedH U.vm → U.heap = H → mOwn own X tx names xk ix kx ic cX m args U) (hxk : mFour xk) (hcls : Bundle.fit X = true) (hnames : ∀ n ∈ names, Bundle.fit n = true)
    (hRc : cells + 1 ≤ R.cells) (hRs : slots + 6 ≤ R.slots) (hRf : names.length + 3 < R.frames) (hst : (st.map fun v => v.category).sum ≤ 8) (hRl : 9 + (13 * (names.length + 1) + 42) ≤ R.locals)
    (hq : ∀ t : State, s.WarmedH t.vm → t.heap.size = H.size + 1 → (∀ q : Nat, q < H.size → t.heap[q]? = H[q]?) → (∃ cell : Cell, t.heap[H.size]? = some cell ∧ cell.cls = cX ∧ cell.vm = .none) → Qc args s (.threw H.size) t) (hf : ∀ q ∈ locs, free q.base) :
    W p l e R s m args below meth c H locs cells slots (MQX below Qc args s (cells + 1) (slots + 6) free) (F0 m pc ls st) := by
  intro T hT Y
  have Y0 := mRebase Y (R' := { frames := R.frames, cells := 1, slots := 6, locals := R.locals }) (Nat.le_refl _) (Nat.le_refl _) hRc hRs
  have hW0 : s.WarmedH (mNow T m args below).vm := Y.warmed
  obtain ⟨f1, f2, f3, f4, f5, ⟨qa, f6⟩, f7⟩ := hF (mNow T m args below) hW0 hT
  have key : W p l e { frames := R.frames, cells := 1, slots := 6, locals := R.locals } (mNow T m args below) m args below meth c (mNow T m args below).heap [] 0 0 (fun U => U.status = .running ∧ Ended U below (.threw T.heap.size) ∧ (mNow T m args below).WarmedH U.vm ∧ (mNow T m args below).sameButNew ({ U with vm := (mNow T m args below).vm } : State) [] 1 6 ∧ ∃ ce : Cell, U.heap[T.heap.size]? = some ce ∧ ce.cls = cX ∧ ce.vm = .none) (F0 m pc ls st) := by
    refine W.newcK hx hb f1 f2 f3 f4 rfl hd0 (by show 0 + 1 ≤ 1; omega) (by show 0 + 6 ≤ 6; omega) f5 rfl fun H1 kX hkX e1 z1 o1 => ?_
    refine lv_dup hx hb hd3 rfl ?_
    suffices kk : W p l e { frames := R.frames, cells := 1, slots := 6, locals := R.locals } (mNow T m args below) m args below meth c H1 [] (0 + 1) (0 + 6) (fun U => U.status = .running ∧ Ended U below (.threw T.heap.size) ∧ (mNow T m args below).WarmedH U.vm ∧ (mNow T m args below).sameButNew ({ U with vm := (mNow T m args below).vm } : State) [] 1 6 ∧ ∃ ce : Cell, U.heap[T.heap.size]? = some ce ∧ ce.cls = cX ∧ ce.vm = .none) (F0 m (pc + 4 + kl) ls ((.ref qa : Value) :: .ref T.heap.size :: .ref T.heap.size :: st)) by
      rcases hd4 with ⟨hd4, rfl⟩ | ⟨hd4, rfl⟩
      · exact va_ldcS hx hb f1 f6 hd4 kk
      · exact mLdcwS hx hb f1 f6 hd4 kk
    intro T1 hT1 Z
    have hroom := lv_room (m := m) (pc := pc + 4 + kl) (ls := ls) (rest := (.ref qa : Value) :: .ref T.heap.size :: .ref T.heap.size :: st) (st := st) hst
    obtain ⟨U, h1, h2, h3, h4, h5, ce, h6, h7⟩ := mCtorX Z hx (mNT Z.admits hnt) (own := own) (cls := X) (names := names) (ic := ic) hxk.1 hxk.2.1 hxk.2.2.1 hxk.2.2.2 f1 hcls hnames f7 (a := T.heap.size) (cX := cX) (kX := kX) f5 hkX (by rw [hT1]; exact e1) (Nat.le_refl _) (msg := .ref qa) rfl
      (g := F0 m (pc + 4 + kl) ls (.ref qa :: .ref T.heap.size :: .ref T.heap.size :: st)) rfl (by rw [hml]) rfl rfl (rest := st) rfl (by rw [hb]; exact hd6) (by rw [hb]; exact hd9) hout hRf (by
        show 2 * (F0 m (pc + 4 + kl) ls (.ref qa :: .ref T.heap.size :: .ref T.heap.size :: st)).monitorRoom + (1 + (st.map fun v => v.category).sum) + _ ≤ R.locals
        omega) hlocks
    exact ⟨U, h1, h2, h3, h4, h5, ce, h6, h7⟩
  obtain ⟨U, g1, g2, g3, g4, g5, ce, g6, g7, g8⟩ := key T rfl Y0
  subst hT
  have g5' := sameNow g5
  refine ⟨U, g1, .threw T.heap.size, g2, g3, ?_, locs ++ [], ⟨State.WarmedH.trans Y.warmed g4, Y.same.trans (g5'.setVm s.vm)⟩, ?_⟩
  · refine hq U (State.WarmedH.trans Y.warmed g4) ?_ (fun q h1 => ?_) ⟨ce, g6, g7, g8⟩
    · have h1 : U.heap.size ≤ T.heap.size + 1 := g5'.2.2.1
      have h2 := (Array.getElem?_eq_some_iff.mp g6).1
      omega
    · have h2 : T.heap[q]? = some T.heap[q] := Array.getElem?_eq_getElem h1
      rw [h2]
      exact State.sameButNew.old_cell g5' h2
  · intro q hq
    rw [List.append_nil] at hq
    exact hf q hq
end MTN
end
section
/-! WHAT THE SMALL MACHINE ANSWERS, THE MACHINE DOES -/
theorem mNx_mono {k0 : Nat} {dflt : Nat → List Value} {en : mI} {pc pc' : Nat} {lv lv' : mL} {st st' : List Value} {h h' : mH} (hn : mNx k0 dflt en pc lv st h = some (pc', lv', st', h')) : h.length ≤ h'.length ∧ mSls h ≤ mSls h' := by
  unfold mNx at hn
  split at hn
  · cases hn; exact ⟨Nat.le_refl _, Nat.le_refl _⟩
  · split at hn
    · cases hn; exact ⟨Nat.le_refl _, Nat.le_refl _⟩
    · split at hn
      · cases hn; exact ⟨Nat.le_refl _, Nat.le_refl _⟩
      · split at hn
        · cases hn; exact ⟨Nat.le_refl _, Nat.le_refl _⟩
        · split at hn
          · cases hn; exact ⟨Nat.le_refl _, Nat.le_refl _⟩
          · split at hn
            · rename_i hP
              cases hn
              obtain ⟨e1, e2⟩ := mP_keeps hP
              omega
            · split at hn
              · rename_i hN
                cases hn
                obtain ⟨x, rfl⟩ := mN_grows hN
                rw [mSls_app]
                simp
              · split at hn
                · split at hn
                  · rename_i hX
                    cases hn
                    rw [mX_same hX]
                    exact ⟨Nat.le_refl _, Nat.le_refl _⟩
                  · split at hn
                    · rename_i hY
                      cases hn
                      obtain ⟨e1, e2⟩ := mY_keeps hY
                      omega
                    · cases hn
                · cases hn
theorem evF_mono {k0 : Nat} {dflt : Nat → List Value} {P : Nat → Nat → Option mI} {Hn : Nat → List (Nat × Nat × Nat × Nat)} {dp : Nat} {call : Nat → List Value → mH → Option (mO × mH)} (hc : ∀ ce as h o h', call ce as h = some (o, h') → h.length ≤ h'.length ∧ mSls h ≤ mSls h') :
    ∀ (n mi pc : Nat) (lv : mL) (st : List Value) (h : mH) (o : mO) (hF : mH), evF k0 dflt P Hn dp call n mi pc lv st h = some (o, hF) → h.length ≤ hF.length ∧ mSls h ≤ mSls hF
  | 0, _, _, _, _, _, _, _, he => by cases he
  | n + 1, mi, pc, lv, st, h, o, hF, he => by
    unfold evF at he
    split at he
    · cases he
    · split at he
      · cases he; exact ⟨Nat.le_refl _, Nat.le_refl _⟩
      · split at he
        · split at he
          · cases he
            rw [mSls_app]
            simp
          · cases he
        · split at he
          · split at he
            · rename_i hcl
              obtain ⟨a1, a2⟩ := hc _ _ _ _ _ hcl
              obtain ⟨b1, b2⟩ := evF_mono hc n _ _ _ _ _ _ _ he
              omega
            · rename_i hcl
              obtain ⟨a1, a2⟩ := hc _ _ _ _ _ hcl
              split at he
              · obtain ⟨b1, b2⟩ := evF_mono hc n _ _ _ _ _ _ _ he
                omega
              · split at he
                · cases he
                  exact ⟨a1, a2⟩
                · cases he
            · cases he
          · split at he
            · rename_i hnx
              obtain ⟨a1, a2⟩ := mNx_mono hnx
              obtain ⟨b1, b2⟩ := evF_mono hc n _ _ _ _ _ _ _ he
              omega
            · cases he
theorem evM_mono {k0 : Nat} {dflt : Nat → List Value} {P : Nat → Nat → Option mI} {Hn : Nat → List (Nat × Nat × Nat × Nat)} {mx : Nat → Nat} :
    ∀ (d n ce : Nat) (as : List Value) (h : mH) (o : mO) (h' : mH), evM k0 dflt P Hn mx d n ce as h = some (o, h') → h.length ≤ h'.length ∧ mSls h ≤ mSls h'
  | 0, _, _, _, _, _, _, he => by cases he
  | d + 1, n, ce, as, h, o, h', he => by
    unfold evM at he
    split at he
    · exact evF_mono (fun ce as h o h' => evM_mono d n ce as h o h') n _ _ _ _ _ _ _ he
    · cases he
theorem evF_thrown {k0 : Nat} {dflt : Nat → List Value} {P : Nat → Nat → Option mI} {Hn : Nat → List (Nat × Nat × Nat × Nat)} {dp : Nat} {call : Nat → List Value → mH → Option (mO × mH)} (hc : ∀ ce as h x a h', call ce as h = some (.inr (x, a), h') → h'[a]? = some (mEx x)) :
    ∀ (n mi pc : Nat) (lv : mL) (st : List Value) (h : mH) (x a : Nat) (hF : mH), evF k0 dflt P Hn dp call n mi pc lv st h = some (.inr (x, a), hF) → hF[a]? = some (mEx x)
  | 0, _, _, _, _, _, _, _, _, he => by cases he
  | n + 1, mi, pc, lv, st, h, x, a, hF, he => by
    unfold evF at he
    split at he
    · cases he
    · split at he
      · cases he
      · split at he
        · split at he
          · cases he
            simp
          · cases he
        · split at he
          · split at he
            · exact evF_thrown hc n _ _ _ _ _ _ _ _ he
            · rename_i hcl
              split at he
              · exact evF_thrown hc n _ _ _ _ _ _ _ _ he
              · split at he
                · cases he
                  exact hc _ _ _ _ _ _ hcl
                · cases he
            · cases he
          · split at he
            · exact evF_thrown hc n _ _ _ _ _ _ _ _ he
            · cases he
theorem evM_thrown {k0 : Nat} {dflt : Nat → List Value} {P : Nat → Nat → Option mI} {Hn : Nat → List (Nat × Nat × Nat × Nat)} {mx : Nat → Nat} :
    ∀ (d n ce : Nat) (as : List Value) (h : mH) (x a : Nat) (h' : mH), evM k0 dflt P Hn mx d n ce as h = some (.inr (x, a), h') → h'[a]? = some (mEx x)
  | 0, _, _, _, _, _, _, _, he => by cases he
  | d + 1, n, ce, as, h, x, a, h', he => by
    unfold evM at he
    split at he
    · exact evF_thrown (fun ce as h x a h' => evM_thrown d n ce as h x a h') n _ _ _ _ _ _ _ _ he
    · cases he
/-- a method: its name, code, locals, answer -/
abbrev mMt : Type := MethodName × ByteArray × Nat × Option FieldType
def mVr (rt : Option FieldType) (i : Instr) (o1 : Nat) : Prop := match i with
  | .ireturn => (o1 = 0 → rt = some .int) ∧ (o1 = 1 → rt = some .boolean) ∧ (o1 = 2 → rt = some .char) ∧ (o1 = 3 → rt = some .byte)
  | .lreturn => rt = some .long
  | .areturn => (∃ n, rt = some (.object n)) ∨ ∃ t, rt = some (.array t)
  | .return_ => rt = none
  | _ => True
def mVc (own : String) (cl : List vw_C) (Ts : List Cond) (mt : Nat → mMt) (Hn : Nat → List (Nat × Nat × Nat × Nat)) (en : mI) : Prop := en.2.2.2.1 = 0 → match en.1 with
  | .invokevirtual ix => (Cond.methodLink own ix (mt en.2.1).1 ∈ Ts ∨ ∃ host, Cond.methodLinkNest own ix (mt en.2.1).1 host ∈ Ts) ∧ Cond.instanceMethod (mt en.2.1).1 ∈ Ts ∧ Cond.selects (mt en.2.1).1.cls (mt en.2.1).1 (mt en.2.1).1 ∈ Ts ∧ (parseMethodDescriptor (mt en.2.1).1.desc).map (fun d => d.parameters.length) = some (en.2.2.1 - 1) ∧ 1 ≤ en.2.2.1 ∧ ∀ k, en.2.2.2.2 = .retAddr k → (∃ (T : u_T) (N : Nat), cl[k]? = some ((mt en.2.1).1.cls, T, N)) ∨ (cl[k]? = none ∧ (mKc k).1 = (mt en.2.1).1.cls)
  | .invokestatic ix => (Cond.methodLink own ix (mt en.2.1).1 ∈ Ts ∨ ∃ host, Cond.methodLinkNest own ix (mt en.2.1).1 host ∈ Ts) ∧ Cond.static (mt en.2.1).1 ∈ Ts ∧ (parseMethodDescriptor (mt en.2.1).1.desc).map (fun d => d.parameters.length) = some en.2.2.1
  | .invokespecial ix => (mt en.2.1).1.name = "<init>" ∧ Cond.methodLink own ix (mt en.2.1).1 ∈ Ts ∧ Cond.instanceMethod (mt en.2.1).1 ∈ Ts ∧ Hn en.2.1 = [] ∧ (mt en.2.1).2.2.2 = none ∧ (parseMethodDescriptor (mt en.2.1).1.desc).map (fun d => d.parameters.length) = some (en.2.2.1 - 1) ∧ 1 ≤ en.2.2.1
  | _ => True
abbrev mUnas : Cond := .isRef (.static "java/lang/Throwable" "UNASSIGNED_STACK" "[Ljava/lang/StackTraceElement;")
abbrev mSent : Cond := .isRef (.static "java/lang/Throwable" "SUPPRESSED_SENTINEL" "Ljava/util/List;")
abbrev mUnasL : Cond := .laysStatic "java/lang/Throwable" "UNASSIGNED_STACK" "[Ljava/lang/StackTraceElement;"
abbrev mSentL : Cond := .laysStatic "java/lang/Throwable" "SUPPRESSED_SENTINEL" "Ljava/util/List;"
def mVt (own : String) (cl : List vw_C) (Ts : List Cond) (strs : List (String × Nat × String)) (EX : Nat → String) (cc : ByteArray) (pc : Nat) (en : mI) : Prop := ∀ x, mTh en = some x → ∃ (ix kx ic : Nat) (tx : String) (T : u_T) (xk : Nat × ByteArray) (kl : Nat), en.1 = .new ix ∧ decode cc (pc + 3) = .ok (.dup, 1) ∧ (decode cc (pc + 4) = .ok (.ldc kx, 2) ∧ kl = 2 ∨ decode cc (pc + 4) = .ok (.ldc_w kx, 3) ∧ kl = 3) ∧ decode cc (pc + 4 + kl) = .ok (.invokespecial ic, 3) ∧ decode cc (pc + 4 + kl + 3) = .ok (.athrow, 1) ∧
  Cond.classLink own ix (EX x) ∈ Ts ∧ Cond.instantiable (EX x) 6 ∈ Ts ∧ Cond.initialized (EX x) ∈ Ts ∧ (own, kx, tx) ∈ strs ∧ Bundle.fit (EX x) = true ∧ mFour xk ∧ (∀ a ∈ Bundle.ownAtomsX own ic (EX x) xk.1 xk.2 ["java/lang/RuntimeException", "java/lang/Exception"], a ∈ Ts ∨ (a = mUnas ∨ a = mUnasL) ∨ (a = mSent ∨ a = mSentL)) ∧ cl[mXc x]? = some (EX x, T, 0)
/-- all that must be right of a method -/
def mVM (cl : List vw_C) (zs : List (String × String × String × Value)) (Ts : List Cond) (dflt : Nat → List Value) (strs : List (String × Nat × String)) (ncs : List (Nat × Nat)) (EX : Nat → String) (ct : Nat → Nat) (P : Nat → Nat → Option mI) (Hn : Nat → List (Nat × Nat × Nat × Nat)) (mx : Nat → Nat) (mt : Nat → mMt) (mi : Nat) : Prop :=
  plainName (mt mi).1.cls = true ∧ ((mt mi).1.cls ≠ "java/lang/invoke/MethodHandle" ∧ (mt mi).1.cls ≠ "java/lang/invoke/VarHandle") ∧ mCW (mt mi).1 (mt mi).2.1 (mt mi).2.2.1 (mt mi).2.2.2 ((Hn mi).map (fun q => (q.1, q.2.1, q.2.2.1, ct q.2.2.2))) ∈ Ts ∧ Cond.initialized (mt mi).1.cls ∈ Ts ∧ mx mi = (mt mi).2.2.1 ∧ (mt mi).2.2.1 ≤ 20 ∧
  (∀ pc en, P mi pc = some en → decode (mt mi).2.1 pc = .ok (en.1, mLn en.1 en.2.1) ∧ mV (mt mi).1.cls cl zs Ts dflt ((mt mi).1.name == "<init>") (mt mi).2.2.1 en ∧ mVr (mt mi).2.2.2 en.1 en.2.1 ∧ mVc (mt mi).1.cls cl Ts mt Hn en ∧ mVt (mt mi).1.cls cl Ts strs EX (mt mi).2.1 pc en) ∧
  (∀ q ∈ Hn mi, Cond.classLink (mt mi).1.cls (ct q.2.2.2) (EX q.2.2.2) ∈ Ts ∧ Cond.castable (EX q.2.2.2) (EX q.2.2.2) ∈ Ts ∧ (∃ (T : u_T) (N : Nat), cl[mXc q.2.2.2]? = some (EX q.2.2.2, T, N)) ∧ ∀ r ∈ Hn mi, r.2.2.2 ≠ q.2.2.2 → (q.2.2.2, r.2.2.2) ∈ ncs) ∧
  (Hn mi ≠ [] → ∀ pc en, P mi pc = some en → mTh en = none)
/-- words that stay true as the tables warm -/
def mWarm (w : Cond) : Prop := ∀ (args a' : Array Value) (s U : State), s.WarmedH U.vm → w.before args s = true → w.before a' U = true
/-- what else is known of the tables -/
def mK2 (ad : Nat → Nat) (strs : List (String × Nat × String)) (ncs : List (Nat × Nat)) (EX : Nat → String) (U : State) : Prop := (∀ q ∈ strs, ∃ a, vk_R q.1 q.2.1 q.2.2 a U) ∧ (∀ q ∈ ncs, va_Nc (EX q.1) (EX q.2) U) ∧ vk_R mRN.1 mRN.2.1 mRN.2.2.1 (ad mRN.2.2.2) U
theorem mK2.warm {ad : Nat → Nat} {strs : List (String × Nat × String)} {ncs : List (Nat × Nat)} {EX : Nat → String} {s U : State} (hW : s.WarmedH U.vm) (h : mK2 ad strs ncs EX s) : mK2 ad strs ncs EX U :=
  ⟨fun q hq => by obtain ⟨a, ha⟩ := h.1 q hq; exact ⟨a, ha.warm hW⟩, fun q hq => (h.2.1 q hq).moved hW.alike, h.2.2.warm hW⟩
/-- a contract's start and end -/
def mPc (D : va_G) (cl : List vw_C) (tyC : Nat → ClassId) (k0 sz0 : Nat) (ad : Nat → Nat) (zs : List (String × String × String × Value)) (strs : List (String × Nat × String)) (ncs : List (Nat × Nat)) (EX : Nat → String) (as : List Value) (h : mH) : Array Value → State → Prop := fun v U => v = (as.map (mT ad)).toArray ∧ mOK D cl tyC k0 sz0 ad zs U h U.heap ∧ mK2 ad strs ncs EX U
def mOut (ad : Nat → Nat) (o : mO) : Outcome := match o with
  | .inl v => .returned (v.map (mT ad))
  | .inr q => .threw (ad q.2)
def mQc (D : va_G) (cl : List vw_C) (tyC : Nat → ClassId) (k0 sz0 : Nat) (ad : Nat → Nat) (zs : List (String × String × String × Value)) (o : mO) (hF : mH) : Array Value → State → Outcome → State → Prop := fun _ st oc t => oc = mOut ad o ∧ mOK D cl tyC k0 sz0 ad zs t hF t.heap ∧ va_F (mNew sz0) st t
theorem mPc_blind {D : va_G} {cl : List vw_C} {tyC : Nat → ClassId} {k0 sz0 : Nat} {ad : Nat → Nat} {zs : List (String × String × String × Value)} {strs : List (String × Nat × String)} {ncs : List (Nat × Nat)} {EX : Nat → String} {as : List Value} {h : mH} : FrameBlind (mPc D cl tyC k0 sz0 ad zs strs ncs EX as h) := by
  intro a U g mk hp
  exact ⟨hp.1, mOK.moved (u := U) (U := U.calling g mk a) (Vm.Alike.refl U.vm) hp.2.1, mK2.warm (s := U) (U := U.calling g mk a) (State.WarmedH.refl U) hp.2.2⟩
theorem mHd_mem {x pc hp : Nat} : ∀ {hs : List (Nat × Nat × Nat × Nat)}, mHd hs pc x = some hp → ∃ q ∈ hs, q.2.2.2 = x
  | [], h => by cases h
  | q :: r, h => by
    unfold mHd at h
    split at h
    · rename_i hq
      exact ⟨q, List.mem_cons_self, hq.2.2⟩
    · obtain ⟨z, hz, hzx⟩ := mHd_mem h
      exact ⟨z, List.mem_cons_of_mem _ hz, hzx⟩
end
section
/-! SOUNDNESS OF THE SMALL MACHINE -/
section MS
variable {p : Program} {l : Launch} {e : Env} {R : Room} {s : State} {m : MethodId} {args : Array Value} {below : List Frame} {meth : Method} {c : Code} {Q : State → Prop}
variable {D : va_G} {cl : List vw_C} {tyC : Nat → ClassId} {k0 sz0 : Nat} {ad : Nat → Nat} {zs : List (String × String × String × Value)} {Ts : List Cond} {dflt : Nat → List Value} {strs : List (String × Nat × String)} {ncs : List (Nat × Nat)} {EX : Nat → String} {ct : Nat → Nat} {P : Nat → Nat → Option mI} {Hn : Nat → List (Nat × Nat × Nat × Nat)} {mx : Nat → Nat} {mt : Nat → mMt}
theorem mCl_inv {en : mI} {st : List Value} {h : mH} {ce : Nat} {as rest : List Value} (hc : mCl en st h = some (ce, as, rest)) : mIv en.1 = true ∧ en.2.2.2.1 = 0 ∧ ce = en.2.1 ∧ st = as.reverse ++ rest ∧ as.length = en.2.2.1 ∧ (rest.map fun v => v.category).sum ≤ 8 ∧ mRc en.1 en.2.2.2.2 as h = true := by
  unfold mCl at hc
  split at hc
  · rename_i hq
    obtain ⟨h1, h2, h3, h4, h5⟩ := hq
    cases hc
    refine ⟨h1, h2, rfl, ?_, ?_, h4, h5⟩
    · rw [List.reverse_reverse, List.take_append_drop]
    · rw [List.length_reverse, List.length_take]
      omega
  · cases hc
theorem va_SF {A : Nat → Prop} {H0 H H1 : Heap} {locs L : List Loc} {st t : State} (hS : va_S A H0 H locs) (h0 : st.heap = H) (hF : va_F A st t) (h1 : t.heap = H1) (hL : ∀ q ∈ L, A q.base) : va_S A H0 H1 (locs ++ L) := by
  subst h0; subst h1
  refine ⟨Nat.le_trans hS.1 hF.1, fun q a1 a2 => ?_, fun q hq => ?_⟩
  · rw [hF.2 q (Nat.lt_of_lt_of_le a1 hS.1) a2]
    exact hS.2.1 q a1 a2
  · rcases List.mem_append.mp hq with h | h
    · exact hS.2.2 q h
    · exact hL q h
set_option maxHeartbeats 8000000 in
/-- the instruction at hand is linked to its method -/
theorem mLk {T : State} {H : Heap} {locs : List Loc} {cells slots : Nat} {mi ce pc : Nat} {en : mI} {st as rest : List Value} {h : mH} {ls : Array Slot} {cc : ByteArray} (X : Stand p l e R s m args below meth c T locs cells slots) (hT : T.heap = H) (hx : p.tables.exec = Jvm.exec) (hb : c.code = cc) (hdg : decode cc pc = .ok (en.1, 3)) (hown : s.vm.findClass (mt mi).1.cls = some m.cls) (hts : ∀ w ∈ Ts, w.before args s = true)
    (hVc : mVc (mt mi).1.cls cl Ts mt Hn en) (hVM : mVM cl zs Ts dflt strs ncs EX ct P Hn mx mt ce) (hOK : mOK D cl tyC k0 sz0 ad zs s h H) (hcl : mCl en st h = some (ce, as, rest)) :
    mLkd p l e R s m args below meth c T locs cells slots (F0 m pc ls (mTs ad st)) (mTs ad rest) (mt ce).1 (as.map (mT ad)).toArray := by
  obtain ⟨h1, h2, rfl, rfl, h5, h6, h7⟩ := mCl_inv hcl
  have hV := hVc h2
  obtain ⟨w1, w2, w3, w4, -⟩ := hVM
  obtain ⟨i, o1, o2, o3, v⟩ := en
  dsimp only at *
  cases i <;> simp only [mIv, reduceCtorEq] at h1
  case invokevirtual ix =>
    obtain ⟨v1, v2, v3, v4, v5, v6⟩ := hV
    cases as with
    | nil => simp [mRc] at h7
    | cons r as =>
      cases r with
      | ref b =>
        simp only [mRc] at h7
        split at h7
        · rename_i ci fs hc
          split at h7
          · rename_i k
            have hk : ci = k := by simpa using h7
            obtain ⟨cell, q1, q3, hfc⟩ : ∃ cell : Cell, H[ad b]? = some cell ∧ cell.vm.isStatics = false ∧ s.vm.findClass (mt o1).1.cls = some cell.cls := by
              rcases v6 k rfl with ⟨T0, N0, hck⟩ | ⟨hcn, hcc⟩
              · obtain ⟨r0, g1, cell, q1, q2, q3, q4⟩ := (hOK.2.2.2.1 b _ hc).obj (by rw [hk]; exact hck)
                refine ⟨cell, q1, by rw [q3]; rfl, ?_⟩
                rw [q2, hk]
                exact (hOK.1.1 k _ hck).2.1
              · obtain ⟨⟨cell, q1, q2, q3⟩, -⟩ := (hOK.2.2.2.1 b _ hc).con (by rw [hk]; exact hcn)
                refine ⟨cell, q1, q2, ?_⟩
                rw [← hcc, ← hk]
                exact q3
            refine mLkV X hx hown (v1.imp (hts _) (fun ⟨host, hh⟩ => ⟨host, hts _ hh⟩)) (hts _ v2) (hts _ v3) (hts _ w3) w2 (b := ad b) (cellB := cell) (by rw [hT]; exact q1) q3 hfc rfl (argsL := as.map (mT ad)) ?_ ?_ (by rw [hb]; exact hdg)
            · rw [v4, List.length_map]
              simp only [List.length_cons] at h5
              rw [← h5]
              rfl
            · show List.map (mT ad) ((Value.ref b :: as).reverse ++ rest) = _
              simp [mT]
          · cases h7
        · cases h7
      | _ => simp [mRc] at h7
  case invokestatic ix =>
    obtain ⟨v1, v2, v4⟩ := hV
    refine mLkS X hx hown (v1.imp (hts _) (fun ⟨host, hh⟩ => ⟨host, hts _ hh⟩)) (hts _ v2) (hts _ w4) (hts _ w3) w2 rfl (argsL := as.map (mT ad)) ?_ ?_ (by rw [hb]; exact hdg)
    · rw [v4, List.length_map, h5]
    · show List.map (mT ad) (as.reverse ++ rest) = _
      simp
  case invokespecial ix =>
    obtain ⟨v0, v1, v2, v3, vr, v4, v5⟩ := hV
    cases as with
    | nil => simp [mRc] at h7
    | cons r as =>
      cases r with
      | ref b =>
        have w3' : Cond.code (mt o1).1 (mt o1).2.1 (mt o1).2.2.1 none ∈ Ts := by
          rw [v3, vr] at w3
          exact w3
        refine mLkI X hx hown v0 (hts _ v1) (hts _ v2) (hts _ w3') w2 (b := ad b) rfl (argsL := as.map (mT ad)) ?_ ?_ (by rw [hb]; exact hdg)
        · rw [v4, List.length_map]
          simp only [List.length_cons] at h5
          rw [← h5]
          rfl
        · show List.map (mT ad) ((Value.ref b :: as).reverse ++ rest) = _
          simp [mT]
      | _ => simp [mRc] at h7
set_option maxHeartbeats 16000000 in
theorem mRun {mi dp mc ms : Nat} {call : Nat → List Value → mH → Option (mO × mH)} {o : mO} {hF : mH} (had : mAd k0 sz0 ad) (hx : p.tables.exec = Jvm.exec) (hV : mVM cl zs Ts dflt strs ncs EX ct P Hn mx mt mi) (hcv : ∀ ce as h r, call ce as h = some r → mVM cl zs Ts dflt strs ncs EX ct P Hn mx mt ce)
    (hcall : ∀ ce as h o' h', call ce as h = some (o', h') → MetX l (mt ce).1 Ts { frames := dp - 1, cells := h'.length - h.length, slots := mSls h' - mSls h, locals := 39 * (dp - 1) } (mPc D cl tyC k0 sz0 ad zs strs ncs EX as h) (mQc D cl tyC k0 sz0 ad zs o' h') (h'.length - h.length) (mSls h' - mSls h) (mNew sz0))
    (hcm : ∀ ce as h o' h', call ce as h = some (o', h') → h.length ≤ h'.length ∧ mSls h ≤ mSls h') (hcx : ∀ ce as h x a h', call ce as h = some (.inr (x, a), h') → h'[a]? = some (mEx x))
    (hdp : 1 ≤ dp) (hRf : dp ≤ R.frames) (hRl : 39 * dp ≤ R.locals) (hRc : mc ≤ R.cells) (hRs : ms ≤ R.slots) (hct : ∀ y, ct y ≠ 0)
    (hb : c.code = (mt mi).2.1) (hml : c.maxLocals = (mt mi).2.2.1) (hex : c.exceptionTable.toList.map (fun h => (h.startPc, h.endPc, h.handlerPc, h.catchType)) = (Hn mi).map (fun q => (q.1, q.2.1, q.2.2.1, ct q.2.2.2))) (hown : s.vm.findClass (mt mi).1.cls = some m.cls) (hts : ∀ w ∈ Ts, w.before args s = true) (hwarm : ∀ w ∈ Ts, mWarm w)
    (hI : meth.name = (mt mi).1.name) (hk2 : mK2 ad strs ncs EX s) (hOK0 : ∀ z ∈ zs, mZ z.1 z.2.1 z.2.2.1 (mT ad z.2.2.2) (mNew sz0) s s.heap)
    (kRet : ∀ (pc : Nat) (en : mI) (st : List Value) (v : Option Value) (H : Heap) (locs : List Loc) (ls : Array Slot), P mi pc = some en → mRt en.1 en.2.1 st = some v → o = .inl v → mOK D cl tyC k0 sz0 ad zs s hF H → va_S (mNew sz0) s.heap H locs → W p l e R s m args below meth c H locs mc ms Q (F0 m pc ls (mTs ad st)))
    (kLeave : ∀ (pc x a : Nat) (st : List Value) (H : Heap) (locs : List Loc) (ls : Array Slot), Hn mi = [] → o = .inr (x, a) → mOK D cl tyC k0 sz0 ad zs s hF H → va_S (mNew sz0) s.heap H locs → WT p l e R s m args below meth c H locs mc ms Q (F0 m pc ls st) (ad a))
    (kThrow : ∀ (pc : Nat) (en : mI) (x : Nat) (h : mH) (H : Heap) (locs : List Loc) (ls : Array Slot) (cells slots : Nat), P mi pc = some en → mTh en = some x → 7 ≤ dp → o = .inr (x, h.length) → hF = h ++ [mEx x] → mOK D cl tyC k0 sz0 ad zs s h H → va_S (mNew sz0) s.heap H locs → ls.size = (mt mi).2.2.1 → cells + 1 = mc → slots + 6 = ms → W p l e R s m args below meth c H locs cells slots Q (F0 m pc ls [])) :
    ∀ (n pc : Nat) (lv : mL) (st : List Value) (h : mH) (H : Heap) (locs : List Loc) (cells slots : Nat) (ls : Array Slot), evF k0 dflt P Hn dp call n mi pc lv st h = some (o, hF) → mOK D cl tyC k0 sz0 ad zs s h H → va_S (mNew sz0) s.heap H locs → lv_has ls (mt mi).2.2.1 (mTl ad lv) → cells + (hF.length - h.length) = mc → slots + (mSls hF - mSls h) = ms →
      W p l e R s m args below meth c H locs cells slots Q (F0 m pc ls (mTs ad st))
  | 0, _, _, _, _, _, _, _, _, _, he, _, _, _, _, _ => by cases he
  | n + 1, pc, lv, st, h, H, locs, cells, slots, ls, he, hOK, hS, hl, hmc, hms => by
    have IH := mRun (mi := mi) (dp := dp) (mc := mc) (ms := ms) (call := call) (o := o) (hF := hF) had hx hV hcv hcall hcm hcx hdp hRf hRl hRc hRs hct hb hml hex hown hts hwarm hI hk2 hOK0 kRet kLeave kThrow n
    obtain ⟨w1, w2, w3, w4, w5, w6, w7, w8, w9⟩ := id hV
    have hws : ∀ w ∈ Ts, ∀ (a' : Array Value) (U : State), s.WarmedH U.vm → w.before a' U = true := fun w hw a' U hU => hwarm w hw _ _ _ _ hU (hts w hw)
    unfold evF at he
    split at he
    · cases he
    · rename_i en hen
      obtain ⟨vD, vV, vR, vC, vT⟩ := w7 pc en hen
      split at he
      · rename_i v hrt
        cases he
        rw [Nat.sub_self] at hmc hms
        cases hmc
        cases hms
        exact kRet pc en st v H locs ls hen hrt rfl hOK hS
      · split at he
        · rename_i x hth
          split at he
          · rename_i hq
            cases he
            have hst : st = [] := by simpa using hq.2
            subst hst
            refine kThrow pc en x h H locs ls cells slots hen hth hq.1 rfl rfl hOK hS hl.1 ?_ ?_
            · simpa using hmc
            · rw [mSls_app] at hms
              have : mSz (mEx x) = 6 := rfl
              omega
          · cases he
        · rename_i hth
          split at he
          · rename_i ce as rest hcl
            obtain ⟨i1, i2, i3, i4, i5, i6, i7⟩ := mCl_inv hcl
            have hd3 : decode (mt mi).2.1 pc = .ok (en.1, 3) := by rw [mIv_len i1] at vD; exact vD
            split at he
            · rename_i v h' hcr
              have hM := hcall ce as h _ h' hcr
              have hVM := hcv ce as h _ hcr
              obtain ⟨m1, m2⟩ := hcm ce as h _ h' hcr
              obtain ⟨m3, m4⟩ := evF_mono hcm n _ _ _ _ _ _ _ he
              obtain ⟨y1, y2, y3, y4, y5, y6, -⟩ := id hVM
              refine mCallW hM mPc_blind rfl rfl (by show dp - 1 + 1 ≤ R.frames; omega) (by show 8 + ((mt ce).2.2.1 + 11) + 39 * (dp - 1) ≤ R.locals; omega) hws y3 y4 hb hml hl.1 hd3 (by rw [mTs_cat]; exact i6) (by omega) (by omega)
                (fun U hU hW => ⟨rfl, by rw [hU]; exact hOK.moved hW.alike, hk2.warm hW⟩) (fun T hT X => mLk X hT hx hb hd3 hown hts vC hVM hOK hcl) (fun v' st0 t L g1 g2 g3 g4 => ?_) (fun x st0 t L g1 g2 g3 g4 => ?_)
              · obtain ⟨q1, q2, q3⟩ := g4
                have q1 : Outcome.returned v' = .returned (v.map (mT ad)) := q1
                cases q1
                have hk := IH (pc + 3) lv (v.toList ++ rest) h' t.heap (locs ++ L) (cells + (h'.length - h.length)) (slots + (mSls h' - mSls h)) ls he (q2.moved g2.alike.symm) (va_SF hS g1 q3 rfl g3) hl (by omega) (by omega)
                have e1 : mTs ad (v.toList ++ rest) = (v.map (mT ad)).toList ++ mTs ad rest := by
                  cases v <;> simp
                rw [e1] at hk
                exact hk
              · obtain ⟨q1, -, -⟩ := g4
                cases q1
            · rename_i x a h' hcr
              have hM := hcall ce as h _ h' hcr
              have hVM := hcv ce as h _ hcr
              obtain ⟨m1, m2⟩ := hcm ce as h _ h' hcr
              obtain ⟨y1, y2, y3, y4, y5, y6, -⟩ := id hVM
              have hxa := hcx ce as h x a h' hcr
              split at he
              · rename_i hp hhd
                obtain ⟨m3, m4⟩ := evF_mono hcm n _ _ _ _ _ _ _ he
                refine mCallW hM mPc_blind rfl rfl (by show dp - 1 + 1 ≤ R.frames; omega) (by show 8 + ((mt ce).2.2.1 + 11) + 39 * (dp - 1) ≤ R.locals; omega) hws y3 y4 hb hml hl.1 hd3 (by rw [mTs_cat]; exact i6) (by omega) (by omega)
                  (fun U hU hW => ⟨rfl, by rw [hU]; exact hOK.moved hW.alike, hk2.warm hW⟩) (fun T hT X => mLk X hT hx hb hd3 hown hts vC hVM hOK hcl) (fun v' st0 t L g1 g2 g3 g4 => ?_) (fun x' st0 t L g1 g2 g3 g4 => ?_)
                · obtain ⟨q1, -, -⟩ := g4
                  cases q1
                · obtain ⟨q1, q2, q3⟩ := g4
                  have q1 : Outcome.threw x' = .threw (ad a) := q1
                  cases q1
                  have hOK1 := q2.moved g2.alike.symm
                  obtain ⟨qh, hqh, hqx⟩ := mHd_mem hhd
                  obtain ⟨u1, u2, ⟨T0, N0, u3⟩, u4⟩ := w8 qh hqh
                  rw [hqx] at u2 u3 u4
                  obtain ⟨r0, z1, cell, z2, z3, z4, z5⟩ := ((hOK1.2.2.2.1 a _ hxa).obj u3)
                  have hfc : s.vm.findClass (EX x) = some cell.cls := by
                    rw [z3]
                    exact (hOK1.1.1 _ _ u3).2.1
                  refine WT.catch (own := (mt mi).1.cls) (EX := EX) (ct := ct) (x := x) (hp := hp) (cell := cell) hown z2 hfc (by rw [z4]; rfl) hct (hts _ u2) hex (fun q hq => hts _ (w8 q hq).1) (fun q hq hne => hk2.2.1 (x, q.2.2.2) (u4 q hq hne)) hhd ?_
                  exact IH hp lv [.ref a] h' t.heap (locs ++ L) (cells + (h'.length - h.length)) (slots + (mSls h' - mSls h)) ls he hOK1 (va_SF hS g1 q3 rfl g3) hl (by omega) (by omega)
              · split at he
                · rename_i hemp
                  cases he
                  have hn0 : Hn mi = [] := by simpa using hemp
                  refine mCallW hM mPc_blind rfl rfl (by show dp - 1 + 1 ≤ R.frames; omega) (by show 8 + ((mt ce).2.2.1 + 11) + 39 * (dp - 1) ≤ R.locals; omega) hws y3 y4 hb hml hl.1 hd3 (by rw [mTs_cat]; exact i6) (by omega) (by omega)
                    (fun U hU hW => ⟨rfl, by rw [hU]; exact hOK.moved hW.alike, hk2.warm hW⟩) (fun T hT X => mLk X hT hx hb hd3 hown hts vC hVM hOK hcl) (fun v' st0 t L g1 g2 g3 g4 => ?_) (fun x' st0 t L g1 g2 g3 g4 => ?_)
                  · obtain ⟨q1, -, -⟩ := g4
                    cases q1
                  · obtain ⟨q1, q2, q3⟩ := g4
                    have q1 : Outcome.threw x' = .threw (ad a) := q1
                    cases q1
                    rw [hmc, hms]
                    exact kLeave pc x a _ t.heap (locs ++ L) ls hn0 rfl (q2.moved g2.alike.symm) (va_SF hS g1 q3 rfl g3)
                · cases he
            · cases he
          · split at he
            · rename_i pc' lv' st' h' hnx
              obtain ⟨m1, m2⟩ := mNx_mono hnx
              obtain ⟨m3, m4⟩ := evF_mono hcm n _ _ _ _ _ _ _ he
              refine mNx_ok had hx hb vD hown hts vV (fun hq => by rw [hI]; simpa using hq) hth hml hOK hOK0 hk2.2.2 hS hl (by omega) (by omega) hnx (by omega) (by omega) (fun ls' H1 locs1 k1 k2 k3 => ?_)
              exact IH pc' lv' st' h' H1 locs1 (cells + (h'.length - h.length)) (slots + (mSls h' - mSls h)) ls' he k2 k3 k1 (by omega) (by omega)
            · cases he
end MS
end
section
/-! EVERY RUN OF THE SMALL MACHINE IS A CONTRACT -/
theorem lg_sl_T (ad : Nat → Nat) : ∀ as : List Value, (lg_sl (as.map (mT ad))).length = (lg_sl as).length
  | [] => rfl
  | v :: as => by
    have h := lg_sl_T ad as
    unfold lg_sl at h ⊢
    rw [List.map_cons, List.flatMap_cons, List.flatMap_cons, List.length_append, List.length_append, h]
    cases v <;> rfl
theorem lv_args_T (ad : Nat → Nat) : ∀ (as : List Value) (i : Nat), lv_args i (as.map (mT ad)) = mTl ad (lv_args i as)
  | [], _ => rfl
  | v :: as, i => by
    show (i, mT ad v) :: lv_args (if (mT ad v).category = 2 then i + 2 else i + 1) (as.map (mT ad)) = mTl ad ((i, v) :: lv_args (if v.category = 2 then i + 2 else i + 1) as)
    rw [mT_cat, lv_args_T ad as]
    rfl
section MM
variable {l : Launch}
variable {D : va_G} {cl : List vw_C} {tyC : Nat → ClassId} {k0 sz0 : Nat} {ad : Nat → Nat} {zs : List (String × String × String × Value)} {Ts : List Cond} {dflt : Nat → List Value} {strs : List (String × Nat × String)} {ncs : List (Nat × Nat)} {EX : Nat → String} {ct : Nat → Nat} {P : Nat → Nat → Option mI} {Hn : Nat → List (Nat × Nat × Nat × Nat)} {mx : Nat → Nat} {mt : Nat → mMt}
theorem mQc_of {o : mO} {hF : mH} {args : Array Value} {s t : State} {H : Heap} {locs : List Loc} {oc : Outcome} (ho : oc = mOut ad o) (hOK : mOK D cl tyC k0 sz0 ad zs s hF H) (hS : va_S (mNew sz0) s.heap H locs) (ht : t.heap = H) (hW : s.WarmedH t.vm) : mQc D cl tyC k0 sz0 ad zs o hF args s oc t :=
  ⟨ho, by rw [ht]; exact hOK.moved hW.alike, hS.F ht⟩
set_option maxHeartbeats 8000000 in
theorem mMet_ret {p : Program} {e : Env} {R : Room} {s : State} {m : MethodId} {args : Array Value} {below : List Frame} {meth : Method} {c : Code} {cc : ByteArray} {rt : Option FieldType} {o : mO} {hF : mH} {pc : Nat} {en : mI} {st : List Value} {v : Option Value} {H : Heap} {locs : List Loc} {ls : Array Slot} {mc ms : Nat} (hx : p.tables.exec = Jvm.exec) (hb : c.code = cc) (hr : meth.sig.returnType = rt) (hlocks : meth.locks = false) (hdg : decode cc pc = .ok (en.1, mLn en.1 en.2.1)) (vR : mVr rt en.1 en.2.1)
    (hrt : mRt en.1 en.2.1 st = some v) (ho : o = .inl v) (hOK : mOK D cl tyC k0 sz0 ad zs s hF H) (hS : va_S (mNew sz0) s.heap H locs) : W p l e R s m args below meth c H locs mc ms (MQX below (mQc D cl tyC k0 sz0 ad zs o hF) args s mc ms (mNew sz0)) (F0 m pc ls (mTs ad st)) := by
  subst ho
  obtain ⟨i, o1, o2⟩ := en
  dsimp only at *
  cases i <;> simp only [mRt, reduceCtorEq] at hrt
  case ireturn =>
    split at hrt
    · rename_i x
      split at hrt
      · cases hrt
        exact W.mono (fun t h => h.toX) (W.iret (v := x) hx hb (hr.trans (vR.1 rfl)) (fun t ht hW => mQc_of rfl hOK hS ht hW) hS.2.2 hdg hlocks)
      · split at hrt
        · rename_i hq
          cases hrt
          exact W.mono (fun t h => h.toX) (W.zret (v := x) hx hb (hr.trans (vR.2.1 rfl)) (by rcases hq with rfl | rfl <;> rfl) (fun t ht hW => mQc_of rfl hOK hS ht hW) hS.2.2 hdg hlocks)
        · cases hrt
      · split at hrt
        · rename_i hq
          cases hrt
          refine W.mono (fun t h => h.toX) (W.zret (v := x) hx hb (hr.trans (vR.2.2.1 rfl)) ?_ (fun t ht hW => mQc_of rfl hOK hS ht hW) hS.2.2 hdg hlocks)
          rw [← hq]
          exact pk_nc x
        · cases hrt
      · split at hrt
        · rename_i hq
          cases hrt
          refine W.mono (fun t h => h.toX) (W.zret (v := x) hx hb (hr.trans (vR.2.2.2 rfl)) ?_ (fun t ht hW => mQc_of rfl hOK hS ht hW) hS.2.2 hdg hlocks)
          show Value.int x.toInt8.toInt32 = .int x
          rw [hq]
        · cases hrt
      · cases hrt
    · cases hrt
  case lreturn =>
    split at hrt
    · rename_i x
      cases hrt
      exact W.mono (fun t h => h.toX) (W.lret (v := x) hx hb (hr.trans vR) (fun t ht hW => mQc_of rfl hOK hS ht hW) hS.2.2 hdg hlocks)
    · cases hrt
  case areturn =>
    split at hrt
    · rename_i x
      cases hrt
      rcases vR with ⟨n, hn⟩ | ⟨n, hn⟩
      · exact W.mono (fun t h => h.toX) (W.aret (v := .ref (ad x)) hx hb (hr.trans hn) (Or.inl ⟨_, rfl⟩) (Or.inr ⟨_, rfl⟩) (fun t ht hW => mQc_of rfl hOK hS ht hW) hS.2.2 hdg hlocks)
      · exact W.mono (fun t h => h.toX) (W.aret (v := .ref (ad x)) hx hb (hr.trans hn) (Or.inr ⟨_, rfl⟩) (Or.inr ⟨_, rfl⟩) (fun t ht hW => mQc_of rfl hOK hS ht hW) hS.2.2 hdg hlocks)
    · cases hrt
  case return_ =>
    split at hrt
    · cases hrt
      exact W.mono (fun t h => h.toX) (W.vret hx hb (hr.trans vR) (fun t ht hW => mQc_of rfl hOK hS ht hW) hS.2.2 hdg hlocks)
    · cases hrt
set_option maxHeartbeats 8000000 in
theorem mMet_throw {p : Program} {e : Env} {R : Room} {s : State} {m : MethodId} {args : Array Value} {below : List Frame} {meth : Method} {c : Code} {cc : ByteArray} {own : String} {pc : Nat} {en : mI} {x : Nat} {h : mH} {H : Heap} {locs : List Loc} {ls : Array Slot} {cells slots : Nat} (hnt : l.stackTraces = false) (had : mAd k0 sz0 ad) (hx : p.tables.exec = Jvm.exec) (hb : c.code = cc) (hml : c.maxLocals = ls.size) (hlocks : meth.locks = false) (hdg : decode cc pc = .ok (en.1, mLn en.1 en.2.1)) (vT : mVt own cl Ts strs EX cc pc en)
    (hth : mTh en = some x) (hout : c.exceptionTable.toList = []) (hown : s.vm.findClass own = some m.cls) (hts : ∀ w ∈ Ts, w.before args s = true) (hwarm : ∀ w ∈ Ts, mWarm w) (hk2 : mK2 ad strs ncs EX s)
    (hz1 : ∃ v, ("java/lang/Throwable", "UNASSIGNED_STACK", "[Ljava/lang/StackTraceElement;", v) ∈ zs ∧ (v = .null ∨ ∃ t, v = .ref t)) (hz2 : ∃ v, ("java/lang/Throwable", "SUPPRESSED_SENTINEL", "Ljava/util/List;", v) ∈ zs ∧ (v = .null ∨ ∃ t, v = .ref t))
    (hOK : mOK D cl tyC k0 sz0 ad zs s h H) (hS : va_S (mNew sz0) s.heap H locs) (hRc : cells + 1 ≤ R.cells) (hRs : slots + 6 ≤ R.slots) (hRf : 7 ≤ R.frames) (hRl : 100 ≤ R.locals) :
    W p l e R s m args below meth c H locs cells slots (MQX below (mQc D cl tyC k0 sz0 ad zs (.inr (x, h.length)) (h ++ [mEx x])) args s (cells + 1) (slots + 6) (mNew sz0)) (F0 m pc ls []) := by
  obtain ⟨ix, kx, ic, tx, T, xk, kl, t1, t2, t3, t4, t5, t6, t7, t8, t9, t10, t10b, t11, t12⟩ := vT x hth
  rw [t1] at hdg
  have hA := mAd_at had hOK
  have hmTv : ∀ v : Value, (v = .null ∨ ∃ t, v = .ref t) → (mT ad v = .null ∨ ∃ t, mT ad v = .ref t) := fun v hv => by
    rcases hv with rfl | ⟨t, rfl⟩
    · exact Or.inl rfl
    · exact Or.inr ⟨_, rfl⟩
  have key := mThrow (R := R) (Qc := mQc D cl tyC k0 sz0 ad zs (.inr (x, h.length)) (h ++ [mEx x])) (free := mNew sz0) (own := own) (X := EX x) (tx := tx) (names := ["java/lang/RuntimeException", "java/lang/Exception"]) (xk := xk) (ix := ix) (kx := kx) (ic := ic) (cX := D.1 (mXc x)) (st := []) (cells := cells) (slots := slots) (locs := locs) (H := H) (s := s) (m := m) (args := args) (below := below) (meth := meth) (e := e) (p := p) (l := l) (c := c) (cc := cc) (pc := pc) (ls := ls)
    hnt hx hb hml hlocks hdg t2 t3 t4 t5 (fun y hy => by rw [hout] at hy; cases hy) (fun U hU hUH => ?_) t10b t10 (by decide) hRc hRs (by show 2 + 3 < R.frames; omega) (by show 0 ≤ 8; omega) (by show 9 + (13 * (2 + 1) + 42) ≤ R.locals; omega) (fun t hW hz ho hcx => ?_) hS.2.2
  · exact key
  · have hOKU := hOK.moved hU.alike
    refine ⟨by rw [hU.alike.findClass]; exact hown, hwarm _ t6 _ _ _ _ hU (hts _ t6), hwarm _ t7 _ _ _ _ hU (hts _ t7), hwarm _ t8 _ _ _ _ hU (hts _ t8), (hOKU.1.1 _ _ t12).2.1, (hk2.warm hU).1 _ t9, fun a ha => ?_⟩
    rcases t11 a ha with h1 | h1 | h1
    · exact hwarm _ h1 _ _ _ _ hU (hts _ h1)
    · obtain ⟨v, hv, hvv⟩ := hz1
      have h2 := hOKU.2.2.2.2 _ hv
      rw [← hUH] at h2
      rcases h1 with rfl | rfl
      · exact mIsRef h2.z (hmTv v hvv)
      · exact h2.lays
    · obtain ⟨v, hv, hvv⟩ := hz2
      have h2 := hOKU.2.2.2.2 _ hv
      rw [← hUH] at h2
      rcases h1 with rfl | rfl
      · exact mIsRef h2.z (hmTv v hvv)
      · exact h2.lays
  · obtain ⟨cell, c1, c2, c3⟩ := hcx
    refine ⟨by show Outcome.threw H.size = .threw (ad h.length); rw [hA], (hOK.moved hW.alike).push had hz ho ?_, ?_⟩
    · refine mAt.mk (show va_at D cl (ad h.length, .inr (mXc x, _)) t.heap from ⟨_, t12, cell, ?_, c2, c3, fun k hk => absurd hk (Nat.not_lt_zero k)⟩)
      show t.heap[ad h.length]? = some cell
      rw [hA]
      exact c1
    · refine ⟨Nat.le_trans hS.1 (by omega), fun q q1 q2 => ?_⟩
      rw [ho q (Nat.lt_of_lt_of_le q1 hS.1)]
      exact hS.2.1 q q1 q2
set_option maxHeartbeats 8000000 in
theorem mMet (had : mAd k0 sz0 ad) (hnt : l.stackTraces = false) (hct : ∀ y, ct y ≠ 0) (hwarm : ∀ w ∈ Ts, mWarm w) (hVM : ∀ mi, P mi 0 ≠ none → mVM cl zs Ts dflt strs ncs EX ct P Hn mx mt mi)
    (hz1 : ∃ v, ("java/lang/Throwable", "UNASSIGNED_STACK", "[Ljava/lang/StackTraceElement;", v) ∈ zs ∧ (v = .null ∨ ∃ t, v = .ref t)) (hz2 : ∃ v, ("java/lang/Throwable", "SUPPRESSED_SENTINEL", "Ljava/util/List;", v) ∈ zs ∧ (v = .null ∨ ∃ t, v = .ref t)) :
    ∀ (d n mi : Nat) (as : List Value) (h : mH) (o : mO) (h' : mH), evM k0 dflt P Hn mx d n mi as h = some (o, h') →
      MetX l (mt mi).1 Ts { frames := d, cells := h'.length - h.length, slots := mSls h' - mSls h, locals := 39 * d } (mPc D cl tyC k0 sz0 ad zs strs ncs EX as h) (mQc D cl tyC k0 sz0 ad zs o h') (h'.length - h.length) (mSls h' - mSls h) (mNew sz0)
  | 0, _, _, _, _, _, _, he => by cases he
  | d + 1, n, mi, as, h, o, h', he => by
    have IH := mMet had hnt hct hwarm hVM hz1 hz2 d n
    have he0 := he
    unfold evM at he
    split at he
    · rename_i hlen
      have hP0 : P mi 0 ≠ none := fun hp => by
        cases n with
        | zero => cases he
        | succ n =>
          unfold evF at he
          rw [hp] at he
          cases he
      have hV := hVM mi hP0
      obtain ⟨w1, w2, w3, w4, w5, w6, w7, w8, w9⟩ := id hV
      refine MetX.ofW (cc := (mt mi).2.1) (maxL := (mt mi).2.2.1) (ret := (mt mi).2.2.2) (hs := (Hn mi).map (fun q => (q.1, q.2.1, q.2.2.1, ct q.2.2.2))) w1 w3 ?_
      intro p e s m args below meth c s₁ B hml hex hv
      obtain ⟨rfl, hOK, hk2⟩ := hv
      have hx := B.exec
      have hb := B.bytes
      have hr := B.returns
      have hts := atoms_spec (ws := Ts) B.pre
      have hown : s.vm.findClass (mt mi).1.cls = some m.cls := findClass_of_methodNamed B.named
      have hlocks := B.notSynchronized
      have hin : meth.name = (mt mi).1.name := (name_of_methodNamed B.named B.method).1
      have hl := lv_entry (as.map (mT ad)) (n := (mt mi).2.2.1) (by rw [lg_sl_T, ← w5]; exact hlen)
      rw [lg_entry_eq]
      generalize (lg_sl (as.map (mT ad)) ++ List.replicate ((mt mi).2.2.1 - (lg_sl (as.map (mT ad))).length) Slot.unset).toArray = ls at hl ⊢
      rw [lv_args_T] at hl
      have hcm := fun ce as h o h' => evM_mono (k0 := k0) (dflt := dflt) (P := P) (Hn := Hn) (mx := mx) d n ce as h o h'
      have hcx := fun ce as h x a h' => evM_thrown (k0 := k0) (dflt := dflt) (P := P) (Hn := Hn) (mx := mx) d n ce as h x a h'
      have hcv : ∀ ce as h r, evM k0 dflt P Hn mx d n ce as h = some r → mVM cl zs Ts dflt strs ncs EX ct P Hn mx mt ce := fun ce as h r hr => by
        refine hVM ce (fun hp => ?_)
        cases d with
        | zero => cases hr
        | succ d =>
          unfold evM at hr
          split at hr
          · cases n with
            | zero => cases hr
            | succ n =>
              unfold evF at hr
              rw [hp] at hr
              cases hr
          · cases hr
      exact mRun (R := { frames := d + 1, cells := h'.length - h.length, slots := mSls h' - mSls h, locals := 39 * (d + 1) }) (dp := d + 1) (mc := h'.length - h.length) (ms := mSls h' - mSls h) had hx hV hcv (fun ce as h o' h' hc => IH ce as h o' h' hc) hcm hcx (by omega) (Nat.le_refl _) (Nat.le_refl _) (Nat.le_refl _) (Nat.le_refl _) hct hb hml hex hown hts hwarm hin hk2 hOK.2.2.2.2
        (fun pc en st v H locs ls q1 q2 q3 q4 q5 => mMet_ret hx hb hr hlocks (w7 pc en q1).1 (w7 pc en q1).2.2.1 q2 q3 q4 q5)
        (fun pc x a st H locs ls q1 q2 q3 q4 => WT.leave (fun y hy => by
          rw [q1] at hex
          have : c.exceptionTable.toList = [] := by simpa using hex
          rw [this] at hy
          cases hy) hlocks (fun t ht hW => mQc_of (by rw [q2]; rfl) q3 q4 ht hW) q4.2.2)
        (fun pc en x h1 H locs ls cells slots q1 q2 q3 q4 q5 q6 q7 q8 q9 q10 => by
          have hn0 : Hn mi = [] := by
            cases hh : Hn mi with
            | nil => rfl
            | cons a b =>
              have := w9 (by rw [hh]; exact List.cons_ne_nil _ _) pc en q1
              rw [q2] at this
              cases this
          have hex0 : c.exceptionTable.toList = [] := by
            rw [hn0] at hex
            simpa using hex
          have hk := mMet_throw (R := { frames := d + 1, cells := h'.length - h.length, slots := mSls h' - mSls h, locals := 39 * (d + 1) }) (below := below) (e := e) hnt had hx hb (by rw [hml, q8]) hlocks (w7 pc en q1).1 (w7 pc en q1).2.2.2.2 q2 hex0 hown hts hwarm hk2 hz1 hz2 q6 q7 (by show cells + 1 ≤ h'.length - h.length; omega) (by show slots + 6 ≤ mSls h' - mSls h; omega) (by show 7 ≤ d + 1; exact q3) (by show 100 ≤ 39 * (d + 1); omega)
          rw [← q4, ← q5, q9, q10] at hk
          exact hk)
        n 0 (lv_args 0 as) [] h s.heap [] 0 0 ls he hOK va_S.rf hl (by omega) (by omega)
    · cases he
end MM
end
section
/-! THE TABLES CHECKED BY PROGRAM -/
/-- words that stay true as the tables warm -/
def mGw (w : Cond) : Bool := goodWord w || match w with
  | .fieldLinkNest .. => true
  | .methodLinkNest .. => true
  | .castable .. => true
  | .declares _ => true
  | _ => false
theorem mGw_ok {w : Cond} (h : mGw w = true) : mWarm w := by
  intro args a' s U hW hb
  cases hg : goodWord w with
  | true => exact word_at hW (good_of_word hg) hb
  | false =>
    unfold mGw at h
    rw [hg, Bool.false_or] at h
    split at h
    · exact va_Nw.use rfl (va_Nw.warmF hW (va_Nw.of rfl hb))
    · exact va_Nw.use rfl (va_Nw.warmM hW (va_Nw.of rfl hb))
    · exact va_Nw.use rfl (va_Nw.warmC hW (va_Nw.of rfl hb))
    · exact va_Nw.use rfl (va_Nw.warmD hW (va_Nw.of rfl hb))
    · cases h
abbrev mTs' (tb : List Cond) : List Cond := tb.filter mGw
/-- a quick look before two words are compared -/
def kPre (v w : Cond) : Bool := match v with
  | .methodLink _ i _ => (match w with
    | .methodLink _ j _ => Nat.beq i j
    | _ => false)
  | .fieldLink _ i _ _ _ => (match w with
    | .fieldLink _ j _ _ _ => Nat.beq i j
    | _ => false)
  | .fieldLinkNest _ i _ _ _ _ => (match w with
    | .fieldLinkNest _ j _ _ _ _ => Nat.beq i j
    | _ => false)
  | .methodLinkNest _ i _ _ => (match w with
    | .methodLinkNest _ j _ _ => Nat.beq i j
    | _ => false)
  | .constantLong _ i _ => (match w with
    | .constantLong _ j _ => Nat.beq i j
    | _ => false)
  | .constant _ i _ => (match w with
    | .constant _ j _ => Nat.beq i j
    | _ => false)
  | .classLink _ i _ => (match w with
    | .classLink _ j _ => Nat.beq i j
    | _ => false)
  | .stringRef _ i _ => (match w with
    | .stringRef _ j _ => Nat.beq i j
    | _ => false)
  | .code x _ i _ => (match w with
    | .code y _ j _ => Nat.beq i j && (decide (x.name = y.name) && decide (x.desc = y.desc))
    | _ => false)
  | .instanceMethod x => (match w with
    | .instanceMethod y => decide (x.name = y.name)
    | _ => false)
  | .static x => (match w with
    | .static y => decide (x.name = y.name)
    | _ => false)
  | .privateMethod x => (match w with
    | .privateMethod y => decide (x.name = y.name)
    | _ => false)
  | .selects _ x _ => (match w with
    | .selects _ y _ => decide (x.name = y.name)
    | _ => false)
  | .soleField .. => (match w with
    | .soleField .. => true
    | _ => false)
  | .lays _ _ n _ => (match w with
    | .lays _ _ k _ => decide (n = k)
    | _ => false)
  | .laysFinal _ _ n _ => (match w with
    | .laysFinal _ _ k _ => decide (n = k)
    | _ => false)
  | .laysStatic _ n _ => (match w with
    | .laysStatic _ k _ => decide (n = k)
    | _ => false)
  | _ => true
def kM (tb : List Cond) (w : Cond) : Bool := mGw w && tb.any (fun v => kPre v w && decide (v = w))
theorem kM_ok {tb : List Cond} {w : Cond} (h : kM tb w = true) : w ∈ mTs' tb := by
  unfold kM at h
  rw [Bool.and_eq_true] at h
  obtain ⟨v, hv, h1⟩ := List.any_eq_true.mp h.2
  rw [Bool.and_eq_true, decide_eq_true_eq] at h1
  rw [← h1.2]
  exact List.mem_filter.mpr ⟨hv, by rw [h1.2]; exact h.1⟩
def kTy (T : u_T) (k : Nat) : FieldType := (parseFieldDescriptor (T k).2.2.1).getD .int
/-- a class's table -/
def kCl (S : Cond → Bool) (q : vw_C) : Bool := (u_ws q.1 q.2.1 q.2.2).all (S) && (List.range q.2.2).all (fun k => (parseFieldDescriptor (q.2.1 k).2.2.1).isSome) && (List.range q.2.2).all (fun a => (List.range q.2.2).all (fun b => a == b || (q.2.1 a).2.1 != (q.2.1 b).2.1))
theorem kCl_ok {S : Cond → Bool} {Ts : List Cond} (hS : ∀ w, S w = true → w ∈ Ts) {C : String} {T : u_T} {N : Nat} (h : kCl S (C, T, N) = true) : (∀ w ∈ u_ws C T N, w ∈ Ts) ∧ (∀ k, k < N → parseFieldDescriptor (T k).2.2.1 = some (kTy T k)) ∧ ∀ a, a < N → ∀ b, b < N → a ≠ b → (T a).2.1 ≠ (T b).2.1 := by
  unfold kCl at h
  rw [Bool.and_eq_true, Bool.and_eq_true] at h
  obtain ⟨⟨h1, h2⟩, h3⟩ := h
  refine ⟨fun w hw => (hS _) (List.all_eq_true.mp h1 w hw), fun k hk => ?_, fun a ha b hb hab => ?_⟩
  · have := List.all_eq_true.mp h2 k (List.mem_range.mpr hk)
    dsimp only at this
    unfold kTy
    cases hp : parseFieldDescriptor (T k).2.2.1 with
    | none => rw [hp] at this; cases this
    | some t => rfl
  · have := List.all_eq_true.mp (List.all_eq_true.mp h3 a (List.mem_range.mpr ha)) b (List.mem_range.mpr hb)
    dsimp only at this
    rw [Bool.or_eq_true] at this
    rcases this with h4 | h4
    · exact absurd (by simpa using h4) hab
    · simpa using h4
def kLk (S : Cond → Bool) (own : String) (ix : Nat) (f : String × String × String × Bool) : Bool := S (.fieldLink own ix f.1 f.2.1 f.2.2.1) || S (.fieldLinkNest own ix f.1 f.2.1 f.2.2.1 "MixMachine")
theorem kLk_ok {S : Cond → Bool} {Ts : List Cond} (hS : ∀ w, S w = true → w ∈ Ts) {own : String} {ix : Nat} {f : String × String × String × Bool} (h : kLk S own ix f = true) : Cond.fieldLink own ix f.1 f.2.1 f.2.2.1 ∈ Ts ∨ ∃ host, Cond.fieldLinkNest own ix f.1 f.2.1 f.2.2.1 host ∈ Ts := by
  unfold kLk at h
  rw [Bool.or_eq_true] at h
  exact h.imp (hS _) (fun h => ⟨_, (hS _) h⟩)
def kG (S : Cond → Bool) (own : String) (cl : List vw_C) (zs : List (String × String × String × Value)) (i : Instr) (o1 o2 : Nat) (v : Value) : Bool := match i with
  | .getfield ix => match cl[o1]? with
    | some q => decide (o2 < q.2.2) && kLk S own ix (q.2.1 o2)
    | none => match (mKc o1).2[o2]? with
      | some q => S (.fieldLink own ix q.1 q.2.1 q.2.2) || S (.fieldLinkNest own ix q.1 q.2.1 q.2.2 "MixMachine")
      | none => false
  | .getstatic ix => zs.any (fun z => decide (z.2.2.2 = v) && (S (.fieldLink own ix z.1 z.2.1 z.2.2.1) || S (.fieldLinkNest own ix z.1 z.2.1 z.2.2.1 "MixMachine")))
  | .ldc ix => match v with
    | .int x => S (.constant own ix x)
    | .ref q => decide (own = mRN.1) && (decide (ix = mRN.2.1) && decide (q = mRN.2.2.2))
    | _ => false
  | .ldc_w ix => match v with
    | .int x => S (.constant own ix x)
    | _ => false
  | .ldc2_w ix => match v with
    | .long x => S (.constantLong own ix x)
    | _ => false
  | _ => true
theorem kG_ok {S : Cond → Bool} {Ts : List Cond} (hS : ∀ w, S w = true → w ∈ Ts) {own : String} {cl : List vw_C} {zs zv : List (String × String × String × Value)} {i : Instr} {o1 o2 : Nat} {v : Value} {S0 : Cond → Bool} (hS0 : ∀ w, S0 w = true → w ∈ Ts) (hcl : ∀ q ∈ cl, kCl S0 q = true) (h : kG S own cl zs i o1 o2 v = true) : mVg own cl (zs ++ zv) Ts i o1 o2 v := by
  cases i <;> simp only [kG, mVg] at h ⊢
  case getfield ix =>
    split at h
    · rename_i q hq
      obtain ⟨C, T, N⟩ := q
      rw [Bool.and_eq_true, decide_eq_true_eq] at h
      exact Or.inl ⟨C, T, N, hq, h.1, (kCl_ok hS0 (hcl _ (List.mem_of_getElem? hq))).1, kLk_ok hS h.2⟩
    · rename_i hq
      split at h
      · rename_i q hq2
        rw [Bool.or_eq_true] at h
        exact Or.inr ⟨hq, q, hq2, h.imp (hS _) (fun h => ⟨_, (hS _) h⟩)⟩
      · cases h
  case getstatic ix =>
    obtain ⟨z, hz, h1⟩ := List.any_eq_true.mp h
    rw [Bool.and_eq_true, decide_eq_true_eq] at h1
    obtain ⟨C, n, d, w⟩ := z
    obtain ⟨rfl, h2⟩ := h1
    rw [Bool.or_eq_true] at h2
    exact ⟨C, n, d, List.mem_append_left _ hz, h2.imp (hS _) (fun h => ⟨_, (hS _) h⟩)⟩
  case ldc ix =>
    split at h
    · exact Or.inl ⟨_, rfl, (hS _) h⟩
    · rw [Bool.and_eq_true, Bool.and_eq_true, decide_eq_true_eq, decide_eq_true_eq, decide_eq_true_eq] at h
      exact Or.inr ⟨h.1, h.2.1, by rw [h.2.2]⟩
    · cases h
  case ldc_w ix =>
    split at h
    · exact ⟨_, rfl, (hS _) h⟩
    · cases h
  case ldc2_w ix =>
    split at h
    · exact ⟨_, rfl, (hS _) h⟩
    · cases h
def kP (S : Cond → Bool) (own : String) (cl : List vw_C) (isI : Bool) (i : Instr) (o1 o2 o3 : Nat) : Bool := match i with
  | .putfield ix => match cl[o1]? with
    | some q => decide (o2 < q.2.2) && (mFk o3 (kTy q.2.1 o2) && (match (q.2.1 o2).2.2.2 with
      | false => kLk S own ix (q.2.1 o2)
      | true => isI && (decide ((q.2.1 o2).1 = own) && S (.fieldLink own ix (q.2.1 o2).1 (q.2.1 o2).2.1 (q.2.1 o2).2.2.1))))
    | none => false
  | _ => true
theorem kP_ok {S : Cond → Bool} {Ts : List Cond} (hS : ∀ w, S w = true → w ∈ Ts) {own : String} {cl : List vw_C} {isI : Bool} {i : Instr} {o1 o2 o3 : Nat} {S0 : Cond → Bool} (hS0 : ∀ w, S0 w = true → w ∈ Ts) (hcl : ∀ q ∈ cl, kCl S0 q = true) (h : kP S own cl isI i o1 o2 o3 = true) : mVp own cl Ts isI i o1 o2 o3 := by
  cases i <;> simp only [kP, mVp] at h ⊢
  case putfield ix =>
    split at h
    · rename_i q hq
      obtain ⟨C, T, N⟩ := q
      rw [Bool.and_eq_true, Bool.and_eq_true, decide_eq_true_eq] at h
      obtain ⟨h1, h2, h3⟩ := h
      obtain ⟨k1, k2, k3⟩ := kCl_ok hS0 (hcl _ (List.mem_of_getElem? hq))
      refine ⟨C, T, N, kTy T, hq, h1, k1, k2, k3, h2, ?_⟩
      dsimp only at h3
      split at h3
      · rename_i hf
        exact Or.inl ⟨hf, kLk_ok hS h3⟩
      · rename_i hf
        rw [Bool.and_eq_true, Bool.and_eq_true, decide_eq_true_eq] at h3
        exact Or.inr ⟨hf, h3.1, h3.2.1, (hS _) h3.2.2⟩
    · cases h
def kN (S : Cond → Bool) (own : String) (cl : List vw_C) (dflt : Nat → List Value) (i : Instr) (o1 o3 : Nat) : Bool := match i with
  | .newarray t => S (.arrayClass (newarray.typeOf t))
  | .new ix => o3 != 0 || match cl[o1]? with
    | some q => S (.classLink own ix q.1) && (S (.instantiable q.1 q.2.2) && (S (.initialized q.1) && decide (dflt o1 = (List.range q.2.2).map (fun k => defaultValue (kTy q.2.1 k)))))
    | none => false
  | _ => true
theorem kN_ok {S : Cond → Bool} {Ts : List Cond} (hS : ∀ w, S w = true → w ∈ Ts) {own : String} {cl : List vw_C} {dflt : Nat → List Value} {i : Instr} {o1 o3 : Nat} {S0 : Cond → Bool} (hS0 : ∀ w, S0 w = true → w ∈ Ts) (hcl : ∀ q ∈ cl, kCl S0 q = true) (h : kN S own cl dflt i o1 o3 = true) : (o3 = 0 ∨ mNw i = false) → mVn own cl Ts dflt i o1 := by
  intro h0
  cases i <;> simp only [kN, mVn] at h ⊢
  case newarray t => exact (hS _) h
  case new ix =>
    have h0 : o3 = 0 := h0.elim id (fun q => by cases q)
    subst h0
    have h : (match cl[o1]? with
      | some q => S (.classLink own ix q.1) && (S (.instantiable q.1 q.2.2) && (S (.initialized q.1) && decide (dflt o1 = (List.range q.2.2).map (fun k => defaultValue (kTy q.2.1 k)))))
      | none => false) = true := by simpa using h
    split at h
    · rename_i q hq
      obtain ⟨C, T, N⟩ := q
      rw [Bool.and_eq_true, Bool.and_eq_true, Bool.and_eq_true, decide_eq_true_eq] at h
      obtain ⟨h1, h2, h3, h4⟩ := h
      obtain ⟨k1, k2, k3⟩ := kCl_ok hS0 (hcl _ (List.mem_of_getElem? hq))
      refine ⟨C, T, N, kTy T, hq, k1, k2, (hS _) h1, (hS _) h2, (hS _) h3, by rw [h4]; simp, fun j hj => ?_⟩
      rw [h4, List.getElem?_map, List.getElem?_range hj]
      rfl
    · cases h
def kX1 (S : Cond → Bool) (own : String) (i : Instr) : Bool := match i with
  | .invokespecial ix => S (.methodLink own ix Lib.objectInit) && (S (.instanceMethod Lib.objectInit) && S (.code Lib.objectInit ⟨#[0xb1]⟩ 1 none))
  | .new _ => true
  | _ => false
def kX2 (S : Cond → Bool) (own : String) (y : MethodName) (cd : ByteArray) (i : Instr) : Bool := match i with
  | .invokestatic ix => S (.methodLink own ix y) && (S (.static y) && (S (.initialized "java/lang/Math") && S (.code y cd 2 (some .int))))
  | _ => false
def kX4 (S : Cond → Bool) (own : String) (i : Instr) : Bool := match i with
  | .invokestatic ix => S (.methodLink own ix arraycopyName) && (S (.native arraycopyName) && (S (.static arraycopyName) && S (.initialized "java/lang/System")))
  | .new _ => true
  | _ => false
theorem kX4_ok {S : Cond → Bool} {Ts : List Cond} (hS : ∀ w, S w = true → w ∈ Ts) {own : String} {i : Instr} (h : kX4 S own i = true) (hn : mNw i = false) : mVy own Ts i := by
  cases i <;> simp only [kX4, reduceCtorEq] at h
  case invokestatic ix =>
    simp only [Bool.and_eq_true] at h
    exact ⟨_, rfl, (hS _) h.1, (hS _) h.2.1, (hS _) h.2.2.1, (hS _) h.2.2.2⟩
  case new ix => cases hn
def kX (S : Cond → Bool) (own : String) (i : Instr) (o3 : Nat) : Bool := match o3 with
  | 1 => kX1 S own i
  | 2 => kX2 S own Lib.Math.min.name Lib.Math.min.code i
  | 3 => kX2 S own Lib.Math.max.name Lib.Math.max.code i
  | 4 => kX4 S own i
  | 5 => kX4 S own i
  | _ => true
theorem kX2_ok {S : Cond → Bool} {Ts : List Cond} (hS : ∀ w, S w = true → w ∈ Ts) {own : String} {y : MethodName} {cd : ByteArray} {i : Instr} (h : kX2 S own y cd i = true) : ∃ ix, i = .invokestatic ix ∧ Cond.methodLink own ix y ∈ Ts ∧ Cond.static y ∈ Ts ∧ Cond.initialized "java/lang/Math" ∈ Ts ∧ Cond.code y cd 2 (some .int) ∈ Ts := by
  cases i <;> simp only [kX2, reduceCtorEq] at h
  case invokestatic ix =>
    simp only [Bool.and_eq_true] at h
    exact ⟨_, rfl, (hS _) h.1, (hS _) h.2.1, (hS _) h.2.2.1, (hS _) h.2.2.2⟩
theorem kX_ok {S : Cond → Bool} {Ts : List Cond} (hS : ∀ w, S w = true → w ∈ Ts) {own : String} {i : Instr} {o3 : Nat} (h : kX S own i o3 = true) (hn : mNw i = false) : mVx own Ts i o3 := by
  by_cases h1 : o3 = 1
  · subst h1
    have h2 : kX1 S own i = true := h
    cases i <;> simp only [kX1, reduceCtorEq] at h2
    case invokespecial ix =>
      rw [Bool.and_eq_true, Bool.and_eq_true] at h2
      exact ⟨_, rfl, (hS _) h2.1, (hS _) h2.2.1, (hS _) h2.2.2⟩
    case new ix => cases hn
  · by_cases h2 : o3 = 2
    · subst h2
      exact kX2_ok hS h
    · by_cases h3 : o3 = 3
      · subst h3
        exact kX2_ok hS h
      · by_cases h4 : o3 = 4
        · subst h4
          exact kX4_ok hS h hn
        · by_cases h5 : o3 = 5
          · subst h5
            exact kX4_ok hS h hn
          · unfold mVx
            split
            · exact absurd rfl h1
            · exact absurd rfl h2
            · exact absurd rfl h3
            · exact absurd rfl h4
            · exact absurd rfl h5
            · trivial
def kD (nL : Nat) (i : Instr) (o1 : Nat) : Bool := match i with
  | .istore _ => o1 == nL
  | .istore_n _ => o1 == nL
  | .lstore _ => o1 == nL
  | .lstore_n _ => o1 == nL
  | .astore _ => o1 == nL
  | .astore_n _ => o1 == nL
  | .iinc _ _ => o1 == nL
  | _ => true
theorem kD_ok {nL : Nat} {i : Instr} {o1 : Nat} (h : kD nL i o1 = true) : mVd nL i o1 := by
  cases i <;> simp only [kD, mVd] at h ⊢ <;> simpa using h
def kR (rt : Option FieldType) (i : Instr) (o1 : Nat) : Bool := match i with
  | .ireturn => match o1 with
    | 0 => decide (rt = some .int)
    | 1 => decide (rt = some .boolean)
    | 2 => decide (rt = some .char)
    | 3 => decide (rt = some .byte)
    | _ => true
  | .lreturn => decide (rt = some .long)
  | .areturn => match rt with
    | some (.object _) => true
    | some (.array _) => true
    | _ => false
  | .return_ => decide (rt = none)
  | _ => true
theorem kR_ok {rt : Option FieldType} {i : Instr} {o1 : Nat} (h : kR rt i o1 = true) : mVr rt i o1 := by
  cases i <;> simp only [kR, mVr] at h ⊢
  case ireturn =>
    split at h
    · exact ⟨fun _ => of_decide_eq_true h, fun q => (by cases q), fun q => (by cases q), fun q => (by cases q)⟩
    · exact ⟨fun q => (by cases q), fun _ => of_decide_eq_true h, fun q => (by cases q), fun q => (by cases q)⟩
    · exact ⟨fun q => (by cases q), fun q => (by cases q), fun _ => of_decide_eq_true h, fun q => (by cases q)⟩
    · exact ⟨fun q => (by cases q), fun q => (by cases q), fun q => (by cases q), fun _ => of_decide_eq_true h⟩
    · rename_i h0 h1 h2 h3
      exact ⟨fun q => absurd q h0, fun q => absurd q h1, fun q => absurd q h2, fun q => absurd q h3⟩
  case lreturn => exact of_decide_eq_true h
  case areturn =>
    split at h
    · exact Or.inl ⟨_, rfl⟩
    · exact Or.inr ⟨_, rfl⟩
    · cases h
  case return_ => exact of_decide_eq_true h
def kLm (S : Cond → Bool) (own : String) (ix : Nat) (y : MethodName) : Bool := S (.methodLink own ix y) || S (.methodLinkNest own ix y "MixMachine")
theorem kLm_ok {S : Cond → Bool} {Ts : List Cond} (hS : ∀ w, S w = true → w ∈ Ts) {own : String} {ix : Nat} {y : MethodName} (h : kLm S own ix y = true) : Cond.methodLink own ix y ∈ Ts ∨ ∃ host, Cond.methodLinkNest own ix y host ∈ Ts := by
  unfold kLm at h
  rw [Bool.or_eq_true] at h
  exact h.imp (hS _) (fun h => ⟨_, (hS _) h⟩)
def kPn (y : MethodName) : Option Nat := (parseMethodDescriptor y.desc).map (fun d => d.parameters.length)
def kC (S : Cond → Bool) (own : String) (cl : List vw_C) (mt : Nat → mMt) (Hn : Nat → List (Nat × Nat × Nat × Nat)) (en : mI) : Bool := en.2.2.2.1 != 0 || match en.1 with
  | .invokevirtual ix => kLm S own ix (mt en.2.1).1 && (S (.instanceMethod (mt en.2.1).1) && (S (.selects (mt en.2.1).1.cls (mt en.2.1).1 (mt en.2.1).1) && (decide (kPn (mt en.2.1).1 = some (en.2.2.1 - 1)) && (decide (1 ≤ en.2.2.1) && (match en.2.2.2.2 with
    | .retAddr k => (match cl[k]? with
      | some q => decide (q.1 = (mt en.2.1).1.cls)
      | none => decide ((mKc k).1 = (mt en.2.1).1.cls))
    | _ => true)))))
  | .invokestatic ix => kLm S own ix (mt en.2.1).1 && (S (.static (mt en.2.1).1) && decide (kPn (mt en.2.1).1 = some en.2.2.1))
  | .invokespecial ix => decide ((mt en.2.1).1.name = "<init>") && (S (.methodLink own ix (mt en.2.1).1) && (S (.instanceMethod (mt en.2.1).1) && ((Hn en.2.1).isEmpty && (decide ((mt en.2.1).2.2.2 = none) && (decide (kPn (mt en.2.1).1 = some (en.2.2.1 - 1)) && decide (1 ≤ en.2.2.1))))))
  | _ => true
theorem kC_ok {S : Cond → Bool} {Ts : List Cond} (hS : ∀ w, S w = true → w ∈ Ts) {own : String} {cl : List vw_C} {mt : Nat → mMt} {Hn : Nat → List (Nat × Nat × Nat × Nat)} {en : mI} (h : kC S own cl mt Hn en = true) : mVc own cl Ts mt Hn en := by
  intro h0
  unfold kC at h
  rw [h0] at h
  have h1 : ((0 : Nat) != 0) = false := rfl
  rw [h1, Bool.false_or] at h
  obtain ⟨i, o1, o2, o3, v⟩ := en
  dsimp only at *
  cases i <;> simp only at h ⊢
  case invokevirtual ix =>
    simp only [Bool.and_eq_true, decide_eq_true_eq] at h
    obtain ⟨a1, a2, a3, a4, a5, a6⟩ := h
    refine ⟨kLm_ok hS a1, (hS _) a2, (hS _) a3, a4, a5, fun k hk => ?_⟩
    subst hk
    dsimp only at a6
    split at a6
    · rename_i q hq
      obtain ⟨C, T, N⟩ := q
      have a6 : C = (mt o1).1.cls := of_decide_eq_true a6
      exact Or.inl ⟨T, N, by rw [hq, a6]⟩
    · rename_i hq
      exact Or.inr ⟨hq, of_decide_eq_true a6⟩
  case invokestatic ix =>
    simp only [Bool.and_eq_true, decide_eq_true_eq] at h
    exact ⟨kLm_ok hS h.1, (hS _) h.2.1, h.2.2⟩
  case invokespecial ix =>
    simp only [Bool.and_eq_true, decide_eq_true_eq] at h
    obtain ⟨a1, a2, a3, a4, a5, a6, a7⟩ := h
    exact ⟨a1, (hS _) a2, (hS _) a3, by simpa using a4, a5, a6, a7⟩
/-- the words of a throw, but for its own call; xk: its constructor's link and code -/
def kOwnL (X : String) (xk : Nat × ByteArray) : List Cond := Bundle.throwableAtoms ++ Bundle.throwableSAtoms ++ Bundle.chainSAtomsX X xk.1 xk.2 ["java/lang/RuntimeException", "java/lang/Exception"] ++ (Bundle.ownAtomsX "" 0 X xk.1 xk.2 []).drop (Bundle.throwableAtoms.length + Bundle.throwableSAtoms.length + (Bundle.chainSAtomsX X xk.1 xk.2 []).length + 1)
theorem kOwn_split {own X : String} {xk : Nat × ByteArray} {ic : Nat} {a : Cond} (h : a ∈ Bundle.ownAtomsX own ic X xk.1 xk.2 ["java/lang/RuntimeException", "java/lang/Exception"]) : a = .methodLink own ic (Bundle.initS X) ∨ a ∈ kOwnL X xk := by
  have drp : ∀ (A B : List Cond) (x : Cond), (A ++ x :: B).drop (A.length + 1) = B := fun A B x => by
    rw [List.drop_append, List.drop_eq_nil_of_le (by omega), List.nil_append, show A.length + 1 - A.length = 1 by omega]
    rfl
  have e1 : (Bundle.ownAtomsX "" 0 X xk.1 xk.2 []).drop (Bundle.throwableAtoms.length + Bundle.throwableSAtoms.length + (Bundle.chainSAtomsX X xk.1 xk.2 []).length + 1) = (Bundle.ownAtomsX own ic X xk.1 xk.2 ["java/lang/RuntimeException", "java/lang/Exception"]).drop (Bundle.throwableAtoms.length + Bundle.throwableSAtoms.length + (Bundle.chainSAtomsX X xk.1 xk.2 ["java/lang/RuntimeException", "java/lang/Exception"]).length + 1) := by
    unfold Bundle.ownAtomsX
    rw [← List.length_append, ← List.length_append, ← List.length_append, drp, drp]
  have e2 : Bundle.ownAtomsX own ic X xk.1 xk.2 ["java/lang/RuntimeException", "java/lang/Exception"] = (Bundle.throwableAtoms ++ Bundle.throwableSAtoms ++ Bundle.chainSAtomsX X xk.1 xk.2 ["java/lang/RuntimeException", "java/lang/Exception"]) ++ .methodLink own ic (Bundle.initS X) :: (Bundle.ownAtomsX own ic X xk.1 xk.2 ["java/lang/RuntimeException", "java/lang/Exception"]).drop (Bundle.throwableAtoms.length + Bundle.throwableSAtoms.length + (Bundle.chainSAtomsX X xk.1 xk.2 ["java/lang/RuntimeException", "java/lang/Exception"]).length + 1) := by
    unfold Bundle.ownAtomsX
    rw [← List.length_append, ← List.length_append, drp]
  rw [e2, List.mem_append, List.mem_cons] at h
  unfold kOwnL
  rw [e1]
  rcases h with h | h | h
  · exact Or.inr (List.mem_append_left _ h)
  · exact Or.inl h
  · exact Or.inr (List.mem_append_right _ h)
/-- the text of a throw, by ldc or by ldc_w -/
def kLd (cc : ByteArray) (pc : Nat) (en : mI) : Bool := match en.2.2.2.2 with
  | .retAddr _ => decide (decode cc (pc + 4) = .ok (.ldc_w en.2.1, 3)) && (decide (decode cc (pc + 4 + 3) = .ok (.invokespecial en.2.2.1, 3)) && decide (decode cc (pc + 4 + 3 + 3) = .ok (.athrow, 1)))
  | _ => decide (decode cc (pc + 4) = .ok (.ldc en.2.1, 2)) && (decide (decode cc (pc + 4 + 2) = .ok (.invokespecial en.2.2.1, 3)) && decide (decode cc (pc + 4 + 2 + 3) = .ok (.athrow, 1)))
theorem kLd_ok {cc : ByteArray} {pc : Nat} {en : mI} (h : kLd cc pc en = true) : ∃ kl, (decode cc (pc + 4) = .ok (.ldc en.2.1, 2) ∧ kl = 2 ∨ decode cc (pc + 4) = .ok (.ldc_w en.2.1, 3) ∧ kl = 3) ∧ decode cc (pc + 4 + kl) = .ok (.invokespecial en.2.2.1, 3) ∧ decode cc (pc + 4 + kl + 3) = .ok (.athrow, 1) := by
  unfold kLd at h
  split at h
  · simp only [Bool.and_eq_true, decide_eq_true_eq] at h
    exact ⟨3, Or.inr ⟨h.1, rfl⟩, h.2.1, h.2.2⟩
  · simp only [Bool.and_eq_true, decide_eq_true_eq] at h
    exact ⟨2, Or.inl ⟨h.1, rfl⟩, h.2.1, h.2.2⟩
/-- a throw: o1 its text's place, o2 its constructor's -/
def kT (S : Cond → Bool) (own : String) (cl : List vw_C) (strs : List (String × Nat × String)) (EX : Nat → String) (cc : ByteArray) (pc : Nat) (en : mI) : Bool := match mTh en with
  | none => true
  | some x => match en.1 with
    | .new ix => decide (decode cc (pc + 3) = .ok (.dup, 1)) && (kLd cc pc en && (S (.classLink own ix (EX x)) && (S (.instantiable (EX x) 6) && (S (.initialized (EX x)) && (strs.any (fun q => decide (q.1 = own) && decide (q.2.1 = en.2.1)) && (Bundle.fit (EX x) && (S (.methodLink own en.2.2.1 (Bundle.initS (EX x))) && (match cl[mXc x]? with
      | some q => decide (q.1 = EX x) && decide (q.2.2 = 0)
      | none => false))))))))
    | _ => false
def kOwn (S : Cond → Bool) (X : String) (xk : Nat × ByteArray) : Bool := decide (mFour xk) && (kOwnL X xk).all (fun a => S a || (decide (a = mUnas ∨ a = mUnasL) || decide (a = mSent ∨ a = mSentL)))
theorem kT_ok {S : Cond → Bool} {Ts : List Cond} (hS : ∀ w, S w = true → w ∈ Ts) {own : String} {cl : List vw_C} {strs : List (String × Nat × String)} {EX : Nat → String} {cc : ByteArray} {pc : Nat} {en : mI} {S0 : Cond → Bool} (hS0 : ∀ w, S0 w = true → w ∈ Ts) (hO : ∀ x, ∃ xk, kOwn S0 (EX x) xk = true) (h : kT S own cl strs EX cc pc en = true) : mVt own cl Ts strs EX cc pc en := by
  intro x hx
  unfold kT at h
  rw [hx] at h
  dsimp only at h
  split at h
  · rename_i ix hi
    simp only [Bool.and_eq_true, decide_eq_true_eq] at h
    obtain ⟨a1, a2, a5, a6, a7, a8, a9, a10, a11⟩ := h
    obtain ⟨kl, a2, a3, a4⟩ := kLd_ok a2
    obtain ⟨q, hq, hq1⟩ := List.any_eq_true.mp a8
    rw [Bool.and_eq_true, decide_eq_true_eq, decide_eq_true_eq] at hq1
    obtain ⟨q1, q2, q3⟩ := q
    obtain ⟨rfl, hq2⟩ := hq1
    dsimp only at hq2
    subst hq2
    split at a11
    · rename_i r hr
      obtain ⟨C, T, N⟩ := r
      rw [Bool.and_eq_true, decide_eq_true_eq, decide_eq_true_eq] at a11
      obtain ⟨b1, b2⟩ := a11
      obtain ⟨xk, hxk⟩ := hO x
      unfold kOwn at hxk
      rw [Bool.and_eq_true, decide_eq_true_eq] at hxk
      refine ⟨ix, _, _, q3, T, xk, kl, hi, a1, a2, a3, a4, (hS _) a5, (hS _) a6, (hS _) a7, hq, a9, hxk.1, fun a ha => ?_, by rw [hr, ← b1, ← b2]⟩
      rcases kOwn_split ha with rfl | ha
      · exact Or.inl ((hS _) a10)
      · have := List.all_eq_true.mp hxk.2 a ha
        rw [Bool.or_eq_true, Bool.or_eq_true, decide_eq_true_eq, decide_eq_true_eq] at this
        exact this.imp (hS0 _) id
    · cases a11
  · cases h
/-- an entry -/
def kE (S : Cond → Bool) (cl : List vw_C) (zs : List (String × String × String × Value)) (dflt : Nat → List Value) (strs : List (String × Nat × String)) (EX : Nat → String) (Hn : Nat → List (Nat × Nat × Nat × Nat)) (mt : Nat → mMt) (mi pc : Nat) (en : mI) : Bool :=
  decide (decode (mt mi).2.1 pc = .ok (en.1, mLn en.1 en.2.1)) && (kD (mt mi).2.2.1 en.1 en.2.1 && (kG S (mt mi).1.cls cl zs en.1 en.2.1 en.2.2.1 en.2.2.2.2 && (kP S (mt mi).1.cls cl ((mt mi).1.name == "<init>") en.1 en.2.1 en.2.2.1 en.2.2.2.1 && (kN S (mt mi).1.cls cl dflt en.1 en.2.1 en.2.2.2.1 && ((!(mIv en.1) || kX S (mt mi).1.cls en.1 en.2.2.2.1) && (kR (mt mi).2.2.2 en.1 en.2.1 && (kC S (mt mi).1.cls cl mt Hn en && (kT S (mt mi).1.cls cl strs EX (mt mi).2.1 pc en && ((Hn mi).isEmpty || (mTh en).isNone)))))))))
/-- a method's code: an entry for each place, none between instructions -/
def kL (f : Nat → mI → Bool) : Nat → List (Option mI) → Bool
  | _, [] => true
  | pc, none :: r => kL f (pc + 1) r
  | pc, some e :: r => f pc e && kL f (pc + 1) r
theorem kL_ok {f : Nat → mI → Bool} : ∀ (r : List (Option mI)) (pc : Nat), kL f pc r = true → ∀ (i : Nat) (e : mI), r[i]? = some (some e) → f (pc + i) e = true
  | [], pc, _, i, e, hi => by simp at hi
  | none :: r, pc, h, 0, e, hi => by simp at hi
  | none :: r, pc, h, i + 1, e, hi => by
    have := kL_ok r (pc + 1) h i e (by simpa using hi)
    rwa [show pc + 1 + i = pc + (i + 1) by omega] at this
  | some x :: r, pc, h, 0, e, hi => by
    have hx : x = e := by simpa using hi
    subst hx
    unfold kL at h
    rw [Bool.and_eq_true] at h
    exact h.1
  | some x :: r, pc, h, i + 1, e, hi => by
    unfold kL at h
    rw [Bool.and_eq_true] at h
    have := kL_ok r (pc + 1) h.2 i e (by simpa using hi)
    rwa [show pc + 1 + i = pc + (i + 1) by omega] at this
def mP' (cods : Nat → List (Option mI)) (mi pc : Nat) : Option mI := match (cods mi)[pc]? with
  | some (some e) => some e
  | _ => none
/-- a method -/
def kVM (S : Cond → Bool) (cl : List vw_C) (zs : List (String × String × String × Value)) (dflt : Nat → List Value) (strs : List (String × Nat × String)) (ncs : List (Nat × Nat)) (EX : Nat → String) (ct : Nat → Nat) (cods : Nat → List (Option mI)) (Hn : Nat → List (Nat × Nat × Nat × Nat)) (mt : Nat → mMt) (mi : Nat) : Bool :=
  (plainName (mt mi).1.cls && (decide ((mt mi).1.cls ≠ "java/lang/invoke/MethodHandle") && (decide ((mt mi).1.cls ≠ "java/lang/invoke/VarHandle") && (S (mCW (mt mi).1 (mt mi).2.1 (mt mi).2.2.1 (mt mi).2.2.2 ((Hn mi).map (fun q => (q.1, q.2.1, q.2.2.1, ct q.2.2.2)))) && (S (.initialized (mt mi).1.cls) && decide ((mt mi).2.2.1 ≤ 20)))))) &&
  (kL (kE S cl zs dflt strs EX Hn mt mi) 0 (cods mi) && (Hn mi).all (fun q => S (.classLink (mt mi).1.cls (ct q.2.2.2) (EX q.2.2.2)) && (S (.castable (EX q.2.2.2) (EX q.2.2.2)) && ((match cl[mXc q.2.2.2]? with
    | some r => decide (r.1 = EX q.2.2.2)
    | none => false) && (Hn mi).all (fun r => decide (r.2.2.2 = q.2.2.2) || decide ((q.2.2.2, r.2.2.2) ∈ ncs))))))
set_option maxHeartbeats 2000000 in
theorem kVM_ok {S : Cond → Bool} {Ts : List Cond} (hS : ∀ w, S w = true → w ∈ Ts) {cl : List vw_C} {zs zv : List (String × String × String × Value)} {dflt : Nat → List Value} {strs : List (String × Nat × String)} {ncs : List (Nat × Nat)} {EX : Nat → String} {ct : Nat → Nat} {cods : Nat → List (Option mI)} {Hn : Nat → List (Nat × Nat × Nat × Nat)} {mt : Nat → mMt} {mi : Nat} {S0 : Cond → Bool} (hS0 : ∀ w, S0 w = true → w ∈ Ts) (hcl : ∀ q ∈ cl, kCl S0 q = true) (hO : ∀ x, ∃ xk, kOwn S0 (EX x) xk = true)
    (h : kVM S cl zs dflt strs ncs EX ct cods Hn mt mi = true) : mVM cl (zs ++ zv) Ts dflt strs ncs EX ct (mP' cods) Hn (fun i => (mt i).2.2.1) mt mi := by
  unfold kVM at h
  simp only [Bool.and_eq_true, decide_eq_true_eq] at h
  obtain ⟨⟨a1, a2, a3, a4, a5, a6⟩, b1, b2⟩ := h
  have key : ∀ pc en, mP' cods mi pc = some en → kE S cl zs dflt strs EX Hn mt mi pc en = true := fun pc en hen => by
    unfold mP' at hen
    split at hen
    · rename_i e he
      cases hen
      have := kL_ok _ 0 b1 pc en he
      rwa [Nat.zero_add] at this
    · cases hen
  refine ⟨a1, ⟨a2, a3⟩, (hS _) a4, (hS _) a5, rfl, a6, fun pc en hen => ?_, fun q hq => ?_, fun hne pc en hen => ?_⟩
  · have := key pc en hen
    unfold kE at this
    simp only [Bool.and_eq_true, decide_eq_true_eq] at this
    obtain ⟨c1, c2, c3, c4, c5, c6, c7, c8, c9, c10⟩ := this
    refine ⟨c1, ⟨kD_ok c2, kG_ok hS hS0 hcl c3, kP_ok hS hS0 hcl c4, kN_ok hS hS0 hcl c5, fun hnw => ?_⟩, kR_ok c7, kC_ok hS c8, kT_ok hS hS0 hO c9⟩
    rw [hnw] at c6
    exact kX_ok hS (by simpa using c6) (by cases hz : en.1 <;> rw [hz] at hnw <;> simp only [mIv, reduceCtorEq] at hnw <;> rfl)
  · have := List.all_eq_true.mp b2 q hq
    simp only [Bool.and_eq_true] at this
    obtain ⟨d1, d2, d3, d4⟩ := this
    refine ⟨(hS _) d1, (hS _) d2, ?_, fun r hr hne => ?_⟩
    · split at d3
      · rename_i r hr
        obtain ⟨C, T, N⟩ := r
        have d3 : C = EX q.2.2.2 := of_decide_eq_true d3
        exact ⟨T, N, by rw [hr, d3]⟩
      · cases d3
    · have := List.all_eq_true.mp d4 r hr
      rw [Bool.or_eq_true, decide_eq_true_eq, decide_eq_true_eq] at this
      exact this.elim (fun q => absurd q hne) id
  · have := key pc en hen
    unfold kE at this
    simp only [Bool.and_eq_true, decide_eq_true_eq] at this
    obtain ⟨c1, c2, c3, c4, c5, c6, c7, c8, c9, c10⟩ := this
    rw [Bool.or_eq_true] at c10
    rcases c10 with h1 | h1
    · exact absurd (by simpa using h1) hne
    · simpa using h1
end
section
-- ===== PART A: goes FIRST, ahead of the names: the tables' words, and 'selects' of the private methods out of them =====
/-- a private method of a class that the tables say can be made, by its rows of tables_1 -/
def lw_okq (q : MethodName × Nat) : Prop := (q.1.cls ≠ "java/lang/invoke/MethodHandle" ∧ q.1.cls ≠ "java/lang/invoke/VarHandle") ∧ Cond.instantiable q.1.cls q.2 ∈ tables_1 ∧ Cond.privateMethod q.1 ∈ tables_1 ∧ Cond.instanceMethod q.1 ∈ tables_1
theorem lw_p0 : lw_okq (⟨"java/lang/Throwable", "fillInStackTrace", "(I)Ljava/lang/Throwable;"⟩, 6) := ⟨⟨by decide +kernel, by decide +kernel⟩, List.mem_of_getElem? (i := 367) (by decide +kernel), List.mem_of_getElem? (i := 365) (by decide +kernel), List.mem_of_getElem? (i := 366) (by decide +kernel)⟩
theorem lw_p1 : lw_okq (⟨"MixMachine$Assembler", "readLabel", "()V"⟩, 18) := ⟨⟨by decide +kernel, by decide +kernel⟩, List.mem_of_getElem? (i := 181) (by decide +kernel), List.mem_of_getElem? (i := 447) (by decide +kernel), List.mem_of_getElem? (i := 448) (by decide +kernel)⟩
theorem lw_p2 : lw_okq (⟨"MixMachine$Assembler", "symbolAtHand", "()I"⟩, 18) := ⟨⟨by decide +kernel, by decide +kernel⟩, List.mem_of_getElem? (i := 181) (by decide +kernel), List.mem_of_getElem? (i := 474) (by decide +kernel), List.mem_of_getElem? (i := 475) (by decide +kernel)⟩
theorem lw_p3 : lw_okq (⟨"MixMachine$Assembler", "readOperation", "()V"⟩, 18) := ⟨⟨by decide +kernel, by decide +kernel⟩, List.mem_of_getElem? (i := 181) (by decide +kernel), List.mem_of_getElem? (i := 484) (by decide +kernel), List.mem_of_getElem? (i := 485) (by decide +kernel)⟩
theorem lw_p4 : lw_okq (⟨"MixMachine$Assembler", "checkLabel", "()V"⟩, 18) := ⟨⟨by decide +kernel, by decide +kernel⟩, List.mem_of_getElem? (i := 181) (by decide +kernel), List.mem_of_getElem? (i := 608) (by decide +kernel), List.mem_of_getElem? (i := 609) (by decide +kernel)⟩
theorem lw_p5 : lw_okq (⟨"MixMachine$Assembler", "giveValue", "(II)V"⟩, 18) := ⟨⟨by decide +kernel, by decide +kernel⟩, List.mem_of_getElem? (i := 181) (by decide +kernel), List.mem_of_getElem? (i := 620) (by decide +kernel), List.mem_of_getElem? (i := 621) (by decide +kernel)⟩
theorem lw_p6 : lw_okq (⟨"MixMachine$Assembler", "fillIn", "(II)V"⟩, 18) := ⟨⟨by decide +kernel, by decide +kernel⟩, List.mem_of_getElem? (i := 181) (by decide +kernel), List.mem_of_getElem? (i := 624) (by decide +kernel), List.mem_of_getElem? (i := 625) (by decide +kernel)⟩
theorem lw_p7 : lw_okq (⟨"MixMachine$Assembler", "readInstruction", "()V"⟩, 18) := ⟨⟨by decide +kernel, by decide +kernel⟩, List.mem_of_getElem? (i := 181) (by decide +kernel), List.mem_of_getElem? (i := 649) (by decide +kernel), List.mem_of_getElem? (i := 650) (by decide +kernel)⟩
theorem lw_p8 : lw_okq (⟨"MixMachine$Assembler", "readAPart", "()I"⟩, 18) := ⟨⟨by decide +kernel, by decide +kernel⟩, List.mem_of_getElem? (i := 181) (by decide +kernel), List.mem_of_getElem? (i := 653) (by decide +kernel), List.mem_of_getElem? (i := 654) (by decide +kernel)⟩
theorem lw_p9 : lw_okq (⟨"MixMachine$Assembler", "readW", "()I"⟩, 18) := ⟨⟨by decide +kernel, by decide +kernel⟩, List.mem_of_getElem? (i := 181) (by decide +kernel), List.mem_of_getElem? (i := 665) (by decide +kernel), List.mem_of_getElem? (i := 666) (by decide +kernel)⟩
theorem lw_p10 : lw_okq (⟨"MixMachine$Assembler", "readExpression", "()J"⟩, 18) := ⟨⟨by decide +kernel, by decide +kernel⟩, List.mem_of_getElem? (i := 181) (by decide +kernel), List.mem_of_getElem? (i := 669) (by decide +kernel), List.mem_of_getElem? (i := 670) (by decide +kernel)⟩
theorem lw_p11 : lw_okq (⟨"MixMachine$Assembler", "readAtom", "()J"⟩, 18) := ⟨⟨by decide +kernel, by decide +kernel⟩, List.mem_of_getElem? (i := 181) (by decide +kernel), List.mem_of_getElem? (i := 673) (by decide +kernel), List.mem_of_getElem? (i := 674) (by decide +kernel)⟩
theorem lw_p12 : lw_okq (⟨"MixMachine$Assembler", "readLiteral", "(I)V"⟩, 18) := ⟨⟨by decide +kernel, by decide +kernel⟩, List.mem_of_getElem? (i := 181) (by decide +kernel), List.mem_of_getElem? (i := 704) (by decide +kernel), List.mem_of_getElem? (i := 705) (by decide +kernel)⟩
theorem lw_p13 : lw_okq (⟨"MixMachine$Assembler", "isToCome", "()Z"⟩, 18) := ⟨⟨by decide +kernel, by decide +kernel⟩, List.mem_of_getElem? (i := 181) (by decide +kernel), List.mem_of_getElem? (i := 709) (by decide +kernel), List.mem_of_getElem? (i := 710) (by decide +kernel)⟩
theorem lw_p14 : lw_okq (⟨"MixMachine$Assembler", "readUpTo", "(I)I"⟩, 18) := ⟨⟨by decide +kernel, by decide +kernel⟩, List.mem_of_getElem? (i := 181) (by decide +kernel), List.mem_of_getElem? (i := 715) (by decide +kernel), List.mem_of_getElem? (i := 716) (by decide +kernel)⟩
theorem lw_p15 : lw_okq (⟨"MixMachine$Assembler", "put", "(I)V"⟩, 18) := ⟨⟨by decide +kernel, by decide +kernel⟩, List.mem_of_getElem? (i := 181) (by decide +kernel), List.mem_of_getElem? (i := 727) (by decide +kernel), List.mem_of_getElem? (i := 728) (by decide +kernel)⟩
def lw_privs_1 : List (MethodName × Nat) := [(⟨"java/lang/Throwable", "fillInStackTrace", "(I)Ljava/lang/Throwable;"⟩, 6), (⟨"MixMachine$Assembler", "readLabel", "()V"⟩, 18), (⟨"MixMachine$Assembler", "symbolAtHand", "()I"⟩, 18), (⟨"MixMachine$Assembler", "readOperation", "()V"⟩, 18), (⟨"MixMachine$Assembler", "checkLabel", "()V"⟩, 18), (⟨"MixMachine$Assembler", "giveValue", "(II)V"⟩, 18), (⟨"MixMachine$Assembler", "fillIn", "(II)V"⟩, 18), (⟨"MixMachine$Assembler", "readInstruction", "()V"⟩, 18), (⟨"MixMachine$Assembler", "readAPart", "()I"⟩, 18), (⟨"MixMachine$Assembler", "readW", "()I"⟩, 18), (⟨"MixMachine$Assembler", "readExpression", "()J"⟩, 18), (⟨"MixMachine$Assembler", "readAtom", "()J"⟩, 18), (⟨"MixMachine$Assembler", "readLiteral", "(I)V"⟩, 18), (⟨"MixMachine$Assembler", "isToCome", "()Z"⟩, 18), (⟨"MixMachine$Assembler", "readUpTo", "(I)I"⟩, 18), (⟨"MixMachine$Assembler", "put", "(I)V"⟩, 18)]
theorem lw_r1 : ∀ q ∈ lw_privs_1, lw_okq q := List.forall_mem_cons.mpr ⟨lw_p0, List.forall_mem_cons.mpr ⟨lw_p1, List.forall_mem_cons.mpr ⟨lw_p2, List.forall_mem_cons.mpr ⟨lw_p3, List.forall_mem_cons.mpr ⟨lw_p4, List.forall_mem_cons.mpr ⟨lw_p5, List.forall_mem_cons.mpr ⟨lw_p6, List.forall_mem_cons.mpr ⟨lw_p7, List.forall_mem_cons.mpr ⟨lw_p8, List.forall_mem_cons.mpr ⟨lw_p9, List.forall_mem_cons.mpr ⟨lw_p10, List.forall_mem_cons.mpr ⟨lw_p11, List.forall_mem_cons.mpr ⟨lw_p12, List.forall_mem_cons.mpr ⟨lw_p13, List.forall_mem_cons.mpr ⟨lw_p14, List.forall_mem_cons.mpr ⟨lw_p15, fun _ h => absurd h List.not_mem_nil⟩⟩⟩⟩⟩⟩⟩⟩⟩⟩⟩⟩⟩⟩⟩⟩
theorem lw_p16 : lw_okq (⟨"MixMachine$Assembler", "readDirective", "()I"⟩, 18) := ⟨⟨by decide +kernel, by decide +kernel⟩, List.mem_of_getElem? (i := 181) (by decide +kernel), List.mem_of_getElem? (i := 740) (by decide +kernel), List.mem_of_getElem? (i := 741) (by decide +kernel)⟩
theorem lw_p17 : lw_okq (⟨"MixMachine$Assembler", "equate", "(I)V"⟩, 18) := ⟨⟨by decide +kernel, by decide +kernel⟩, List.mem_of_getElem? (i := 181) (by decide +kernel), List.mem_of_getElem? (i := 745) (by decide +kernel), List.mem_of_getElem? (i := 746) (by decide +kernel)⟩
theorem lw_p18 : lw_okq (⟨"MixMachine$Assembler", "end", "(I)V"⟩, 18) := ⟨⟨by decide +kernel, by decide +kernel⟩, List.mem_of_getElem? (i := 181) (by decide +kernel), List.mem_of_getElem? (i := 753) (by decide +kernel), List.mem_of_getElem? (i := 754) (by decide +kernel)⟩
theorem lw_p19 : lw_okq (⟨"MixMachine$Assembler", "placeSymbols", "()V"⟩, 18) := ⟨⟨by decide +kernel, by decide +kernel⟩, List.mem_of_getElem? (i := 181) (by decide +kernel), List.mem_of_getElem? (i := 768) (by decide +kernel), List.mem_of_getElem? (i := 769) (by decide +kernel)⟩
theorem lw_p20 : lw_okq (⟨"MixMachine$Assembler", "placeLiterals", "()V"⟩, 18) := ⟨⟨by decide +kernel, by decide +kernel⟩, List.mem_of_getElem? (i := 181) (by decide +kernel), List.mem_of_getElem? (i := 772) (by decide +kernel), List.mem_of_getElem? (i := 773) (by decide +kernel)⟩
theorem lw_p21 : lw_okq (⟨"MixMachine$Processor", "decode", "(I)V"⟩, 15) := ⟨⟨by decide +kernel, by decide +kernel⟩, List.mem_of_getElem? (i := 78) (by decide +kernel), List.mem_of_getElem? (i := 830) (by decide +kernel), List.mem_of_getElem? (i := 831) (by decide +kernel)⟩
theorem lw_p22 : lw_okq (⟨"MixMachine$Processor", "mustWait", "()Z"⟩, 15) := ⟨⟨by decide +kernel, by decide +kernel⟩, List.mem_of_getElem? (i := 78) (by decide +kernel), List.mem_of_getElem? (i := 840) (by decide +kernel), List.mem_of_getElem? (i := 841) (by decide +kernel)⟩
theorem lw_p23 : lw_okq (⟨"MixMachine$Processor", "execute", "()Z"⟩, 15) := ⟨⟨by decide +kernel, by decide +kernel⟩, List.mem_of_getElem? (i := 78) (by decide +kernel), List.mem_of_getElem? (i := 851) (by decide +kernel), List.mem_of_getElem? (i := 852) (by decide +kernel)⟩
theorem lw_p24 : lw_okq (⟨"MixMachine$Processor", "calculate", "()Z"⟩, 15) := ⟨⟨by decide +kernel, by decide +kernel⟩, List.mem_of_getElem? (i := 78) (by decide +kernel), List.mem_of_getElem? (i := 855) (by decide +kernel), List.mem_of_getElem? (i := 856) (by decide +kernel)⟩
theorem lw_p25 : lw_okq (⟨"MixMachine$Processor", "hasFieldInMemory", "()Z"⟩, 15) := ⟨⟨by decide +kernel, by decide +kernel⟩, List.mem_of_getElem? (i := 78) (by decide +kernel), List.mem_of_getElem? (i := 859) (by decide +kernel), List.mem_of_getElem? (i := 860) (by decide +kernel)⟩
theorem lw_p26 : lw_okq (⟨"MixMachine$Processor", "addTo", "(II)V"⟩, 15) := ⟨⟨by decide +kernel, by decide +kernel⟩, List.mem_of_getElem? (i := 78) (by decide +kernel), List.mem_of_getElem? (i := 864) (by decide +kernel), List.mem_of_getElem? (i := 865) (by decide +kernel)⟩
theorem lw_p27 : lw_okq (⟨"MixMachine$Processor", "multiply", "(I)V"⟩, 15) := ⟨⟨by decide +kernel, by decide +kernel⟩, List.mem_of_getElem? (i := 78) (by decide +kernel), List.mem_of_getElem? (i := 871) (by decide +kernel), List.mem_of_getElem? (i := 872) (by decide +kernel)⟩
theorem lw_p28 : lw_okq (⟨"MixMachine$Processor", "divide", "(I)V"⟩, 15) := ⟨⟨by decide +kernel, by decide +kernel⟩, List.mem_of_getElem? (i := 78) (by decide +kernel), List.mem_of_getElem? (i := 876) (by decide +kernel), List.mem_of_getElem? (i := 877) (by decide +kernel)⟩
theorem lw_p29 : lw_okq (⟨"MixMachine$Processor", "bytesOfAX", "()J"⟩, 15) := ⟨⟨by decide +kernel, by decide +kernel⟩, List.mem_of_getElem? (i := 78) (by decide +kernel), List.mem_of_getElem? (i := 880) (by decide +kernel), List.mem_of_getElem? (i := 881) (by decide +kernel)⟩
theorem lw_p30 : lw_okq (⟨"MixMachine$Processor", "convertOrHalt", "()Z"⟩, 15) := ⟨⟨by decide +kernel, by decide +kernel⟩, List.mem_of_getElem? (i := 78) (by decide +kernel), List.mem_of_getElem? (i := 884) (by decide +kernel), List.mem_of_getElem? (i := 885) (by decide +kernel)⟩
theorem lw_p31 : lw_okq (⟨"MixMachine$Processor", "toNumber", "()V"⟩, 15) := ⟨⟨by decide +kernel, by decide +kernel⟩, List.mem_of_getElem? (i := 78) (by decide +kernel), List.mem_of_getElem? (i := 888) (by decide +kernel), List.mem_of_getElem? (i := 889) (by decide +kernel)⟩
def lw_privs_2 : List (MethodName × Nat) := [(⟨"MixMachine$Assembler", "readDirective", "()I"⟩, 18), (⟨"MixMachine$Assembler", "equate", "(I)V"⟩, 18), (⟨"MixMachine$Assembler", "end", "(I)V"⟩, 18), (⟨"MixMachine$Assembler", "placeSymbols", "()V"⟩, 18), (⟨"MixMachine$Assembler", "placeLiterals", "()V"⟩, 18), (⟨"MixMachine$Processor", "decode", "(I)V"⟩, 15), (⟨"MixMachine$Processor", "mustWait", "()Z"⟩, 15), (⟨"MixMachine$Processor", "execute", "()Z"⟩, 15), (⟨"MixMachine$Processor", "calculate", "()Z"⟩, 15), (⟨"MixMachine$Processor", "hasFieldInMemory", "()Z"⟩, 15), (⟨"MixMachine$Processor", "addTo", "(II)V"⟩, 15), (⟨"MixMachine$Processor", "multiply", "(I)V"⟩, 15), (⟨"MixMachine$Processor", "divide", "(I)V"⟩, 15), (⟨"MixMachine$Processor", "bytesOfAX", "()J"⟩, 15), (⟨"MixMachine$Processor", "convertOrHalt", "()Z"⟩, 15), (⟨"MixMachine$Processor", "toNumber", "()V"⟩, 15)]
theorem lw_r2 : ∀ q ∈ lw_privs_2, lw_okq q := List.forall_mem_cons.mpr ⟨lw_p16, List.forall_mem_cons.mpr ⟨lw_p17, List.forall_mem_cons.mpr ⟨lw_p18, List.forall_mem_cons.mpr ⟨lw_p19, List.forall_mem_cons.mpr ⟨lw_p20, List.forall_mem_cons.mpr ⟨lw_p21, List.forall_mem_cons.mpr ⟨lw_p22, List.forall_mem_cons.mpr ⟨lw_p23, List.forall_mem_cons.mpr ⟨lw_p24, List.forall_mem_cons.mpr ⟨lw_p25, List.forall_mem_cons.mpr ⟨lw_p26, List.forall_mem_cons.mpr ⟨lw_p27, List.forall_mem_cons.mpr ⟨lw_p28, List.forall_mem_cons.mpr ⟨lw_p29, List.forall_mem_cons.mpr ⟨lw_p30, List.forall_mem_cons.mpr ⟨lw_p31, fun _ h => absurd h List.not_mem_nil⟩⟩⟩⟩⟩⟩⟩⟩⟩⟩⟩⟩⟩⟩⟩⟩
theorem lw_p32 : lw_okq (⟨"MixMachine$Processor", "setMagnitude", "(II)V"⟩, 15) := ⟨⟨by decide +kernel, by decide +kernel⟩, List.mem_of_getElem? (i := 78) (by decide +kernel), List.mem_of_getElem? (i := 894) (by decide +kernel), List.mem_of_getElem? (i := 895) (by decide +kernel)⟩
theorem lw_p33 : lw_okq (⟨"MixMachine$Processor", "toCharacters", "()V"⟩, 15) := ⟨⟨by decide +kernel, by decide +kernel⟩, List.mem_of_getElem? (i := 78) (by decide +kernel), List.mem_of_getElem? (i := 898) (by decide +kernel), List.mem_of_getElem? (i := 899) (by decide +kernel)⟩
theorem lw_p34 : lw_okq (⟨"MixMachine$Processor", "setBytesOfAX", "(J)V"⟩, 15) := ⟨⟨by decide +kernel, by decide +kernel⟩, List.mem_of_getElem? (i := 78) (by decide +kernel), List.mem_of_getElem? (i := 902) (by decide +kernel), List.mem_of_getElem? (i := 903) (by decide +kernel)⟩
theorem lw_p35 : lw_okq (⟨"MixMachine$Processor", "shift", "()Z"⟩, 15) := ⟨⟨by decide +kernel, by decide +kernel⟩, List.mem_of_getElem? (i := 78) (by decide +kernel), List.mem_of_getElem? (i := 906) (by decide +kernel), List.mem_of_getElem? (i := 907) (by decide +kernel)⟩
theorem lw_p36 : lw_okq (⟨"MixMachine$Processor", "moveWords", "()Z"⟩, 15) := ⟨⟨by decide +kernel, by decide +kernel⟩, List.mem_of_getElem? (i := 78) (by decide +kernel), List.mem_of_getElem? (i := 912) (by decide +kernel), List.mem_of_getElem? (i := 913) (by decide +kernel)⟩
theorem lw_p37 : lw_okq (⟨"MixMachine$Processor", "load", "()Z"⟩, 15) := ⟨⟨by decide +kernel, by decide +kernel⟩, List.mem_of_getElem? (i := 78) (by decide +kernel), List.mem_of_getElem? (i := 919) (by decide +kernel), List.mem_of_getElem? (i := 920) (by decide +kernel)⟩
theorem lw_p38 : lw_okq (⟨"MixMachine$Processor", "enter", "(II)V"⟩, 15) := ⟨⟨by decide +kernel, by decide +kernel⟩, List.mem_of_getElem? (i := 78) (by decide +kernel), List.mem_of_getElem? (i := 923) (by decide +kernel), List.mem_of_getElem? (i := 924) (by decide +kernel)⟩
theorem lw_p39 : lw_okq (⟨"MixMachine$Processor", "store", "()Z"⟩, 15) := ⟨⟨by decide +kernel, by decide +kernel⟩, List.mem_of_getElem? (i := 78) (by decide +kernel), List.mem_of_getElem? (i := 927) (by decide +kernel), List.mem_of_getElem? (i := 928) (by decide +kernel)⟩
theorem lw_p40 : lw_okq (⟨"MixMachine$Processor", "useUnit", "()Z"⟩, 15) := ⟨⟨by decide +kernel, by decide +kernel⟩, List.mem_of_getElem? (i := 78) (by decide +kernel), List.mem_of_getElem? (i := 932) (by decide +kernel), List.mem_of_getElem? (i := 933) (by decide +kernel)⟩
theorem lw_p41 : lw_okq (⟨"MixMachine$Units", "act", "(III)Z"⟩, 9) := ⟨⟨by decide +kernel, by decide +kernel⟩, List.mem_of_getElem? (i := 37) (by decide +kernel), List.mem_of_getElem? (i := 940) (by decide +kernel), List.mem_of_getElem? (i := 941) (by decide +kernel)⟩
theorem lw_p42 : lw_okq (⟨"MixMachine$Units", "control", "(II)Z"⟩, 9) := ⟨⟨by decide +kernel, by decide +kernel⟩, List.mem_of_getElem? (i := 37) (by decide +kernel), List.mem_of_getElem? (i := 944) (by decide +kernel), List.mem_of_getElem? (i := 945) (by decide +kernel)⟩
theorem lw_p43 : lw_okq (⟨"MixMachine$Units", "passBlock", "(ZI)Z"⟩, 9) := ⟨⟨by decide +kernel, by decide +kernel⟩, List.mem_of_getElem? (i := 37) (by decide +kernel), List.mem_of_getElem? (i := 950) (by decide +kernel), List.mem_of_getElem? (i := 951) (by decide +kernel)⟩
theorem lw_p44 : lw_okq (⟨"MixMachine$Units", "readCard", "(I)Z"⟩, 9) := ⟨⟨by decide +kernel, by decide +kernel⟩, List.mem_of_getElem? (i := 37) (by decide +kernel), List.mem_of_getElem? (i := 956) (by decide +kernel), List.mem_of_getElem? (i := 957) (by decide +kernel)⟩
theorem lw_p45 : lw_okq (⟨"MixMachine$Units", "printLine", "(I)Z"⟩, 9) := ⟨⟨by decide +kernel, by decide +kernel⟩, List.mem_of_getElem? (i := 37) (by decide +kernel), List.mem_of_getElem? (i := 960) (by decide +kernel), List.mem_of_getElem? (i := 961) (by decide +kernel)⟩
theorem lw_p46 : lw_okq (⟨"MixMachine$Processor", "jumpIf", "(Z)Z"⟩, 15) := ⟨⟨by decide +kernel, by decide +kernel⟩, List.mem_of_getElem? (i := 78) (by decide +kernel), List.mem_of_getElem? (i := 964) (by decide +kernel), List.mem_of_getElem? (i := 965) (by decide +kernel)⟩
theorem lw_p47 : lw_okq (⟨"MixMachine$Processor", "jumpKeepingJ", "()Z"⟩, 15) := ⟨⟨by decide +kernel, by decide +kernel⟩, List.mem_of_getElem? (i := 78) (by decide +kernel), List.mem_of_getElem? (i := 968) (by decide +kernel), List.mem_of_getElem? (i := 969) (by decide +kernel)⟩
def lw_privs_3 : List (MethodName × Nat) := [(⟨"MixMachine$Processor", "setMagnitude", "(II)V"⟩, 15), (⟨"MixMachine$Processor", "toCharacters", "()V"⟩, 15), (⟨"MixMachine$Processor", "setBytesOfAX", "(J)V"⟩, 15), (⟨"MixMachine$Processor", "shift", "()Z"⟩, 15), (⟨"MixMachine$Processor", "moveWords", "()Z"⟩, 15), (⟨"MixMachine$Processor", "load", "()Z"⟩, 15), (⟨"MixMachine$Processor", "enter", "(II)V"⟩, 15), (⟨"MixMachine$Processor", "store", "()Z"⟩, 15), (⟨"MixMachine$Processor", "useUnit", "()Z"⟩, 15), (⟨"MixMachine$Units", "act", "(III)Z"⟩, 9), (⟨"MixMachine$Units", "control", "(II)Z"⟩, 9), (⟨"MixMachine$Units", "passBlock", "(ZI)Z"⟩, 9), (⟨"MixMachine$Units", "readCard", "(I)Z"⟩, 9), (⟨"MixMachine$Units", "printLine", "(I)Z"⟩, 9), (⟨"MixMachine$Processor", "jumpIf", "(Z)Z"⟩, 15), (⟨"MixMachine$Processor", "jumpKeepingJ", "()Z"⟩, 15)]
theorem lw_r3 : ∀ q ∈ lw_privs_3, lw_okq q := List.forall_mem_cons.mpr ⟨lw_p32, List.forall_mem_cons.mpr ⟨lw_p33, List.forall_mem_cons.mpr ⟨lw_p34, List.forall_mem_cons.mpr ⟨lw_p35, List.forall_mem_cons.mpr ⟨lw_p36, List.forall_mem_cons.mpr ⟨lw_p37, List.forall_mem_cons.mpr ⟨lw_p38, List.forall_mem_cons.mpr ⟨lw_p39, List.forall_mem_cons.mpr ⟨lw_p40, List.forall_mem_cons.mpr ⟨lw_p41, List.forall_mem_cons.mpr ⟨lw_p42, List.forall_mem_cons.mpr ⟨lw_p43, List.forall_mem_cons.mpr ⟨lw_p44, List.forall_mem_cons.mpr ⟨lw_p45, List.forall_mem_cons.mpr ⟨lw_p46, List.forall_mem_cons.mpr ⟨lw_p47, fun _ h => absurd h List.not_mem_nil⟩⟩⟩⟩⟩⟩⟩⟩⟩⟩⟩⟩⟩⟩⟩⟩
theorem lw_p48 : lw_okq (⟨"MixMachine$Processor", "jump", "()Z"⟩, 15) := ⟨⟨by decide +kernel, by decide +kernel⟩, List.mem_of_getElem? (i := 78) (by decide +kernel), List.mem_of_getElem? (i := 972) (by decide +kernel), List.mem_of_getElem? (i := 973) (by decide +kernel)⟩
theorem lw_p49 : lw_okq (⟨"MixMachine$Processor", "jumpByToggle", "(Z)Z"⟩, 15) := ⟨⟨by decide +kernel, by decide +kernel⟩, List.mem_of_getElem? (i := 78) (by decide +kernel), List.mem_of_getElem? (i := 976) (by decide +kernel), List.mem_of_getElem? (i := 977) (by decide +kernel)⟩
theorem lw_p50 : lw_okq (⟨"MixMachine$Processor", "jumpByRegister", "()Z"⟩, 15) := ⟨⟨by decide +kernel, by decide +kernel⟩, List.mem_of_getElem? (i := 78) (by decide +kernel), List.mem_of_getElem? (i := 983) (by decide +kernel), List.mem_of_getElem? (i := 984) (by decide +kernel)⟩
theorem lw_p51 : lw_okq (⟨"MixMachine$Processor", "changeRegister", "()Z"⟩, 15) := ⟨⟨by decide +kernel, by decide +kernel⟩, List.mem_of_getElem? (i := 78) (by decide +kernel), List.mem_of_getElem? (i := 987) (by decide +kernel), List.mem_of_getElem? (i := 988) (by decide +kernel)⟩
theorem lw_p52 : lw_okq (⟨"MixMachine$Processor", "compare", "()Z"⟩, 15) := ⟨⟨by decide +kernel, by decide +kernel⟩, List.mem_of_getElem? (i := 78) (by decide +kernel), List.mem_of_getElem? (i := 991) (by decide +kernel), List.mem_of_getElem? (i := 992) (by decide +kernel)⟩
theorem lw_p53 : lw_okq (⟨"MixMachineModel", "fail", "(I)I"⟩, 45) := ⟨⟨by decide +kernel, by decide +kernel⟩, List.mem_of_getElem? (i := 1090) (by decide +kernel), List.mem_of_getElem? (i := 1240) (by decide +kernel), List.mem_of_getElem? (i := 1241) (by decide +kernel)⟩
theorem lw_p54 : lw_okq (⟨"MixMachineModel", "goes", "()Z"⟩, 45) := ⟨⟨by decide +kernel, by decide +kernel⟩, List.mem_of_getElem? (i := 1090) (by decide +kernel), List.mem_of_getElem? (i := 1244) (by decide +kernel), List.mem_of_getElem? (i := 1245) (by decide +kernel)⟩
theorem lw_p55 : lw_okq (⟨"MixMachineModel", "isPlace", "(I)Z"⟩, 45) := ⟨⟨by decide +kernel, by decide +kernel⟩, List.mem_of_getElem? (i := 1090) (by decide +kernel), List.mem_of_getElem? (i := 1248) (by decide +kernel), List.mem_of_getElem? (i := 1249) (by decide +kernel)⟩
theorem lw_p56 : lw_okq (⟨"MixMachineModel", "busyNow", "(I)Z"⟩, 45) := ⟨⟨by decide +kernel, by decide +kernel⟩, List.mem_of_getElem? (i := 1090) (by decide +kernel), List.mem_of_getElem? (i := 1258) (by decide +kernel), List.mem_of_getElem? (i := 1259) (by decide +kernel)⟩
theorem lw_p57 : lw_okq (⟨"MixMachineModel", "operate", "(IIIZ)V"⟩, 45) := ⟨⟨by decide +kernel, by decide +kernel⟩, List.mem_of_getElem? (i := 1090) (by decide +kernel), List.mem_of_getElem? (i := 1268) (by decide +kernel), List.mem_of_getElem? (i := 1269) (by decide +kernel)⟩
theorem lw_p58 : lw_okq (⟨"MixMachineModel", "touches", "(III)V"⟩, 45) := ⟨⟨by decide +kernel, by decide +kernel⟩, List.mem_of_getElem? (i := 1090) (by decide +kernel), List.mem_of_getElem? (i := 1272) (by decide +kernel), List.mem_of_getElem? (i := 1273) (by decide +kernel)⟩
theorem lw_p59 : lw_okq (⟨"MixMachineModel", "need", "(Z)V"⟩, 45) := ⟨⟨by decide +kernel, by decide +kernel⟩, List.mem_of_getElem? (i := 1090) (by decide +kernel), List.mem_of_getElem? (i := 1279) (by decide +kernel), List.mem_of_getElem? (i := 1280) (by decide +kernel)⟩
theorem lw_p60 : lw_okq (⟨"MixMachineModel", "arithmetic", "(II)V"⟩, 45) := ⟨⟨by decide +kernel, by decide +kernel⟩, List.mem_of_getElem? (i := 1090) (by decide +kernel), List.mem_of_getElem? (i := 1295) (by decide +kernel), List.mem_of_getElem? (i := 1296) (by decide +kernel)⟩
theorem lw_p61 : lw_okq (⟨"MixMachineModel", "add", "(II)V"⟩, 45) := ⟨⟨by decide +kernel, by decide +kernel⟩, List.mem_of_getElem? (i := 1090) (by decide +kernel), List.mem_of_getElem? (i := 1299) (by decide +kernel), List.mem_of_getElem? (i := 1300) (by decide +kernel)⟩
theorem lw_p62 : lw_okq (⟨"MixMachineModel", "multiply", "(I)V"⟩, 45) := ⟨⟨by decide +kernel, by decide +kernel⟩, List.mem_of_getElem? (i := 1090) (by decide +kernel), List.mem_of_getElem? (i := 1304) (by decide +kernel), List.mem_of_getElem? (i := 1305) (by decide +kernel)⟩
theorem lw_p63 : lw_okq (⟨"MixMachineModel", "divide", "(I)V"⟩, 45) := ⟨⟨by decide +kernel, by decide +kernel⟩, List.mem_of_getElem? (i := 1090) (by decide +kernel), List.mem_of_getElem? (i := 1309) (by decide +kernel), List.mem_of_getElem? (i := 1310) (by decide +kernel)⟩
def lw_privs_4 : List (MethodName × Nat) := [(⟨"MixMachine$Processor", "jump", "()Z"⟩, 15), (⟨"MixMachine$Processor", "jumpByToggle", "(Z)Z"⟩, 15), (⟨"MixMachine$Processor", "jumpByRegister", "()Z"⟩, 15), (⟨"MixMachine$Processor", "changeRegister", "()Z"⟩, 15), (⟨"MixMachine$Processor", "compare", "()Z"⟩, 15), (⟨"MixMachineModel", "fail", "(I)I"⟩, 45), (⟨"MixMachineModel", "goes", "()Z"⟩, 45), (⟨"MixMachineModel", "isPlace", "(I)Z"⟩, 45), (⟨"MixMachineModel", "busyNow", "(I)Z"⟩, 45), (⟨"MixMachineModel", "operate", "(IIIZ)V"⟩, 45), (⟨"MixMachineModel", "touches", "(III)V"⟩, 45), (⟨"MixMachineModel", "need", "(Z)V"⟩, 45), (⟨"MixMachineModel", "arithmetic", "(II)V"⟩, 45), (⟨"MixMachineModel", "add", "(II)V"⟩, 45), (⟨"MixMachineModel", "multiply", "(I)V"⟩, 45), (⟨"MixMachineModel", "divide", "(I)V"⟩, 45)]
theorem lw_r4 : ∀ q ∈ lw_privs_4, lw_okq q := List.forall_mem_cons.mpr ⟨lw_p48, List.forall_mem_cons.mpr ⟨lw_p49, List.forall_mem_cons.mpr ⟨lw_p50, List.forall_mem_cons.mpr ⟨lw_p51, List.forall_mem_cons.mpr ⟨lw_p52, List.forall_mem_cons.mpr ⟨lw_p53, List.forall_mem_cons.mpr ⟨lw_p54, List.forall_mem_cons.mpr ⟨lw_p55, List.forall_mem_cons.mpr ⟨lw_p56, List.forall_mem_cons.mpr ⟨lw_p57, List.forall_mem_cons.mpr ⟨lw_p58, List.forall_mem_cons.mpr ⟨lw_p59, List.forall_mem_cons.mpr ⟨lw_p60, List.forall_mem_cons.mpr ⟨lw_p61, List.forall_mem_cons.mpr ⟨lw_p62, List.forall_mem_cons.mpr ⟨lw_p63, fun _ h => absurd h List.not_mem_nil⟩⟩⟩⟩⟩⟩⟩⟩⟩⟩⟩⟩⟩⟩⟩⟩
theorem lw_p64 : lw_okq (⟨"MixMachineModel", "set", "(II)V"⟩, 45) := ⟨⟨by decide +kernel, by decide +kernel⟩, List.mem_of_getElem? (i := 1090) (by decide +kernel), List.mem_of_getElem? (i := 1313) (by decide +kernel), List.mem_of_getElem? (i := 1314) (by decide +kernel)⟩
theorem lw_p65 : lw_okq (⟨"MixMachineModel", "compare", "(III)V"⟩, 45) := ⟨⟨by decide +kernel, by decide +kernel⟩, List.mem_of_getElem? (i := 1090) (by decide +kernel), List.mem_of_getElem? (i := 1320) (by decide +kernel), List.mem_of_getElem? (i := 1321) (by decide +kernel)⟩
theorem lw_p66 : lw_okq (⟨"MixMachineModel", "special", "(I)V"⟩, 45) := ⟨⟨by decide +kernel, by decide +kernel⟩, List.mem_of_getElem? (i := 1090) (by decide +kernel), List.mem_of_getElem? (i := 1324) (by decide +kernel), List.mem_of_getElem? (i := 1325) (by decide +kernel)⟩
theorem lw_p67 : lw_okq (⟨"MixMachineModel", "characters", "()V"⟩, 45) := ⟨⟨by decide +kernel, by decide +kernel⟩, List.mem_of_getElem? (i := 1090) (by decide +kernel), List.mem_of_getElem? (i := 1333) (by decide +kernel), List.mem_of_getElem? (i := 1334) (by decide +kernel)⟩
theorem lw_p68 : lw_okq (⟨"MixMachineModel", "shift", "(II)V"⟩, 45) := ⟨⟨by decide +kernel, by decide +kernel⟩, List.mem_of_getElem? (i := 1090) (by decide +kernel), List.mem_of_getElem? (i := 1338) (by decide +kernel), List.mem_of_getElem? (i := 1339) (by decide +kernel)⟩
theorem lw_p69 : lw_okq (⟨"MixMachineModel", "move", "(II)V"⟩, 45) := ⟨⟨by decide +kernel, by decide +kernel⟩, List.mem_of_getElem? (i := 1090) (by decide +kernel), List.mem_of_getElem? (i := 1344) (by decide +kernel), List.mem_of_getElem? (i := 1345) (by decide +kernel)⟩
theorem lw_p70 : lw_okq (⟨"MixMachineModel", "row", "(II)Z"⟩, 45) := ⟨⟨by decide +kernel, by decide +kernel⟩, List.mem_of_getElem? (i := 1090) (by decide +kernel), List.mem_of_getElem? (i := 1348) (by decide +kernel), List.mem_of_getElem? (i := 1349) (by decide +kernel)⟩
theorem lw_p71 : lw_okq (⟨"MixMachineModel", "jump", "(IZ)V"⟩, 45) := ⟨⟨by decide +kernel, by decide +kernel⟩, List.mem_of_getElem? (i := 1090) (by decide +kernel), List.mem_of_getElem? (i := 1352) (by decide +kernel), List.mem_of_getElem? (i := 1353) (by decide +kernel)⟩
theorem lw_p72 : lw_okq (⟨"MixMachineModel", "units", "(III)V"⟩, 45) := ⟨⟨by decide +kernel, by decide +kernel⟩, List.mem_of_getElem? (i := 1090) (by decide +kernel), List.mem_of_getElem? (i := 1356) (by decide +kernel), List.mem_of_getElem? (i := 1357) (by decide +kernel)⟩
theorem lw_p73 : lw_okq (⟨"MixMachineModel", "control", "(II)V"⟩, 45) := ⟨⟨by decide +kernel, by decide +kernel⟩, List.mem_of_getElem? (i := 1090) (by decide +kernel), List.mem_of_getElem? (i := 1360) (by decide +kernel), List.mem_of_getElem? (i := 1361) (by decide +kernel)⟩
theorem lw_p74 : lw_okq (⟨"MixMachineModel", "reads", "(II)V"⟩, 45) := ⟨⟨by decide +kernel, by decide +kernel⟩, List.mem_of_getElem? (i := 1090) (by decide +kernel), List.mem_of_getElem? (i := 1364) (by decide +kernel), List.mem_of_getElem? (i := 1365) (by decide +kernel)⟩
theorem lw_p75 : lw_okq (⟨"MixMachineModel", "writes", "(II)V"⟩, 45) := ⟨⟨by decide +kernel, by decide +kernel⟩, List.mem_of_getElem? (i := 1090) (by decide +kernel), List.mem_of_getElem? (i := 1368) (by decide +kernel), List.mem_of_getElem? (i := 1369) (by decide +kernel)⟩
theorem lw_p76 : lw_okq (⟨"MixMachineModel", "jumps", "(II)V"⟩, 45) := ⟨⟨by decide +kernel, by decide +kernel⟩, List.mem_of_getElem? (i := 1090) (by decide +kernel), List.mem_of_getElem? (i := 1372) (by decide +kernel), List.mem_of_getElem? (i := 1373) (by decide +kernel)⟩
theorem lw_p77 : lw_okq (⟨"MixMachineModel", "moves", "(IIIZ)V"⟩, 45) := ⟨⟨by decide +kernel, by decide +kernel⟩, List.mem_of_getElem? (i := 1090) (by decide +kernel), List.mem_of_getElem? (i := 1376) (by decide +kernel), List.mem_of_getElem? (i := 1377) (by decide +kernel)⟩
theorem lw_p78 : lw_okq (⟨"MixMachineModel", "sign", "(II)Z"⟩, 45) := ⟨⟨by decide +kernel, by decide +kernel⟩, List.mem_of_getElem? (i := 1090) (by decide +kernel), List.mem_of_getElem? (i := 1380) (by decide +kernel), List.mem_of_getElem? (i := 1381) (by decide +kernel)⟩
theorem lw_p79 : lw_okq (⟨"MixMachineModel", "fresh", "()V"⟩, 45) := ⟨⟨by decide +kernel, by decide +kernel⟩, List.mem_of_getElem? (i := 1090) (by decide +kernel), List.mem_of_getElem? (i := 1401) (by decide +kernel), List.mem_of_getElem? (i := 1402) (by decide +kernel)⟩
def lw_privs_5 : List (MethodName × Nat) := [(⟨"MixMachineModel", "set", "(II)V"⟩, 45), (⟨"MixMachineModel", "compare", "(III)V"⟩, 45), (⟨"MixMachineModel", "special", "(I)V"⟩, 45), (⟨"MixMachineModel", "characters", "()V"⟩, 45), (⟨"MixMachineModel", "shift", "(II)V"⟩, 45), (⟨"MixMachineModel", "move", "(II)V"⟩, 45), (⟨"MixMachineModel", "row", "(II)Z"⟩, 45), (⟨"MixMachineModel", "jump", "(IZ)V"⟩, 45), (⟨"MixMachineModel", "units", "(III)V"⟩, 45), (⟨"MixMachineModel", "control", "(II)V"⟩, 45), (⟨"MixMachineModel", "reads", "(II)V"⟩, 45), (⟨"MixMachineModel", "writes", "(II)V"⟩, 45), (⟨"MixMachineModel", "jumps", "(II)V"⟩, 45), (⟨"MixMachineModel", "moves", "(IIIZ)V"⟩, 45), (⟨"MixMachineModel", "sign", "(II)Z"⟩, 45), (⟨"MixMachineModel", "fresh", "()V"⟩, 45)]
theorem lw_r5 : ∀ q ∈ lw_privs_5, lw_okq q := List.forall_mem_cons.mpr ⟨lw_p64, List.forall_mem_cons.mpr ⟨lw_p65, List.forall_mem_cons.mpr ⟨lw_p66, List.forall_mem_cons.mpr ⟨lw_p67, List.forall_mem_cons.mpr ⟨lw_p68, List.forall_mem_cons.mpr ⟨lw_p69, List.forall_mem_cons.mpr ⟨lw_p70, List.forall_mem_cons.mpr ⟨lw_p71, List.forall_mem_cons.mpr ⟨lw_p72, List.forall_mem_cons.mpr ⟨lw_p73, List.forall_mem_cons.mpr ⟨lw_p74, List.forall_mem_cons.mpr ⟨lw_p75, List.forall_mem_cons.mpr ⟨lw_p76, List.forall_mem_cons.mpr ⟨lw_p77, List.forall_mem_cons.mpr ⟨lw_p78, List.forall_mem_cons.mpr ⟨lw_p79, fun _ h => absurd h List.not_mem_nil⟩⟩⟩⟩⟩⟩⟩⟩⟩⟩⟩⟩⟩⟩⟩⟩
theorem lw_p80 : lw_okq (⟨"MixMachineModel", "wrong", "()V"⟩, 45) := ⟨⟨by decide +kernel, by decide +kernel⟩, List.mem_of_getElem? (i := 1090) (by decide +kernel), List.mem_of_getElem? (i := 1405) (by decide +kernel), List.mem_of_getElem? (i := 1406) (by decide +kernel)⟩
theorem lw_p81 : lw_okq (⟨"MixMachineModel", "readLine", "(II)V"⟩, 45) := ⟨⟨by decide +kernel, by decide +kernel⟩, List.mem_of_getElem? (i := 1090) (by decide +kernel), List.mem_of_getElem? (i := 1409) (by decide +kernel), List.mem_of_getElem? (i := 1410) (by decide +kernel)⟩
theorem lw_p82 : lw_okq (⟨"MixMachineModel", "skip", "(II)I"⟩, 45) := ⟨⟨by decide +kernel, by decide +kernel⟩, List.mem_of_getElem? (i := 1090) (by decide +kernel), List.mem_of_getElem? (i := 1413) (by decide +kernel), List.mem_of_getElem? (i := 1414) (by decide +kernel)⟩
theorem lw_p83 : lw_okq (⟨"MixMachineModel", "stop", "(II)I"⟩, 45) := ⟨⟨by decide +kernel, by decide +kernel⟩, List.mem_of_getElem? (i := 1090) (by decide +kernel), List.mem_of_getElem? (i := 1417) (by decide +kernel), List.mem_of_getElem? (i := 1418) (by decide +kernel)⟩
theorem lw_p84 : lw_okq (⟨"MixMachineModel", "run", "(I)I"⟩, 45) := ⟨⟨by decide +kernel, by decide +kernel⟩, List.mem_of_getElem? (i := 1090) (by decide +kernel), List.mem_of_getElem? (i := 1421) (by decide +kernel), List.mem_of_getElem? (i := 1422) (by decide +kernel)⟩
theorem lw_p85 : lw_okq (⟨"MixMachineModel", "statement", "(IIII)V"⟩, 45) := ⟨⟨by decide +kernel, by decide +kernel⟩, List.mem_of_getElem? (i := 1090) (by decide +kernel), List.mem_of_getElem? (i := 1431) (by decide +kernel), List.mem_of_getElem? (i := 1432) (by decide +kernel)⟩
theorem lw_p86 : lw_okq (⟨"MixMachineModel", "local", "(III)Z"⟩, 45) := ⟨⟨by decide +kernel, by decide +kernel⟩, List.mem_of_getElem? (i := 1090) (by decide +kernel), List.mem_of_getElem? (i := 1435) (by decide +kernel), List.mem_of_getElem? (i := 1436) (by decide +kernel)⟩
theorem lw_p87 : lw_okq (⟨"MixMachineModel", "operation", "(II)I"⟩, 45) := ⟨⟨by decide +kernel, by decide +kernel⟩, List.mem_of_getElem? (i := 1090) (by decide +kernel), List.mem_of_getElem? (i := 1439) (by decide +kernel), List.mem_of_getElem? (i := 1440) (by decide +kernel)⟩
theorem lw_p88 : lw_okq (⟨"MixMachineModel", "packed", "(II)J"⟩, 45) := ⟨⟨by decide +kernel, by decide +kernel⟩, List.mem_of_getElem? (i := 1090) (by decide +kernel), List.mem_of_getElem? (i := 1443) (by decide +kernel), List.mem_of_getElem? (i := 1444) (by decide +kernel)⟩
theorem lw_p89 : lw_okq (⟨"MixMachineModel", "isSymbol", "(II)Z"⟩, 45) := ⟨⟨by decide +kernel, by decide +kernel⟩, List.mem_of_getElem? (i := 1090) (by decide +kernel), List.mem_of_getElem? (i := 1509) (by decide +kernel), List.mem_of_getElem? (i := 1510) (by decide +kernel)⟩
theorem lw_p90 : lw_okq (⟨"MixMachineModel", "symbolAt", "(II)I"⟩, 45) := ⟨⟨by decide +kernel, by decide +kernel⟩, List.mem_of_getElem? (i := 1090) (by decide +kernel), List.mem_of_getElem? (i := 1513) (by decide +kernel), List.mem_of_getElem? (i := 1514) (by decide +kernel)⟩
theorem lw_p91 : lw_okq (⟨"MixMachineModel", "find", "(J)I"⟩, 45) := ⟨⟨by decide +kernel, by decide +kernel⟩, List.mem_of_getElem? (i := 1090) (by decide +kernel), List.mem_of_getElem? (i := 1517) (by decide +kernel), List.mem_of_getElem? (i := 1518) (by decide +kernel)⟩
theorem lw_p92 : lw_okq (⟨"MixMachineModel", "define", "(II)V"⟩, 45) := ⟨⟨by decide +kernel, by decide +kernel⟩, List.mem_of_getElem? (i := 1090) (by decide +kernel), List.mem_of_getElem? (i := 1524) (by decide +kernel), List.mem_of_getElem? (i := 1525) (by decide +kernel)⟩
theorem lw_p93 : lw_okq (⟨"MixMachineModel", "settle", "(IIII)V"⟩, 45) := ⟨⟨by decide +kernel, by decide +kernel⟩, List.mem_of_getElem? (i := 1090) (by decide +kernel), List.mem_of_getElem? (i := 1528) (by decide +kernel), List.mem_of_getElem? (i := 1529) (by decide +kernel)⟩
theorem lw_p94 : lw_okq (⟨"MixMachineModel", "instruction", "(I)V"⟩, 45) := ⟨⟨by decide +kernel, by decide +kernel⟩, List.mem_of_getElem? (i := 1090) (by decide +kernel), List.mem_of_getElem? (i := 1533) (by decide +kernel), List.mem_of_getElem? (i := 1534) (by decide +kernel)⟩
theorem lw_p95 : lw_okq (⟨"MixMachineModel", "apart", "()I"⟩, 45) := ⟨⟨by decide +kernel, by decide +kernel⟩, List.mem_of_getElem? (i := 1090) (by decide +kernel), List.mem_of_getElem? (i := 1537) (by decide +kernel), List.mem_of_getElem? (i := 1538) (by decide +kernel)⟩
def lw_privs_6 : List (MethodName × Nat) := [(⟨"MixMachineModel", "wrong", "()V"⟩, 45), (⟨"MixMachineModel", "readLine", "(II)V"⟩, 45), (⟨"MixMachineModel", "skip", "(II)I"⟩, 45), (⟨"MixMachineModel", "stop", "(II)I"⟩, 45), (⟨"MixMachineModel", "run", "(I)I"⟩, 45), (⟨"MixMachineModel", "statement", "(IIII)V"⟩, 45), (⟨"MixMachineModel", "local", "(III)Z"⟩, 45), (⟨"MixMachineModel", "operation", "(II)I"⟩, 45), (⟨"MixMachineModel", "packed", "(II)J"⟩, 45), (⟨"MixMachineModel", "isSymbol", "(II)Z"⟩, 45), (⟨"MixMachineModel", "symbolAt", "(II)I"⟩, 45), (⟨"MixMachineModel", "find", "(J)I"⟩, 45), (⟨"MixMachineModel", "define", "(II)V"⟩, 45), (⟨"MixMachineModel", "settle", "(IIII)V"⟩, 45), (⟨"MixMachineModel", "instruction", "(I)V"⟩, 45), (⟨"MixMachineModel", "apart", "()I"⟩, 45)]
theorem lw_r6 : ∀ q ∈ lw_privs_6, lw_okq q := List.forall_mem_cons.mpr ⟨lw_p80, List.forall_mem_cons.mpr ⟨lw_p81, List.forall_mem_cons.mpr ⟨lw_p82, List.forall_mem_cons.mpr ⟨lw_p83, List.forall_mem_cons.mpr ⟨lw_p84, List.forall_mem_cons.mpr ⟨lw_p85, List.forall_mem_cons.mpr ⟨lw_p86, List.forall_mem_cons.mpr ⟨lw_p87, List.forall_mem_cons.mpr ⟨lw_p88, List.forall_mem_cons.mpr ⟨lw_p89, List.forall_mem_cons.mpr ⟨lw_p90, List.forall_mem_cons.mpr ⟨lw_p91, List.forall_mem_cons.mpr ⟨lw_p92, List.forall_mem_cons.mpr ⟨lw_p93, List.forall_mem_cons.mpr ⟨lw_p94, List.forall_mem_cons.mpr ⟨lw_p95, fun _ h => absurd h List.not_mem_nil⟩⟩⟩⟩⟩⟩⟩⟩⟩⟩⟩⟩⟩⟩⟩⟩
theorem lw_p96 : lw_okq (⟨"MixMachineModel", "here", "()I"⟩, 45) := ⟨⟨by decide +kernel, by decide +kernel⟩, List.mem_of_getElem? (i := 1090) (by decide +kernel), List.mem_of_getElem? (i := 1541) (by decide +kernel), List.mem_of_getElem? (i := 1542) (by decide +kernel)⟩
theorem lw_p97 : lw_okq (⟨"MixMachineModel", "words", "()I"⟩, 45) := ⟨⟨by decide +kernel, by decide +kernel⟩, List.mem_of_getElem? (i := 1090) (by decide +kernel), List.mem_of_getElem? (i := 1545) (by decide +kernel), List.mem_of_getElem? (i := 1546) (by decide +kernel)⟩
theorem lw_p98 : lw_okq (⟨"MixMachineModel", "expression", "()I"⟩, 45) := ⟨⟨by decide +kernel, by decide +kernel⟩, List.mem_of_getElem? (i := 1090) (by decide +kernel), List.mem_of_getElem? (i := 1549) (by decide +kernel), List.mem_of_getElem? (i := 1550) (by decide +kernel)⟩
theorem lw_p99 : lw_okq (⟨"MixMachineModel", "atom", "()I"⟩, 45) := ⟨⟨by decide +kernel, by decide +kernel⟩, List.mem_of_getElem? (i := 1090) (by decide +kernel), List.mem_of_getElem? (i := 1553) (by decide +kernel), List.mem_of_getElem? (i := 1554) (by decide +kernel)⟩
theorem lw_p100 : lw_okq (⟨"MixMachineModel", "bounded", "(J)I"⟩, 45) := ⟨⟨by decide +kernel, by decide +kernel⟩, List.mem_of_getElem? (i := 1090) (by decide +kernel), List.mem_of_getElem? (i := 1557) (by decide +kernel), List.mem_of_getElem? (i := 1558) (by decide +kernel)⟩
theorem lw_p101 : lw_okq (⟨"MixMachineModel", "expect", "(I)V"⟩, 45) := ⟨⟨by decide +kernel, by decide +kernel⟩, List.mem_of_getElem? (i := 1090) (by decide +kernel), List.mem_of_getElem? (i := 1566) (by decide +kernel), List.mem_of_getElem? (i := 1567) (by decide +kernel)⟩
theorem lw_p102 : lw_okq (⟨"MixMachineModel", "waits", "(II)V"⟩, 45) := ⟨⟨by decide +kernel, by decide +kernel⟩, List.mem_of_getElem? (i := 1090) (by decide +kernel), List.mem_of_getElem? (i := 1570) (by decide +kernel), List.mem_of_getElem? (i := 1571) (by decide +kernel)⟩
theorem lw_p103 : lw_okq (⟨"MixMachineModel", "stand", "(II)V"⟩, 45) := ⟨⟨by decide +kernel, by decide +kernel⟩, List.mem_of_getElem? (i := 1090) (by decide +kernel), List.mem_of_getElem? (i := 1574) (by decide +kernel), List.mem_of_getElem? (i := 1575) (by decide +kernel)⟩
theorem lw_p104 : lw_okq (⟨"MixMachineModel", "directive", "(II)I"⟩, 45) := ⟨⟨by decide +kernel, by decide +kernel⟩, List.mem_of_getElem? (i := 1090) (by decide +kernel), List.mem_of_getElem? (i := 1578) (by decide +kernel), List.mem_of_getElem? (i := 1579) (by decide +kernel)⟩
theorem lw_p105 : lw_okq (⟨"MixMachineModel", "finish", "()V"⟩, 45) := ⟨⟨by decide +kernel, by decide +kernel⟩, List.mem_of_getElem? (i := 1090) (by decide +kernel), List.mem_of_getElem? (i := 1582) (by decide +kernel), List.mem_of_getElem? (i := 1583) (by decide +kernel)⟩
def lw_privs_7 : List (MethodName × Nat) := [(⟨"MixMachineModel", "here", "()I"⟩, 45), (⟨"MixMachineModel", "words", "()I"⟩, 45), (⟨"MixMachineModel", "expression", "()I"⟩, 45), (⟨"MixMachineModel", "atom", "()I"⟩, 45), (⟨"MixMachineModel", "bounded", "(J)I"⟩, 45), (⟨"MixMachineModel", "expect", "(I)V"⟩, 45), (⟨"MixMachineModel", "waits", "(II)V"⟩, 45), (⟨"MixMachineModel", "stand", "(II)V"⟩, 45), (⟨"MixMachineModel", "directive", "(II)I"⟩, 45), (⟨"MixMachineModel", "finish", "()V"⟩, 45)]
theorem lw_r7 : ∀ q ∈ lw_privs_7, lw_okq q := List.forall_mem_cons.mpr ⟨lw_p96, List.forall_mem_cons.mpr ⟨lw_p97, List.forall_mem_cons.mpr ⟨lw_p98, List.forall_mem_cons.mpr ⟨lw_p99, List.forall_mem_cons.mpr ⟨lw_p100, List.forall_mem_cons.mpr ⟨lw_p101, List.forall_mem_cons.mpr ⟨lw_p102, List.forall_mem_cons.mpr ⟨lw_p103, List.forall_mem_cons.mpr ⟨lw_p104, List.forall_mem_cons.mpr ⟨lw_p105, fun _ h => absurd h List.not_mem_nil⟩⟩⟩⟩⟩⟩⟩⟩⟩⟩
def lw_privs : List (MethodName × Nat) := lw_privs_1 ++ (lw_privs_2 ++ (lw_privs_3 ++ (lw_privs_4 ++ (lw_privs_5 ++ (lw_privs_6 ++ (lw_privs_7))))))
def lw_tbl : List Cond := k2_sels lw_privs ++ tables_1
theorem lw_privs_ok : ∀ q ∈ lw_privs, lw_okq q := by
  show ∀ q ∈ lw_privs_1 ++ (lw_privs_2 ++ (lw_privs_3 ++ (lw_privs_4 ++ (lw_privs_5 ++ (lw_privs_6 ++ (lw_privs_7)))))), lw_okq q
  exact List.forall_mem_append.mpr ⟨lw_r1, List.forall_mem_append.mpr ⟨lw_r2, List.forall_mem_append.mpr ⟨lw_r3, List.forall_mem_append.mpr ⟨lw_r4, List.forall_mem_append.mpr ⟨lw_r5, List.forall_mem_append.mpr ⟨lw_r6, lw_r7⟩⟩⟩⟩⟩⟩
end
section
/-! THE PROGRAM, IN THE SMALL MACHINE: printed by program -/
def nT0 : u_T := fun k => match k with
  | 0 => ("MixMachine", "memory", "[I", true)
  | 1 => ("MixMachine", "units", "LMixMachine$Units;", true)
  | 2 => ("MixMachine", "processor", "LMixMachine$Processor;", true)
  | 3 => ("MixMachine", "text", "LMixMachine$Text;", true)
  | 4 => ("MixMachine", "assembler", "LMixMachine$Assembler;", true)
  | _ => ("", "", "", false)
def nT1 : u_T := fun k => match k with
  | 0 => ("MixMachine$Units", "memory", "[I", true)
  | 1 => ("MixMachine$Units", "tapeWords", "[I", true)
  | 2 => ("MixMachine$Units", "cardWords", "[I", true)
  | 3 => ("MixMachine$Units", "lineWords", "[I", true)
  | 4 => ("MixMachine$Units", "busyUntil", "[I", true)
  | 5 => ("MixMachine$Units", "tapeBlock", "I", false)
  | 6 => ("MixMachine$Units", "oldestCard", "I", false)
  | 7 => ("MixMachine$Units", "cardCount", "I", false)
  | 8 => ("MixMachine$Units", "lineCount", "I", false)
  | _ => ("", "", "", false)
def nT2 : u_T := fun k => match k with
  | 0 => ("MixMachine$Processor", "memory", "[I", true)
  | 1 => ("MixMachine$Processor", "units", "LMixMachine$Units;", true)
  | 2 => ("MixMachine$Processor", "registers", "[I", true)
  | 3 => ("MixMachine$Processor", "toggle", "Z", false)
  | 4 => ("MixMachine$Processor", "indicator", "I", false)
  | 5 => ("MixMachine$Processor", "place", "I", false)
  | 6 => ("MixMachine$Processor", "status", "I", false)
  | 7 => ("MixMachine$Processor", "stepsDone", "I", false)
  | 8 => ("MixMachine$Processor", "stepsWaited", "I", false)
  | 9 => ("MixMachine$Processor", "nextPlace", "I", false)
  | 10 => ("MixMachine$Processor", "operation", "I", false)
  | 11 => ("MixMachine$Processor", "f", "I", false)
  | 12 => ("MixMachine$Processor", "index", "I", false)
  | 13 => ("MixMachine$Processor", "m", "I", false)
  | 14 => ("MixMachine$Processor", "mAsWord", "I", false)
  | _ => ("", "", "", false)
def nT3 : u_T := fun k => match k with
  | 0 => ("MixMachine$Text", "characters", "[C", true)
  | 1 => ("MixMachine$Text", "length", "I", false)
  | 2 => ("MixMachine$Text", "at", "I", false)
  | 3 => ("MixMachine$Text", "nextLine", "I", false)
  | 4 => ("MixMachine$Text", "lineEnd", "I", false)
  | 5 => ("MixMachine$Text", "partEnd", "I", false)
  | 6 => ("MixMachine$Text", "name", "J", false)
  | 7 => ("MixMachine$Text", "nameLength", "I", false)
  | 8 => ("MixMachine$Text", "capitals", "I", false)
  | 9 => ("MixMachine$Text", "number", "I", false)
  | _ => ("", "", "", false)
def nT4 : u_T := fun k => match k with
  | 0 => ("MixMachine$Assembler", "text", "LMixMachine$Text;", true)
  | 1 => ("MixMachine$Assembler", "symbols", "LMixMachine$Symbols;", true)
  | 2 => ("MixMachine$Assembler", "latestSymbols", "LMixMachine$Symbols;", true)
  | 3 => ("MixMachine$Assembler", "waits", "LMixMachine$Waits;", true)
  | 4 => ("MixMachine$Assembler", "words", "[I", true)
  | 5 => ("MixMachine$Assembler", "literals", "[I", true)
  | 6 => ("MixMachine$Assembler", "latestHere", "[I", true)
  | 7 => ("MixMachine$Assembler", "literalCount", "I", false)
  | 8 => ("MixMachine$Assembler", "place", "I", false)
  | 9 => ("MixMachine$Assembler", "start", "I", false)
  | 10 => ("MixMachine$Assembler", "ended", "Z", false)
  | 11 => ("MixMachine$Assembler", "lineAtHand", "I", false)
  | 12 => ("MixMachine$Assembler", "labelKind", "I", false)
  | 13 => ("MixMachine$Assembler", "labelSymbol", "I", false)
  | 14 => ("MixMachine$Assembler", "labelDigit", "I", false)
  | 15 => ("MixMachine$Assembler", "operation", "LMixMachine$Operation;", false)
  | 16 => ("MixMachine$Assembler", "code", "I", false)
  | 17 => ("MixMachine$Assembler", "awaited", "I", false)
  | _ => ("", "", "", false)
def nT5 : u_T := fun k => match k with
  | 0 => ("MixMachine$Symbols", "names", "[J", true)
  | 1 => ("MixMachine$Symbols", "values", "[I", true)
  | 2 => ("MixMachine$Symbols", "count", "I", false)
  | _ => ("", "", "", false)
def nT6 : u_T := fun k => match k with
  | 0 => ("MixMachine$Waits", "targets", "[I", true)
  | 1 => ("MixMachine$Waits", "places", "[I", true)
  | 2 => ("MixMachine$Waits", "lines", "[I", true)
  | 3 => ("MixMachine$Waits", "count", "I", false)
  | _ => ("", "", "", false)
def nT7 : u_T := fun k => match k with
  | 0 => ("MixMachineModel", "thrown", "I", false)
  | 1 => ("MixMachineModel", "memory", "[I", true)
  | 2 => ("MixMachineModel", "registers", "[I", true)
  | 3 => ("MixMachineModel", "toggle", "Z", false)
  | 4 => ("MixMachineModel", "stuck", "Z", false)
  | 5 => ("MixMachineModel", "indicator", "I", false)
  | 6 => ("MixMachineModel", "at", "I", false)
  | 7 => ("MixMachineModel", "next", "I", false)
  | 8 => ("MixMachineModel", "steps", "I", false)
  | 9 => ("MixMachineModel", "waited", "I", false)
  | 10 => ("MixMachineModel", "halted", "I", false)
  | 11 => ("MixMachineModel", "tape", "[I", true)
  | 12 => ("MixMachineModel", "block", "I", false)
  | 13 => ("MixMachineModel", "cards", "I", false)
  | 14 => ("MixMachineModel", "cardWords", "[I", true)
  | 15 => ("MixMachineModel", "lines", "I", false)
  | 16 => ("MixMachineModel", "printed", "[I", true)
  | 17 => ("MixMachineModel", "until", "[I", true)
  | 18 => ("MixMachineModel", "length", "I", false)
  | 19 => ("MixMachineModel", "text", "[I", true)
  | 20 => ("MixMachineModel", "wrongLine", "I", false)
  | 21 => ("MixMachineModel", "p", "I", false)
  | 22 => ("MixMachineModel", "end", "I", false)
  | 23 => ("MixMachineModel", "bad", "Z", false)
  | 24 => ("MixMachineModel", "place", "I", false)
  | 25 => ("MixMachineModel", "start", "I", false)
  | 26 => ("MixMachineModel", "ended", "Z", false)
  | 27 => ("MixMachineModel", "image", "[I", true)
  | 28 => ("MixMachineModel", "stands", "[Z", true)
  | 29 => ("MixMachineModel", "symbols", "I", false)
  | 30 => ("MixMachineModel", "names", "[J", true)
  | 31 => ("MixMachineModel", "has", "[Z", true)
  | 32 => ("MixMachineModel", "values", "[I", true)
  | 33 => ("MixMachineModel", "literals", "I", false)
  | 34 => ("MixMachineModel", "literalWords", "[I", true)
  | 35 => ("MixMachineModel", "hasBack", "[Z", true)
  | 36 => ("MixMachineModel", "back", "[I", true)
  | 37 => ("MixMachineModel", "waiting", "I", false)
  | 38 => ("MixMachineModel", "kind", "[I", true)
  | 39 => ("MixMachineModel", "which", "[I", true)
  | 40 => ("MixMachineModel", "where", "[I", true)
  | 41 => ("MixMachineModel", "open", "[Z", true)
  | 42 => ("MixMachineModel", "known", "I", false)
  | 43 => ("MixMachineModel", "knownNames", "[J", true)
  | 44 => ("MixMachineModel", "knownValues", "[I", true)
  | _ => ("", "", "", false)
def nT8 : u_T := fun k => match k with
  | _ => ("", "", "", false)
def nT9 : u_T := fun _ => ("", "", "", false)
def nCl : List vw_C := [("MixMachine", nT0, 5), ("MixMachine$Units", nT1, 9), ("MixMachine$Processor", nT2, 15), ("MixMachine$Text", nT3, 10), ("MixMachine$Assembler", nT4, 18), ("MixMachine$Symbols", nT5, 3), ("MixMachine$Waits", nT6, 4), ("MixMachineModel", nT7, 45), ("MixMachine", nT8, 0), ("java/lang/IllegalArgumentException", nT9, 0), ("java/lang/IllegalStateException", nT9, 0), ("java/lang/IndexOutOfBoundsException", nT9, 0), ("java/util/NoSuchElementException", nT9, 0)]
def nEX : Nat → String := fun x => match x with
  | 1 => "java/lang/IllegalStateException"
  | 2 => "java/lang/IndexOutOfBoundsException"
  | 3 => "java/util/NoSuchElementException"
  | _ => "java/lang/IllegalArgumentException"
def nCt : Nat → Nat := fun x => match x with
  | 1 => 15
  | 2 => 39
  | 3 => 25
  | _ => 13
def nDflt : Nat → List Value := fun c => match c with
  | 0 => [.null, .null, .null, .null, .null]
  | 1 => [.null, .null, .null, .null, .null, .int 0, .int 0, .int 0, .int 0]
  | 2 => [.null, .null, .null, .int 0, .int 0, .int 0, .int 0, .int 0, .int 0, .int 0, .int 0, .int 0, .int 0, .int 0, .int 0]
  | 3 => [.null, .int 0, .int 0, .int 0, .int 0, .int 0, .long 0, .int 0, .int 0, .int 0]
  | 4 => [.null, .null, .null, .null, .null, .null, .null, .int 0, .int 0, .int 0, .int 0, .int 0, .int 0, .int 0, .int 0, .null, .int 0, .int 0]
  | 5 => [.null, .null, .int 0]
  | 6 => [.null, .null, .null, .int 0]
  | 7 => [.int 0, .null, .null, .int 0, .int 0, .int 0, .int 0, .int 0, .int 0, .int 0, .int 0, .null, .int 0, .int 0, .null, .int 0, .null, .null, .int 0, .null, .int 0, .int 0, .int 0, .int 0, .int 0, .int 0, .int 0, .null, .null, .int 0, .null, .null, .null, .int 0, .null, .null, .null, .int 0, .null, .null, .null, .null, .int 0, .null, .null]
  | _ => []
def nZ0 : List (String × String × String × Value) := [("MixMachine$Units", "BUSY_STEPS", "[I", .ref 1), ("MixMachine$Operation", "ALL", "[LMixMachine$Operation;", .ref 52), ("java/lang/String", "COMPACT_STRINGS", "Z", .int 1), ("MixMachine$Operation", "NOP", "LMixMachine$Operation;", .ref 2), ("MixMachine$Operation", "EQU", "LMixMachine$Operation;", .ref 48), ("MixMachine$Operation", "ORIG", "LMixMachine$Operation;", .ref 49), ("MixMachine$Operation", "CON", "LMixMachine$Operation;", .ref 50), ("MixMachine$Operation", "END", "LMixMachine$Operation;", .ref 51)]
def nStrs : List (String × Nat × String) := [("MixMachine", 53, "not 1 to 8 characters"), ("MixMachine", 64, "the text is full"), ("MixMachine$Assembler", 148, "no label"), ("MixMachine$Assembler", 171, "too many symbols"), ("MixMachine$Assembler", 162, "a label that has a value"), ("MixMachine$Assembler", 186, "no operation"), ("MixMachine$Assembler", 191, "EQU without a label, or END with one"), ("MixMachine$Assembler", 286, "no address"), ("MixMachine$Assembler", 325, "no atom"), ("MixMachine$Assembler", 312, "divided by 0"), ("MixMachine$Assembler", 320, "too great"), ("MixMachine$Assembler", 299, "no field"), ("MixMachine$Assembler", 288, "a literal that does not end, or too many"), ("MixMachine$Assembler", 268, "no index, or no F"), ("MixMachine$Assembler", 243, "an F that does not end"), ("MixMachine$Assembler", 245, "more than an address part"), ("MixMachine$Assembler", 327, "no place"), ("MixMachine$Assembler", 262, "too many that wait"), ("MixMachine$Assembler", 196, "more than a W"), ("MixMachine$Assembler", 225, "no start"), ("MixMachine$Assembler", 341, "no END"), ("MixMachine$Assembler", 346, "no H for an F"), ("MixMachine", 107, "no such symbol"), ("MixMachine", 110, "not 1 to 500 steps"), ("MixMachine", 115, "the machine has stopped"), ("MixMachine", 127, "no such place"), ("MixMachine", 132, "no word"), ("MixMachine", 134, "no such register"), ("MixMachine", 142, "there are six cards"), ("MixMachine", 151, "no such word of a line"), ("MixMachine", 157, "no such word of the tape"), ("MixMachine", 181, "no such state")]
def nNcs : List (Nat × Nat) := [(0, 1), (0, 2), (0, 3), (1, 0), (1, 2), (1, 3), (2, 0), (2, 1), (2, 3), (3, 0), (3, 1), (3, 2)]
def nHn : Nat → List (Nat × Nat × Nat × Nat) := fun i => match i with
  | 3 => [(0, 11, 14, 0), (0, 11, 18, 1)]
  | 7 => [(0, 8, 11, 0)]
  | 11 => [(0, 9, 12, 3)]
  | 13 => [(0, 9, 12, 0), (0, 9, 15, 1)]
  | 15 => [(0, 16, 19, 0)]
  | 17 => [(0, 10, 13, 2), (0, 10, 17, 0)]
  | 19 => [(0, 9, 12, 2)]
  | 21 => [(0, 9, 12, 2)]
  | 23 => [(0, 14, 17, 0), (0, 14, 21, 1)]
  | 25 => [(0, 10, 13, 2)]
  | 27 => [(0, 10, 13, 2)]
  | 29 => [(0, 9, 12, 2)]
  | _ => []
def nMt : Nat → mMt := fun i => match i with
  | 1 => (⟨"MixMachine", "<init>", "()V"⟩, prog_1_method_1_code, 1, none)
  | 2 => (⟨"MixMachineModel", "<init>", "()V"⟩, prog_11_method_1_code, 1, none)
  | 3 => (⟨"MixMachineLaw", "write", "(LMixMachine;JI[J)I"⟩, method_3_code, 6, (some Jvm.ClassFile.FieldType.int))
  | 4 => (⟨"MixMachineModel", "write", "(JI)I"⟩, prog_11_method_44_code, 7, (some Jvm.ClassFile.FieldType.int))
  | 5 => (⟨"MixMachine", "erase", "()I"⟩, prog_1_method_3_code, 2, (some Jvm.ClassFile.FieldType.int))
  | 6 => (⟨"MixMachineModel", "erase", "()I"⟩, prog_11_method_45_code, 2, (some Jvm.ClassFile.FieldType.int))
  | 7 => (⟨"MixMachineLaw", "assemble", "(LMixMachine;[J)I"⟩, method_4_code, 3, (some Jvm.ClassFile.FieldType.int))
  | 8 => (⟨"MixMachineModel", "assemble", "()I"⟩, prog_11_method_80_code, 4, (some Jvm.ClassFile.FieldType.int))
  | 9 => (⟨"MixMachine", "line", "()I"⟩, prog_1_method_5_code, 1, (some Jvm.ClassFile.FieldType.int))
  | 10 => (⟨"MixMachineModel", "line", "()I"⟩, prog_11_method_81_code, 1, (some Jvm.ClassFile.FieldType.int))
  | 11 => (⟨"MixMachineLaw", "symbol", "(LMixMachine;J[J)I"⟩, method_5_code, 5, (some Jvm.ClassFile.FieldType.int))
  | 12 => (⟨"MixMachineModel", "symbol", "(J)I"⟩, prog_11_method_82_code, 4, (some Jvm.ClassFile.FieldType.int))
  | 13 => (⟨"MixMachineLaw", "step", "(LMixMachine;I[J)I"⟩, method_6_code, 4, (some Jvm.ClassFile.FieldType.int))
  | 14 => (⟨"MixMachineModel", "step", "(I)I"⟩, prog_11_method_42_code, 3, (some Jvm.ClassFile.FieldType.int))
  | 15 => (⟨"MixMachineLaw", "go", "(LMixMachine;I[J)I"⟩, method_7_code, 4, (some Jvm.ClassFile.FieldType.int))
  | 16 => (⟨"MixMachineModel", "go", "(I)Z"⟩, prog_11_method_43_code, 3, (some Jvm.ClassFile.FieldType.boolean))
  | 17 => (⟨"MixMachineLaw", "poke", "(LMixMachine;II[J)I"⟩, method_8_code, 5, (some Jvm.ClassFile.FieldType.int))
  | 18 => (⟨"MixMachineModel", "poke", "(II)I"⟩, prog_11_method_83_code, 4, (some Jvm.ClassFile.FieldType.int))
  | 19 => (⟨"MixMachineLaw", "word", "(LMixMachine;I[J)I"⟩, method_9_code, 4, (some Jvm.ClassFile.FieldType.int))
  | 20 => (⟨"MixMachineModel", "word", "(I)I"⟩, prog_11_method_84_code, 2, (some Jvm.ClassFile.FieldType.int))
  | 21 => (⟨"MixMachineLaw", "register", "(LMixMachine;I[J)I"⟩, method_10_code, 4, (some Jvm.ClassFile.FieldType.int))
  | 22 => (⟨"MixMachineModel", "register", "(I)I"⟩, prog_11_method_85_code, 2, (some Jvm.ClassFile.FieldType.int))
  | 23 => (⟨"MixMachineLaw", "card", "(LMixMachine;IIII[J)I"⟩, method_11_code, 7, (some Jvm.ClassFile.FieldType.int))
  | 24 => (⟨"MixMachineModel", "card", "(IIII)I"⟩, prog_11_method_86_code, 5, (some Jvm.ClassFile.FieldType.int))
  | 25 => (⟨"MixMachineLaw", "printed", "(LMixMachine;II[J)I"⟩, method_12_code, 5, (some Jvm.ClassFile.FieldType.int))
  | 26 => (⟨"MixMachineModel", "printed", "(II)I"⟩, prog_11_method_87_code, 3, (some Jvm.ClassFile.FieldType.int))
  | 27 => (⟨"MixMachineLaw", "tape", "(LMixMachine;II[J)I"⟩, method_13_code, 5, (some Jvm.ClassFile.FieldType.int))
  | 28 => (⟨"MixMachineModel", "tape", "(II)I"⟩, prog_11_method_88_code, 3, (some Jvm.ClassFile.FieldType.int))
  | 29 => (⟨"MixMachineLaw", "state", "(LMixMachine;I[J)I"⟩, method_14_code, 4, (some Jvm.ClassFile.FieldType.int))
  | 30 => (⟨"MixMachineModel", "state", "(I)I"⟩, prog_11_method_89_code, 2, (some Jvm.ClassFile.FieldType.int))
  | 31 => (⟨"MixMachine$Units", "<init>", "([I)V"⟩, prog_7_method_1_code, 2, none)
  | 32 => (⟨"MixMachine$Processor", "<init>", "([ILMixMachine$Units;)V"⟩, prog_4_method_1_code, 3, none)
  | 33 => (⟨"MixMachine$Text", "<init>", "()V"⟩, prog_6_method_1_code, 1, none)
  | 34 => (⟨"MixMachine$Assembler", "<init>", "(LMixMachine$Text;)V"⟩, prog_2_method_1_code, 2, none)
  | 35 => (⟨"MixMachine", "write", "(JI)I"⟩, prog_1_method_2_code, 4, (some Jvm.ClassFile.FieldType.int))
  | 36 => (⟨"MixMachineModel", "within", "(III)Z"⟩, prog_11_method_4_code, 3, (some Jvm.ClassFile.FieldType.boolean))
  | 37 => (⟨"MixMachineModel", "fail", "(I)I"⟩, prog_11_method_3_code, 2, (some Jvm.ClassFile.FieldType.int))
  | 38 => (⟨"MixMachine", "assemble", "()I"⟩, prog_1_method_4_code, 2, (some Jvm.ClassFile.FieldType.int))
  | 39 => (⟨"MixMachineModel", "fresh", "()V"⟩, prog_11_method_79_code, 2, none)
  | 40 => (⟨"MixMachineModel", "wrong", "()V"⟩, prog_11_method_46_code, 1, none)
  | 41 => (⟨"MixMachineModel", "readLine", "(II)V"⟩, prog_11_method_78_code, 8, none)
  | 42 => (⟨"MixMachine", "symbol", "(J)I"⟩, prog_1_method_6_code, 4, (some Jvm.ClassFile.FieldType.int))
  | 43 => (⟨"MixMachine", "step", "(I)I"⟩, prog_1_method_7_code, 4, (some Jvm.ClassFile.FieldType.int))
  | 44 => (⟨"MixMachineModel", "goes", "()Z"⟩, prog_11_method_41_code, 6, (some Jvm.ClassFile.FieldType.boolean))
  | 45 => (⟨"MixMachine", "go", "(I)Z"⟩, prog_1_method_8_code, 3, (some Jvm.ClassFile.FieldType.boolean))
  | 46 => (⟨"MixMachineModel", "isPlace", "(I)Z"⟩, prog_11_method_16_code, 2, (some Jvm.ClassFile.FieldType.boolean))
  | 47 => (⟨"MixMachine", "poke", "(II)I"⟩, prog_1_method_9_code, 4, (some Jvm.ClassFile.FieldType.int))
  | 48 => (⟨"MixMachine", "word", "(I)I"⟩, prog_1_method_10_code, 2, (some Jvm.ClassFile.FieldType.int))
  | 49 => (⟨"MixMachine", "register", "(I)I"⟩, prog_1_method_11_code, 2, (some Jvm.ClassFile.FieldType.int))
  | 50 => (⟨"MixMachine", "card", "(IIII)I"⟩, prog_1_method_12_code, 5, (some Jvm.ClassFile.FieldType.int))
  | 51 => (⟨"MixMachine", "printed", "(II)I"⟩, prog_1_method_13_code, 3, (some Jvm.ClassFile.FieldType.int))
  | 52 => (⟨"MixMachine", "tape", "(II)I"⟩, prog_1_method_14_code, 3, (some Jvm.ClassFile.FieldType.int))
  | 53 => (⟨"MixMachine", "state", "(I)I"⟩, prog_1_method_15_code, 2, (some Jvm.ClassFile.FieldType.int))
  | 54 => (⟨"MixMachine$Symbols", "<init>", "()V"⟩, prog_5_method_1_code, 1, none)
  | 55 => (⟨"MixMachine$Waits", "<init>", "()V"⟩, prog_8_method_1_code, 1, none)
  | 56 => (⟨"MixMachine$Text", "areCharacters", "(JI)Z"⟩, prog_6_method_2_code, 6, (some Jvm.ClassFile.FieldType.boolean))
  | 57 => (⟨"MixMachine$Text", "append", "(JI)V"⟩, prog_6_method_3_code, 5, none)
  | 58 => (⟨"MixMachine$Assembler", "begin", "()V"⟩, prog_2_method_2_code, 1, none)
  | 59 => (⟨"MixMachine$Assembler", "wantsLine", "()Z"⟩, prog_2_method_3_code, 1, (some Jvm.ClassFile.FieldType.boolean))
  | 60 => (⟨"MixMachine$Assembler", "readNextLine", "()V"⟩, prog_2_method_4_code, 3, none)
  | 61 => (⟨"MixMachine$Assembler", "finish", "()I"⟩, prog_2_method_24_code, 1, (some Jvm.ClassFile.FieldType.int))
  | 62 => (⟨"MixMachine$Assembler", "copyWordsTo", "([I)V"⟩, prog_2_method_27_code, 3, none)
  | 63 => (⟨"MixMachine$Processor", "goFrom", "(I)V"⟩, prog_4_method_2_code, 2, none)
  | 64 => (⟨"MixMachineModel", "skip", "(II)I"⟩, prog_11_method_77_code, 4, (some Jvm.ClassFile.FieldType.int))
  | 65 => (⟨"MixMachineModel", "stop", "(II)I"⟩, prog_11_method_76_code, 4, (some Jvm.ClassFile.FieldType.int))
  | 66 => (⟨"MixMachineModel", "run", "(I)I"⟩, prog_11_method_50_code, 3, (some Jvm.ClassFile.FieldType.int))
  | 67 => (⟨"MixMachineModel", "statement", "(IIII)V"⟩, prog_11_method_74_code, 12, none)
  | 68 => (⟨"MixMachine$Symbols", "valueOf", "(J)I"⟩, prog_5_method_2_code, 4, (some Jvm.ClassFile.FieldType.int))
  | 69 => (⟨"MixMachine$Processor", "tryStep", "()V"⟩, prog_4_method_3_code, 1, none)
  | 70 => (⟨"MixMachineModel", "mag", "(I)I"⟩, prog_11_method_5_code, 1, (some Jvm.ClassFile.FieldType.int))
  | 71 => (⟨"MixMachineModel", "unit", "(I)I"⟩, prog_11_method_15_code, 1, (some Jvm.ClassFile.FieldType.int))
  | 72 => (⟨"MixMachineModel", "busyNow", "(I)Z"⟩, prog_11_method_40_code, 2, (some Jvm.ClassFile.FieldType.boolean))
  | 73 => (⟨"MixMachineModel", "minus", "(I)Z"⟩, prog_11_method_6_code, 1, (some Jvm.ClassFile.FieldType.boolean))
  | 74 => (⟨"MixMachineModel", "valueOf", "(I)I"⟩, prog_11_method_8_code, 1, (some Jvm.ClassFile.FieldType.int))
  | 75 => (⟨"MixMachineModel", "operate", "(IIIZ)V"⟩, prog_11_method_39_code, 5, none)
  | 76 => (⟨"MixMachine", "isPlace", "(I)Z"⟩, prog_1_method_16_code, 1, (some Jvm.ClassFile.FieldType.boolean))
  | 77 => (⟨"MixMachine$Units", "addCard", "(IIII)V"⟩, prog_7_method_10_code, 6, none)
  | 78 => (⟨"MixMachine$Units", "linesKept", "()I"⟩, prog_7_method_11_code, 1, (some Jvm.ClassFile.FieldType.int))
  | 79 => (⟨"MixMachine$Units", "printedWord", "(II)I"⟩, prog_7_method_12_code, 3, (some Jvm.ClassFile.FieldType.int))
  | 80 => (⟨"java/util/Arrays", "fill", "([II)V"⟩, prog_26_method_103_code, 4, none)
  | 81 => (⟨"MixMachine$Text", "openLine", "()V"⟩, prog_6_method_4_code, 1, none)
  | 82 => (⟨"MixMachine$Text", "isLineNothing", "()Z"⟩, prog_6_method_5_code, 2, (some Jvm.ClassFile.FieldType.boolean))
  | 83 => (⟨"MixMachine$Assembler", "readLabel", "()V"⟩, prog_2_method_5_code, 1, none)
  | 84 => (⟨"MixMachine$Assembler", "readOperation", "()V"⟩, prog_2_method_7_code, 2, none)
  | 85 => (⟨"MixMachine$Assembler", "checkLabel", "()V"⟩, prog_2_method_8_code, 3, none)
  | 86 => (⟨"MixMachine$Words", "of", "(J)I"⟩, prog_9_method_2_code, 2, (some Jvm.ClassFile.FieldType.int))
  | 87 => (⟨"MixMachine$Assembler", "giveValue", "(II)V"⟩, prog_2_method_22_code, 3, none)
  | 88 => (⟨"MixMachine$Operation", "isInstruction", "()Z"⟩, prog_3_method_4_code, 1, (some Jvm.ClassFile.FieldType.boolean))
  | 89 => (⟨"MixMachine$Assembler", "readInstruction", "()V"⟩, prog_2_method_12_code, 5, none)
  | 90 => (⟨"MixMachine$Assembler", "readDirective", "()I"⟩, prog_2_method_9_code, 2, (some Jvm.ClassFile.FieldType.int))
  | 91 => (⟨"MixMachine$Assembler", "fillIn", "(II)V"⟩, prog_2_method_23_code, 6, none)
  | 92 => (⟨"MixMachine$Waits", "isDigitAwaited", "()Z"⟩, prog_8_method_3_code, 2, (some Jvm.ClassFile.FieldType.boolean))
  | 93 => (⟨"MixMachine$Assembler", "placeSymbols", "()V"⟩, prog_2_method_25_code, 2, none)
  | 94 => (⟨"MixMachine$Assembler", "placeLiterals", "()V"⟩, prog_2_method_26_code, 2, none)
  | 95 => (⟨"MixMachine$Symbols", "copyFrom", "(LMixMachine$Symbols;)V"⟩, prog_5_method_4_code, 2, none)
  | 96 => (⟨"MixMachineModel", "plain", "(I)Z"⟩, prog_11_method_48_code, 1, (some Jvm.ClassFile.FieldType.boolean))
  | 97 => (⟨"MixMachineModel", "local", "(III)Z"⟩, prog_11_method_52_code, 4, (some Jvm.ClassFile.FieldType.boolean))
  | 98 => (⟨"MixMachineModel", "operation", "(II)I"⟩, prog_11_method_70_code, 12, (some Jvm.ClassFile.FieldType.int))
  | 99 => (⟨"MixMachineModel", "isSymbol", "(II)Z"⟩, prog_11_method_53_code, 5, (some Jvm.ClassFile.FieldType.boolean))
  | 100 => (⟨"MixMachineModel", "symbolAt", "(II)I"⟩, prog_11_method_55_code, 4, (some Jvm.ClassFile.FieldType.int))
  | 101 => (⟨"MixMachineModel", "ofValue", "(I)I"⟩, prog_11_method_9_code, 1, (some Jvm.ClassFile.FieldType.int))
  | 102 => (⟨"MixMachineModel", "define", "(II)V"⟩, prog_11_method_65_code, 3, none)
  | 103 => (⟨"MixMachineModel", "instruction", "(I)V"⟩, prog_11_method_72_code, 6, none)
  | 104 => (⟨"MixMachineModel", "directive", "(II)I"⟩, prog_11_method_75_code, 4, (some Jvm.ClassFile.FieldType.int))
  | 105 => (⟨"MixMachineModel", "settle", "(IIII)V"⟩, prog_11_method_64_code, 6, none)
  | 106 => (⟨"MixMachine$Processor", "decode", "(I)V"⟩, prog_4_method_4_code, 4, none)
  | 107 => (⟨"MixMachine$Processor", "mustWait", "()Z"⟩, prog_4_method_5_code, 1, (some Jvm.ClassFile.FieldType.boolean))
  | 108 => (⟨"MixMachine$Processor", "execute", "()Z"⟩, prog_4_method_6_code, 1, (some Jvm.ClassFile.FieldType.boolean))
  | 109 => (⟨"MixMachineModel", "touches", "(III)V"⟩, prog_11_method_38_code, 5, none)
  | 110 => (⟨"MixMachineModel", "special", "(I)V"⟩, prog_11_method_31_code, 5, none)
  | 111 => (⟨"MixMachineModel", "shift", "(II)V"⟩, prog_11_method_32_code, 10, none)
  | 112 => (⟨"MixMachineModel", "move", "(II)V"⟩, prog_11_method_33_code, 5, none)
  | 113 => (⟨"MixMachineModel", "need", "(Z)V"⟩, prog_11_method_18_code, 2, none)
  | 114 => (⟨"MixMachineModel", "jump", "(IZ)V"⟩, prog_11_method_23_code, 3, none)
  | 115 => (⟨"MixMachineModel", "units", "(III)V"⟩, prog_11_method_22_code, 5, none)
  | 116 => (⟨"MixMachineModel", "jumps", "(II)V"⟩, prog_11_method_35_code, 4, none)
  | 117 => (⟨"MixMachineModel", "moves", "(IIIZ)V"⟩, prog_11_method_36_code, 6, none)
  | 118 => (⟨"MixMachine$Text", "openPart", "()V"⟩, prog_6_method_7_code, 1, none)
  | 119 => (⟨"MixMachine$Text", "isPartRead", "()Z"⟩, prog_6_method_8_code, 1, (some Jvm.ClassFile.FieldType.boolean))
  | 120 => (⟨"MixMachine$Text", "readName", "()V"⟩, prog_6_method_12_code, 3, none)
  | 121 => (⟨"MixMachine$Text", "kindOfName", "()I"⟩, prog_6_method_13_code, 1, (some Jvm.ClassFile.FieldType.int))
  | 122 => (⟨"MixMachine$Text", "digitOfName", "()I"⟩, prog_6_method_14_code, 1, (some Jvm.ClassFile.FieldType.int))
  | 123 => (⟨"MixMachine$Assembler", "symbolAtHand", "()I"⟩, prog_2_method_6_code, 2, (some Jvm.ClassFile.FieldType.int))
  | 124 => (⟨"MixMachine$Text", "skipSpaces", "()V"⟩, prog_6_method_6_code, 1, none)
  | 125 => (⟨"MixMachine$Operation", "codeOf", "(J)I"⟩, prog_3_method_6_code, 7, (some Jvm.ClassFile.FieldType.int))
  | 126 => (⟨"MixMachine$Assembler", "readAPart", "()I"⟩, prog_2_method_14_code, 4, (some Jvm.ClassFile.FieldType.int))
  | 127 => (⟨"MixMachine$Text", "take", "(C)Z"⟩, prog_6_method_9_code, 2, (some Jvm.ClassFile.FieldType.boolean))
  | 128 => (⟨"MixMachine$Assembler", "readUpTo", "(I)I"⟩, prog_2_method_13_code, 4, (some Jvm.ClassFile.FieldType.int))
  | 129 => (⟨"MixMachine$Operation", "tellsF", "()Z"⟩, prog_3_method_5_code, 1, (some Jvm.ClassFile.FieldType.boolean))
  | 130 => (⟨"MixMachine$Words", "signed", "(II)I"⟩, prog_9_method_3_code, 2, (some Jvm.ClassFile.FieldType.int))
  | 131 => (⟨"MixMachine$Words", "stored", "(III)I"⟩, prog_9_method_9_code, 6, (some Jvm.ClassFile.FieldType.int))
  | 132 => (⟨"MixMachine$Assembler", "put", "(I)V"⟩, prog_2_method_21_code, 2, none)
  | 133 => (⟨"MixMachine$Waits", "add", "(III)Z"⟩, prog_8_method_2_code, 4, (some Jvm.ClassFile.FieldType.boolean))
  | 134 => (⟨"MixMachine$Assembler", "readW", "()I"⟩, prog_2_method_17_code, 7, (some Jvm.ClassFile.FieldType.int))
  | 135 => (⟨"MixMachine$Assembler", "equate", "(I)V"⟩, prog_2_method_10_code, 2, none)
  | 136 => (⟨"MixMachine$Words", "value", "(I)I"⟩, prog_9_method_6_code, 1, (some Jvm.ClassFile.FieldType.int))
  | 137 => (⟨"MixMachine$Assembler", "end", "(I)V"⟩, prog_2_method_11_code, 2, none)
  | 138 => (⟨"MixMachine$Words", "magnitude", "(I)I"⟩, prog_9_method_4_code, 1, (some Jvm.ClassFile.FieldType.int))
  | 139 => (⟨"MixMachineModel", "digit", "(I)Z"⟩, prog_11_method_47_code, 1, (some Jvm.ClassFile.FieldType.boolean))
  | 140 => (⟨"MixMachineModel", "packed", "(II)J"⟩, prog_11_method_51_code, 6, (some Jvm.ClassFile.FieldType.long))
  | 141 => (⟨"MixMachineModel", "first", "(J)I"⟩, prog_11_method_67_code, 2, (some Jvm.ClassFile.FieldType.int))
  | 142 => (⟨"MixMachineModel", "second", "(J)I"⟩, prog_11_method_68_code, 2, (some Jvm.ClassFile.FieldType.int))
  | 143 => (⟨"MixMachineModel", "letterOf", "(I)I"⟩, prog_11_method_66_code, 1, (some Jvm.ClassFile.FieldType.int))
  | 144 => (⟨"MixMachineModel", "condition", "(J)I"⟩, prog_11_method_69_code, 2, (some Jvm.ClassFile.FieldType.int))
  | 145 => (⟨"MixMachineModel", "find", "(J)I"⟩, prog_11_method_54_code, 5, (some Jvm.ClassFile.FieldType.int))
  | 146 => (⟨"MixMachineModel", "made", "(IZ)I"⟩, prog_11_method_7_code, 2, (some Jvm.ClassFile.FieldType.int))
  | 147 => (⟨"MixMachineModel", "apart", "()I"⟩, prog_11_method_71_code, 5, (some Jvm.ClassFile.FieldType.int))
  | 148 => (⟨"MixMachineModel", "here", "()I"⟩, prog_11_method_49_code, 1, (some Jvm.ClassFile.FieldType.int))
  | 149 => (⟨"MixMachineModel", "expression", "()I"⟩, prog_11_method_59_code, 5, (some Jvm.ClassFile.FieldType.int))
  | 150 => (⟨"MixMachineModel", "expect", "(I)V"⟩, prog_11_method_60_code, 2, none)
  | 151 => (⟨"MixMachineModel", "stand", "(II)V"⟩, prog_11_method_62_code, 3, none)
  | 152 => (⟨"MixMachineModel", "words", "()I"⟩, prog_11_method_61_code, 5, (some Jvm.ClassFile.FieldType.int))
  | 153 => (⟨"MixMachineModel", "finish", "()V"⟩, prog_11_method_73_code, 2, none)
  | 154 => (⟨"MixMachine$Words", "fieldOf", "(II)I"⟩, prog_9_method_8_code, 3, (some Jvm.ClassFile.FieldType.int))
  | 155 => (⟨"MixMachine$Units", "slotOf", "(I)I"⟩, prog_7_method_2_code, 1, (some Jvm.ClassFile.FieldType.int))
  | 156 => (⟨"MixMachine$Units", "isBusy", "(II)Z"⟩, prog_7_method_3_code, 3, (some Jvm.ClassFile.FieldType.boolean))
  | 157 => (⟨"MixMachine$Processor", "calculate", "()Z"⟩, prog_4_method_8_code, 2, (some Jvm.ClassFile.FieldType.boolean))
  | 158 => (⟨"MixMachine$Processor", "convertOrHalt", "()Z"⟩, prog_4_method_15_code, 1, (some Jvm.ClassFile.FieldType.boolean))
  | 159 => (⟨"MixMachine$Processor", "shift", "()Z"⟩, prog_4_method_18_code, 8, (some Jvm.ClassFile.FieldType.boolean))
  | 160 => (⟨"MixMachine$Processor", "moveWords", "()Z"⟩, prog_4_method_19_code, 3, (some Jvm.ClassFile.FieldType.boolean))
  | 161 => (⟨"MixMachine$Processor", "load", "()Z"⟩, prog_4_method_20_code, 2, (some Jvm.ClassFile.FieldType.boolean))
  | 162 => (⟨"MixMachine$Processor", "store", "()Z"⟩, prog_4_method_22_code, 2, (some Jvm.ClassFile.FieldType.boolean))
  | 163 => (⟨"MixMachine$Processor", "useUnit", "()Z"⟩, prog_4_method_23_code, 3, (some Jvm.ClassFile.FieldType.boolean))
  | 164 => (⟨"MixMachine$Processor", "jump", "()Z"⟩, prog_4_method_24_code, 1, (some Jvm.ClassFile.FieldType.boolean))
  | 165 => (⟨"MixMachine$Processor", "jumpByRegister", "()Z"⟩, prog_4_method_28_code, 1, (some Jvm.ClassFile.FieldType.boolean))
  | 166 => (⟨"MixMachine$Processor", "changeRegister", "()Z"⟩, prog_4_method_30_code, 2, (some Jvm.ClassFile.FieldType.boolean))
  | 167 => (⟨"MixMachine$Processor", "compare", "()Z"⟩, prog_4_method_31_code, 2, (some Jvm.ClassFile.FieldType.boolean))
  | 168 => (⟨"MixMachineModel", "isField", "(I)Z"⟩, prog_11_method_10_code, 1, (some Jvm.ClassFile.FieldType.boolean))
  | 169 => (⟨"MixMachineModel", "part", "(II)I"⟩, prog_11_method_13_code, 2, (some Jvm.ClassFile.FieldType.int))
  | 170 => (⟨"MixMachineModel", "arithmetic", "(II)V"⟩, prog_11_method_28_code, 3, none)
  | 171 => (⟨"MixMachineModel", "set", "(II)V"⟩, prog_11_method_25_code, 3, none)
  | 172 => (⟨"MixMachineModel", "put", "(III)I"⟩, prog_11_method_14_code, 5, (some Jvm.ClassFile.FieldType.int))
  | 173 => (⟨"MixMachineModel", "compare", "(III)V"⟩, prog_11_method_37_code, 6, none)
  | 174 => (⟨"MixMachineModel", "byteOf", "(II)I"⟩, prog_11_method_29_code, 2, (some Jvm.ClassFile.FieldType.int))
  | 175 => (⟨"MixMachineModel", "characters", "()V"⟩, prog_11_method_30_code, 6, none)
  | 176 => (⟨"MixMachineModel", "row", "(II)Z"⟩, prog_11_method_17_code, 4, (some Jvm.ClassFile.FieldType.boolean))
  | 177 => (⟨"MixMachineModel", "add", "(II)V"⟩, prog_11_method_24_code, 9, none)
  | 178 => (⟨"MixMachineModel", "control", "(II)V"⟩, prog_11_method_21_code, 4, none)
  | 179 => (⟨"MixMachineModel", "reads", "(II)V"⟩, prog_11_method_19_code, 4, none)
  | 180 => (⟨"MixMachineModel", "writes", "(II)V"⟩, prog_11_method_20_code, 4, none)
  | 181 => (⟨"MixMachineModel", "sign", "(II)Z"⟩, prog_11_method_34_code, 3, (some Jvm.ClassFile.FieldType.boolean))
  | 182 => (⟨"MixMachine$Symbols", "indexOf", "(J)I"⟩, prog_5_method_3_code, 4, (some Jvm.ClassFile.FieldType.int))
  | 183 => (⟨"java/lang/String", "length", "()I"⟩, prog_21_method_54_code, 1, (some Jvm.ClassFile.FieldType.int))
  | 184 => (⟨"java/lang/String", "charAt", "(I)C"⟩, prog_21_method_56_code, 2, (some Jvm.ClassFile.FieldType.char))
  | 185 => (⟨"java/lang/String", "indexOf", "(I)I"⟩, prog_21_method_79_code, 2, (some Jvm.ClassFile.FieldType.int))
  | 186 => (⟨"MixMachine$Text", "isAPartRead", "()Z"⟩, prog_6_method_11_code, 1, (some Jvm.ClassFile.FieldType.boolean))
  | 187 => (⟨"MixMachine$Assembler", "readLiteral", "(I)V"⟩, prog_2_method_15_code, 2, none)
  | 188 => (⟨"MixMachine$Assembler", "isToCome", "()Z"⟩, prog_2_method_16_code, 2, (some Jvm.ClassFile.FieldType.boolean))
  | 189 => (⟨"MixMachine$Assembler", "readExpression", "()J"⟩, prog_2_method_18_code, 6, (some Jvm.ClassFile.FieldType.long))
  | 190 => (⟨"MixMachine$Words", "lowBytes", "(I)I"⟩, prog_9_method_10_code, 2, (some Jvm.ClassFile.FieldType.int))
  | 191 => (⟨"MixMachine$Words", "minus", "(I)I"⟩, prog_9_method_5_code, 1, (some Jvm.ClassFile.FieldType.int))
  | 192 => (⟨"MixMachine$Words", "isField", "(J)Z"⟩, prog_9_method_7_code, 2, (some Jvm.ClassFile.FieldType.boolean))
  | 193 => (⟨"MixMachineModel", "waits", "(II)V"⟩, prog_11_method_63_code, 3, none)
  | 194 => (⟨"MixMachineModel", "atom", "()I"⟩, prog_11_method_57_code, 5, (some Jvm.ClassFile.FieldType.int))
  | 195 => (⟨"MixMachineModel", "operator", "(I)Z"⟩, prog_11_method_58_code, 1, (some Jvm.ClassFile.FieldType.boolean))
  | 196 => (⟨"MixMachineModel", "bounded", "(J)I"⟩, prog_11_method_56_code, 3, (some Jvm.ClassFile.FieldType.int))
  | 197 => (⟨"MixMachine$Processor", "hasFieldInMemory", "()Z"⟩, prog_4_method_7_code, 1, (some Jvm.ClassFile.FieldType.boolean))
  | 198 => (⟨"MixMachine$Processor", "addTo", "(II)V"⟩, prog_4_method_9_code, 11, none)
  | 199 => (⟨"MixMachine$Processor", "multiply", "(I)V"⟩, prog_4_method_10_code, 5, none)
  | 200 => (⟨"MixMachine$Processor", "divide", "(I)V"⟩, prog_4_method_11_code, 6, none)
  | 201 => (⟨"MixMachine$Processor", "toNumber", "()V"⟩, prog_4_method_16_code, 6, none)
  | 202 => (⟨"MixMachine$Processor", "toCharacters", "()V"⟩, prog_4_method_17_code, 5, none)
  | 203 => (⟨"MixMachine$Processor", "bytesOfAX", "()J"⟩, prog_4_method_12_code, 1, (some Jvm.ClassFile.FieldType.long))
  | 204 => (⟨"MixMachine$Processor", "setMagnitude", "(II)V"⟩, prog_4_method_14_code, 3, none)
  | 205 => (⟨"MixMachine$Processor", "setBytesOfAX", "(J)V"⟩, prog_4_method_13_code, 3, none)
  | 206 => (⟨"MixMachine", "arePlaces", "(II)Z"⟩, prog_1_method_17_code, 2, (some Jvm.ClassFile.FieldType.boolean))
  | 207 => (⟨"MixMachine$Processor", "enter", "(II)V"⟩, prog_4_method_21_code, 4, none)
  | 208 => (⟨"MixMachine$Units", "operate", "(IIII)Z"⟩, prog_7_method_4_code, 5, (some Jvm.ClassFile.FieldType.boolean))
  | 209 => (⟨"MixMachine$Processor", "jumpIf", "(Z)Z"⟩, prog_4_method_25_code, 3, (some Jvm.ClassFile.FieldType.boolean))
  | 210 => (⟨"MixMachine$Processor", "jumpKeepingJ", "()Z"⟩, prog_4_method_26_code, 1, (some Jvm.ClassFile.FieldType.boolean))
  | 211 => (⟨"MixMachine$Processor", "jumpByToggle", "(Z)Z"⟩, prog_4_method_27_code, 2, (some Jvm.ClassFile.FieldType.boolean))
  | 212 => (⟨"MixMachine$Processor", "holds", "(II)Z"⟩, prog_4_method_29_code, 2, (some Jvm.ClassFile.FieldType.boolean))
  | 213 => (⟨"java/lang/Integer", "compare", "(II)I"⟩, prog_18_method_40_code, 2, (some Jvm.ClassFile.FieldType.int))
  | 214 => (⟨"MixMachineModel", "mask", "(I)I"⟩, prog_11_method_12_code, 1, (some Jvm.ClassFile.FieldType.int))
  | 215 => (⟨"MixMachineModel", "multiply", "(I)V"⟩, prog_11_method_26_code, 5, none)
  | 216 => (⟨"MixMachineModel", "divide", "(I)V"⟩, prog_11_method_27_code, 6, none)
  | 217 => (⟨"java/lang/String", "coder", "()B"⟩, prog_21_method_152_code, 1, (some Jvm.ClassFile.FieldType.byte))
  | 218 => (⟨"java/lang/String", "isLatin1", "()Z"⟩, prog_21_method_154_code, 1, (some Jvm.ClassFile.FieldType.boolean))
  | 219 => (⟨"java/lang/StringLatin1", "charAt", "([BI)C"⟩, prog_22_method_2_code, 2, (some Jvm.ClassFile.FieldType.char))
  | 220 => (⟨"java/lang/String", "indexOf", "(II)I"⟩, prog_21_method_80_code, 3, (some Jvm.ClassFile.FieldType.int))
  | 221 => (⟨"MixMachine$Assembler", "readAtom", "()J"⟩, prog_2_method_20_code, 3, (some Jvm.ClassFile.FieldType.long))
  | 222 => (⟨"MixMachine$Text", "takeOperator", "()C"⟩, prog_6_method_10_code, 2, (some Jvm.ClassFile.FieldType.char))
  | 223 => (⟨"MixMachine$Assembler", "combine", "(JCJ)J"⟩, prog_2_method_19_code, 7, (some Jvm.ClassFile.FieldType.long))
  | 224 => (⟨"MixMachine$Units", "act", "(III)Z"⟩, prog_7_method_5_code, 5, (some Jvm.ClassFile.FieldType.boolean))
  | 225 => (⟨"MixMachineModel", "bytes", "(I)I"⟩, prog_11_method_11_code, 1, (some Jvm.ClassFile.FieldType.int))
  | 226 => (⟨"java/lang/String", "checkIndex", "(II)V"⟩, prog_21_method_155_code, 2, none)
  | 227 => (⟨"java/lang/StringLatin1", "indexOf", "([BIII)I"⟩, prog_22_method_22_code, 4, (some Jvm.ClassFile.FieldType.int))
  | 228 => (⟨"MixMachine$Units", "control", "(II)Z"⟩, prog_7_method_6_code, 3, (some Jvm.ClassFile.FieldType.boolean))
  | 229 => (⟨"MixMachine$Units", "passBlock", "(ZI)Z"⟩, prog_7_method_7_code, 4, (some Jvm.ClassFile.FieldType.boolean))
  | 230 => (⟨"MixMachine$Units", "readCard", "(I)Z"⟩, prog_7_method_8_code, 2, (some Jvm.ClassFile.FieldType.boolean))
  | 231 => (⟨"MixMachine$Units", "printLine", "(I)Z"⟩, prog_7_method_9_code, 2, (some Jvm.ClassFile.FieldType.boolean))
  | 232 => (⟨"jdk/internal/util/Preconditions", "checkIndex", "(IILjava/util/function/BiFunction;)I"⟩, prog_28_method_11_code, 3, (some Jvm.ClassFile.FieldType.int))
  | 233 => (⟨"java/lang/StringLatin1", "canEncode", "(I)Z"⟩, prog_22_method_4_code, 1, (some Jvm.ClassFile.FieldType.boolean))
  | 234 => (⟨"java/lang/StringLatin1", "indexOfChar", "([BIII)I"⟩, prog_22_method_23_code, 6, (some Jvm.ClassFile.FieldType.int))
  | _ => (x, code, 7, ret)
/-- MixMachineLaw.law([I)Z -/
def nC0_0 : List (Option mI) := [some (.new 8, 0, 0, 0, .null), none, none, some (.dup, 0, 0, 0, .null), some (.invokespecial 60, 1, 1, 0, .null), none, none, some (.astore_n 1, 7, 0, 0, .null), some (.new 61, 7, 0, 0, .null), none, none, some (.dup, 0, 0, 0, .null), some (.invokespecial 63, 2, 1, 0, .null), none, none, some (.astore_n 2, 7, 0, 0, .null), some (.iconst 1, 0, 0, 0, .null), some (.newarray .long, 0, 0, 0, .null), none, some (.astore_n 3, 7, 0, 0, .null), some (.iconst 0, 0, 0, 0, .null), some (.istore 4, 7, 0, 0, .null), none, some (.iload 4, 0, 0, 0, .null), none, some (.aload_n 0, 0, 0, 0, .null), some (.arraylength, 0, 0, 0, .null), some (.iconst 5, 0, 0, 0, .null), some (.isub, 0, 0, 0, .null), some (.if_icmp .gt 583, 0, 0, 0, .null), none, none, some (.aload_n 0, 0, 0, 0, .null), some (.iload 4, 0, 0, 0, .null), none, some (.iaload, 0, 0, 0, .null), some (.bipush 15, 0, 0, 0, .null), none, some (.iand, 0, 0, 0, .null), some (.tableswitch 567 0 13 #[69, 141, 154, 170, 183, 243, 271, 299, 339, 367, 395, 459, 499, 539], 69, 0, 0, .null), none, none, none, none, none, none, none, none, none, none, none, none, none, none, none, none, none, none, none, none, none, none, none, none, none, none, none, none, none, none, none, none, none, none, none, none, none, none, none, none, none, none, none, none, none, none, none, none, none, none, none, none, none, none, none, none, none, none, none, none, none, none, none, none, none, none, none, none, some (.aload_n 1, 0, 0, 0, .null), some (.aload_n 0, 0, 0, 0, .null), some (.iload 4, 0, 0, 0, .null), none, some (.iconst 1, 0, 0, 0, .null), some (.iadd, 0, 0, 0, .null), some (.iaload, 0, 0, 0, .null), some (.i2l, 0, 0, 0, .null), some (.bipush 32, 0, 0, 0, .null), none, some (.lshl, 0, 0, 0, .null), some (.aload_n 0, 0, 0, 0, .null), some (.iload 4, 0, 0, 0, .null), none, some (.iconst 2, 0, 0, 0, .null), some (.iadd, 0, 0, 0, .null), some (.iaload, 0, 0, 0, .null), some (.i2l, 0, 0, 0, .null), some (.ldc2_w 64, 0, 0, 0, (.long 4294967295)), none, none, some (.land, 0, 0, 0, .null), some (.lor, 0, 0, 0, .null), some (.aload_n 0, 0, 0, 0, .null), some (.iload 4, 0, 0, 0, .null), none, some (.iconst 3, 0, 0, 0, .null), some (.iadd, 0, 0, 0, .null), some (.iaload, 0, 0, 0, .null), some (.aload_n 3, 0, 0, 0, .null), some (.invokestatic 66, 3, 4, 0, .null), none, none, some (.istore 5, 7, 0, 0, .null), none, some (.aload_n 2, 0, 0, 0, .null), some (.aload_n 0, 0, 0, 0, .null), some (.iload 4, 0, 0, 0, .null), none, some (.iconst 1, 0, 0, 0, .null), some (.iadd, 0, 0, 0, .null), some (.iaload, 0, 0, 0, .null), some (.i2l, 0, 0, 0, .null), some (.bipush 32, 0, 0, 0, .null), none, some (.lshl, 0, 0, 0, .null), some (.aload_n 0, 0, 0, 0, .null), some (.iload 4, 0, 0, 0, .null), none, some (.iconst 2, 0, 0, 0, .null), some (.iadd, 0, 0, 0, .null), some (.iaload, 0, 0, 0, .null), some (.i2l, 0, 0, 0, .null), some (.ldc2_w 64, 0, 0, 0, (.long 4294967295)), none, none, some (.land, 0, 0, 0, .null), some (.lor, 0, 0, 0, .null), some (.aload_n 0, 0, 0, 0, .null), some (.iload 4, 0, 0, 0, .null), none, some (.iconst 3, 0, 0, 0, .null), some (.iadd, 0, 0, 0, .null), some (.iaload, 0, 0, 0, .null), some (.invokevirtual 71, 4, 3, 0, (.retAddr 7)), none, none, some (.istore 6, 7, 0, 0, .null), none, some (.goto 429, 0, 0, 0, .null), none, none, some (.aload_n 1, 0, 0, 0, .null), some (.invokevirtual 72, 5, 1, 0, (.retAddr 0)), none, none, some (.aload_n 2, 0, 0, 0, .null), some (.invokevirtual 75, 6, 1, 0, (.retAddr 7)), none, none, some (.if_icmp .eq 418, 0, 0, 0, .null), none, none, some (.iconst 0, 0, 0, 0, .null), some (.ireturn, 1, 0, 0, .null), some (.aload_n 1, 0, 0, 0, .null), some (.aload_n 3, 0, 0, 0, .null), some (.invokestatic 76, 7, 2, 0, .null), none, none, some (.istore 5, 7, 0, 0, .null), none]
def nC0_1 : List (Option mI) := [some (.aload_n 2, 0, 0, 0, .null), some (.invokevirtual 79, 8, 1, 0, (.retAddr 7)), none, none, some (.istore 6, 7, 0, 0, .null), none, some (.goto 400, 0, 0, 0, .null), none, none, some (.aload_n 1, 0, 0, 0, .null), some (.invokevirtual 80, 9, 1, 0, (.retAddr 0)), none, none, some (.pop, 0, 0, 0, .null), some (.aload_n 2, 0, 0, 0, .null), some (.invokevirtual 83, 10, 1, 0, (.retAddr 7)), none, none, some (.pop, 0, 0, 0, .null), some (.goto 387, 0, 0, 0, .null), none, none, some (.aload_n 1, 0, 0, 0, .null), some (.aload_n 0, 0, 0, 0, .null), some (.iload 4, 0, 0, 0, .null), none, some (.iconst 1, 0, 0, 0, .null), some (.iadd, 0, 0, 0, .null), some (.iaload, 0, 0, 0, .null), some (.i2l, 0, 0, 0, .null), some (.bipush 32, 0, 0, 0, .null), none, some (.lshl, 0, 0, 0, .null), some (.aload_n 0, 0, 0, 0, .null), some (.iload 4, 0, 0, 0, .null), none, some (.iconst 2, 0, 0, 0, .null), some (.iadd, 0, 0, 0, .null), some (.iaload, 0, 0, 0, .null), some (.i2l, 0, 0, 0, .null), some (.ldc2_w 64, 0, 0, 0, (.long 4294967295)), none, none, some (.land, 0, 0, 0, .null), some (.lor, 0, 0, 0, .null), some (.aload_n 3, 0, 0, 0, .null), some (.invokestatic 84, 11, 3, 0, .null), none, none, some (.istore 5, 7, 0, 0, .null), none, some (.aload_n 2, 0, 0, 0, .null), some (.aload_n 0, 0, 0, 0, .null), some (.iload 4, 0, 0, 0, .null), none, some (.iconst 1, 0, 0, 0, .null), some (.iadd, 0, 0, 0, .null), some (.iaload, 0, 0, 0, .null), some (.i2l, 0, 0, 0, .null), some (.bipush 32, 0, 0, 0, .null), none, some (.lshl, 0, 0, 0, .null), some (.aload_n 0, 0, 0, 0, .null), some (.iload 4, 0, 0, 0, .null), none, some (.iconst 2, 0, 0, 0, .null), some (.iadd, 0, 0, 0, .null), some (.iaload, 0, 0, 0, .null), some (.i2l, 0, 0, 0, .null), some (.ldc2_w 64, 0, 0, 0, (.long 4294967295)), none, none, some (.land, 0, 0, 0, .null), some (.lor, 0, 0, 0, .null), some (.invokevirtual 87, 12, 2, 0, (.retAddr 7)), none, none, some (.istore 6, 7, 0, 0, .null), none, some (.goto 327, 0, 0, 0, .null), none, none, some (.aload_n 1, 0, 0, 0, .null), some (.aload_n 0, 0, 0, 0, .null), some (.iload 4, 0, 0, 0, .null), none, some (.iconst 1, 0, 0, 0, .null), some (.iadd, 0, 0, 0, .null), some (.iaload, 0, 0, 0, .null), some (.aload_n 3, 0, 0, 0, .null), some (.invokestatic 88, 13, 3, 0, .null), none, none, some (.istore 5, 7, 0, 0, .null), none, some (.aload_n 2, 0, 0, 0, .null), some (.aload_n 0, 0, 0, 0, .null), some (.iload 4, 0, 0, 0, .null), none, some (.iconst 1, 0, 0, 0, .null), some (.iadd, 0, 0, 0, .null), some (.iaload, 0, 0, 0, .null), some (.invokevirtual 91, 14, 2, 0, (.retAddr 7)), none, none, some (.istore 6, 7, 0, 0, .null), none, some (.goto 299, 0, 0, 0, .null), none, none, some (.aload_n 1, 0, 0, 0, .null), some (.aload_n 0, 0, 0, 0, .null), some (.iload 4, 0, 0, 0, .null), none, some (.iconst 1, 0, 0, 0, .null), some (.iadd, 0, 0, 0, .null), some (.iaload, 0, 0, 0, .null), some (.aload_n 3, 0, 0, 0, .null), some (.invokestatic 92, 15, 3, 0, .null), none, none, some (.istore 5, 7, 0, 0, .null), none, some (.aload_n 2, 0, 0, 0, .null), some (.aload_n 0, 0, 0, 0, .null), some (.iload 4, 0, 0, 0, .null), none, some (.iconst 1, 0, 0, 0, .null), some (.iadd, 0, 0, 0, .null), some (.iaload, 0, 0, 0, .null), some (.invokevirtual 94, 16, 2, 0, (.retAddr 7)), none, none, some (.istore 6, 7, 0, 0, .null), none, some (.goto 271, 0, 0, 0, .null), none, none, some (.aload_n 1, 0, 0, 0, .null), some (.aload_n 0, 0, 0, 0, .null), some (.iload 4, 0, 0, 0, .null), none, some (.iconst 1, 0, 0, 0, .null), some (.iadd, 0, 0, 0, .null), some (.iaload, 0, 0, 0, .null), some (.aload_n 0, 0, 0, 0, .null), some (.iload 4, 0, 0, 0, .null), none, some (.iconst 2, 0, 0, 0, .null), some (.iadd, 0, 0, 0, .null), some (.iaload, 0, 0, 0, .null), some (.aload_n 3, 0, 0, 0, .null), some (.invokestatic 95, 17, 4, 0, .null), none, none, some (.istore 5, 7, 0, 0, .null), none, some (.aload_n 2, 0, 0, 0, .null), some (.aload_n 0, 0, 0, 0, .null), some (.iload 4, 0, 0, 0, .null), none, some (.iconst 1, 0, 0, 0, .null), some (.iadd, 0, 0, 0, .null), some (.iaload, 0, 0, 0, .null), some (.aload_n 0, 0, 0, 0, .null), some (.iload 4, 0, 0, 0, .null), none, some (.iconst 2, 0, 0, 0, .null), some (.iadd, 0, 0, 0, .null), some (.iaload, 0, 0, 0, .null), some (.invokevirtual 98, 18, 3, 0, (.retAddr 7)), none, none, some (.istore 6, 7, 0, 0, .null), none, some (.goto 231, 0, 0, 0, .null), none, none, some (.aload_n 1, 0, 0, 0, .null), some (.aload_n 0, 0, 0, 0, .null), some (.iload 4, 0, 0, 0, .null), none, some (.iconst 1, 0, 0, 0, .null), some (.iadd, 0, 0, 0, .null), some (.iaload, 0, 0, 0, .null), some (.aload_n 3, 0, 0, 0, .null), some (.invokestatic 99, 19, 3, 0, .null), none, none, some (.istore 5, 7, 0, 0, .null), none, some (.aload_n 2, 0, 0, 0, .null), some (.aload_n 0, 0, 0, 0, .null), some (.iload 4, 0, 0, 0, .null), none, some (.iconst 1, 0, 0, 0, .null), some (.iadd, 0, 0, 0, .null), some (.iaload, 0, 0, 0, .null), some (.invokevirtual 101, 20, 2, 0, (.retAddr 7)), none]
def nC0_2 : List (Option mI) := [none, some (.istore 6, 7, 0, 0, .null), none, some (.goto 203, 0, 0, 0, .null), none, none, some (.aload_n 1, 0, 0, 0, .null), some (.aload_n 0, 0, 0, 0, .null), some (.iload 4, 0, 0, 0, .null), none, some (.iconst 1, 0, 0, 0, .null), some (.iadd, 0, 0, 0, .null), some (.iaload, 0, 0, 0, .null), some (.aload_n 3, 0, 0, 0, .null), some (.invokestatic 102, 21, 3, 0, .null), none, none, some (.istore 5, 7, 0, 0, .null), none, some (.aload_n 2, 0, 0, 0, .null), some (.aload_n 0, 0, 0, 0, .null), some (.iload 4, 0, 0, 0, .null), none, some (.iconst 1, 0, 0, 0, .null), some (.iadd, 0, 0, 0, .null), some (.iaload, 0, 0, 0, .null), some (.invokevirtual 104, 22, 2, 0, (.retAddr 7)), none, none, some (.istore 6, 7, 0, 0, .null), none, some (.goto 175, 0, 0, 0, .null), none, none, some (.aload_n 1, 0, 0, 0, .null), some (.aload_n 0, 0, 0, 0, .null), some (.iload 4, 0, 0, 0, .null), none, some (.iconst 1, 0, 0, 0, .null), some (.iadd, 0, 0, 0, .null), some (.iaload, 0, 0, 0, .null), some (.aload_n 0, 0, 0, 0, .null), some (.iload 4, 0, 0, 0, .null), none, some (.iconst 2, 0, 0, 0, .null), some (.iadd, 0, 0, 0, .null), some (.iaload, 0, 0, 0, .null), some (.aload_n 0, 0, 0, 0, .null), some (.iload 4, 0, 0, 0, .null), none, some (.iconst 3, 0, 0, 0, .null), some (.iadd, 0, 0, 0, .null), some (.iaload, 0, 0, 0, .null), some (.aload_n 0, 0, 0, 0, .null), some (.iload 4, 0, 0, 0, .null), none, some (.iconst 4, 0, 0, 0, .null), some (.iadd, 0, 0, 0, .null), some (.iaload, 0, 0, 0, .null), some (.aload_n 3, 0, 0, 0, .null), some (.invokestatic 105, 23, 6, 0, .null), none, none, some (.istore 5, 7, 0, 0, .null), none, some (.aload_n 2, 0, 0, 0, .null), some (.aload_n 0, 0, 0, 0, .null), some (.iload 4, 0, 0, 0, .null), none, some (.iconst 1, 0, 0, 0, .null), some (.iadd, 0, 0, 0, .null), some (.iaload, 0, 0, 0, .null), some (.aload_n 0, 0, 0, 0, .null), some (.iload 4, 0, 0, 0, .null), none, some (.iconst 2, 0, 0, 0, .null), some (.iadd, 0, 0, 0, .null), some (.iaload, 0, 0, 0, .null), some (.aload_n 0, 0, 0, 0, .null), some (.iload 4, 0, 0, 0, .null), none, some (.iconst 3, 0, 0, 0, .null), some (.iadd, 0, 0, 0, .null), some (.iaload, 0, 0, 0, .null), some (.aload_n 0, 0, 0, 0, .null), some (.iload 4, 0, 0, 0, .null), none, some (.iconst 4, 0, 0, 0, .null), some (.iadd, 0, 0, 0, .null), some (.iaload, 0, 0, 0, .null), some (.invokevirtual 108, 24, 5, 0, (.retAddr 7)), none, none, some (.istore 6, 7, 0, 0, .null), none, some (.goto 111, 0, 0, 0, .null), none, none, some (.aload_n 1, 0, 0, 0, .null), some (.aload_n 0, 0, 0, 0, .null), some (.iload 4, 0, 0, 0, .null), none, some (.iconst 1, 0, 0, 0, .null), some (.iadd, 0, 0, 0, .null), some (.iaload, 0, 0, 0, .null), some (.aload_n 0, 0, 0, 0, .null), some (.iload 4, 0, 0, 0, .null), none, some (.iconst 2, 0, 0, 0, .null), some (.iadd, 0, 0, 0, .null), some (.iaload, 0, 0, 0, .null), some (.aload_n 3, 0, 0, 0, .null), some (.invokestatic 109, 25, 4, 0, .null), none, none, some (.istore 5, 7, 0, 0, .null), none, some (.aload_n 2, 0, 0, 0, .null), some (.aload_n 0, 0, 0, 0, .null), some (.iload 4, 0, 0, 0, .null), none, some (.iconst 1, 0, 0, 0, .null), some (.iadd, 0, 0, 0, .null), some (.iaload, 0, 0, 0, .null), some (.aload_n 0, 0, 0, 0, .null), some (.iload 4, 0, 0, 0, .null), none, some (.iconst 2, 0, 0, 0, .null), some (.iadd, 0, 0, 0, .null), some (.iaload, 0, 0, 0, .null), some (.invokevirtual 111, 26, 3, 0, (.retAddr 7)), none, none, some (.istore 6, 7, 0, 0, .null), none, some (.goto 71, 0, 0, 0, .null), none, none, some (.aload_n 1, 0, 0, 0, .null), some (.aload_n 0, 0, 0, 0, .null), some (.iload 4, 0, 0, 0, .null), none, some (.iconst 1, 0, 0, 0, .null), some (.iadd, 0, 0, 0, .null), some (.iaload, 0, 0, 0, .null), some (.aload_n 0, 0, 0, 0, .null), some (.iload 4, 0, 0, 0, .null), none, some (.iconst 2, 0, 0, 0, .null), some (.iadd, 0, 0, 0, .null), some (.iaload, 0, 0, 0, .null), some (.aload_n 3, 0, 0, 0, .null), some (.invokestatic 112, 27, 4, 0, .null), none, none, some (.istore 5, 7, 0, 0, .null), none, some (.aload_n 2, 0, 0, 0, .null), some (.aload_n 0, 0, 0, 0, .null), some (.iload 4, 0, 0, 0, .null), none, some (.iconst 1, 0, 0, 0, .null), some (.iadd, 0, 0, 0, .null), some (.iaload, 0, 0, 0, .null), some (.aload_n 0, 0, 0, 0, .null), some (.iload 4, 0, 0, 0, .null), none, some (.iconst 2, 0, 0, 0, .null), some (.iadd, 0, 0, 0, .null), some (.iaload, 0, 0, 0, .null), some (.invokevirtual 114, 28, 3, 0, (.retAddr 7)), none, none, some (.istore 6, 7, 0, 0, .null), none, some (.goto 31, 0, 0, 0, .null), none, none, some (.aload_n 1, 0, 0, 0, .null), some (.aload_n 0, 0, 0, 0, .null), some (.iload 4, 0, 0, 0, .null), none, some (.iconst 1, 0, 0, 0, .null), some (.iadd, 0, 0, 0, .null), some (.iaload, 0, 0, 0, .null), some (.aload_n 3, 0, 0, 0, .null), some (.invokestatic 115, 29, 3, 0, .null), none, none, some (.istore 5, 7, 0, 0, .null), none, some (.aload_n 2, 0, 0, 0, .null), some (.aload_n 0, 0, 0, 0, .null), some (.iload 4, 0, 0, 0, .null), none, some (.iconst 1, 0, 0, 0, .null), some (.iadd, 0, 0, 0, .null), some (.iaload, 0, 0, 0, .null), some (.invokevirtual 117, 30, 2, 0, (.retAddr 7)), none]
def nC0_3 : List (Option mI) := [none, some (.istore 6, 7, 0, 0, .null), none, some (.goto 3, 0, 0, 0, .null), none, none, some (.iinc 4 5, 7, 0, 0, .null), none, none, some (.goto (-586), 0, 0, 0, .null), none, none, some (.iconst 1, 0, 0, 0, .null), some (.ireturn, 1, 0, 0, .null)]
def nC0 : List (Option mI) := nC0_0 ++ (nC0_1 ++ (nC0_2 ++ (nC0_3)))
/-- MixMachine.<init>()V -/
def nC1 : List (Option mI) := [some (.aload_n 0, 0, 0, 0, .null), some (.invokespecial 1, 0, 0, 1, .null), none, none, some (.aload_n 0, 0, 0, 0, .null), some (.sipush 200, 0, 0, 0, .null), none, none, some (.newarray .int, 0, 0, 0, .null), none, some (.putfield 9, 0, 0, 3, .null), none, none, some (.aload_n 0, 0, 0, 0, .null), some (.new 13, 1, 0, 0, .null), none, none, some (.dup, 0, 0, 0, .null), some (.aload_n 0, 0, 0, 0, .null), some (.getfield 9, 0, 0, 0, .null), none, none, some (.invokespecial 15, 31, 2, 0, .null), none, none, some (.putfield 18, 0, 1, 3, .null), none, none, some (.aload_n 0, 0, 0, 0, .null), some (.new 22, 2, 0, 0, .null), none, none, some (.dup, 0, 0, 0, .null), some (.aload_n 0, 0, 0, 0, .null), some (.getfield 9, 0, 0, 0, .null), none, none, some (.aload_n 0, 0, 0, 0, .null), some (.getfield 18, 0, 1, 0, .null), none, none, some (.invokespecial 24, 32, 3, 0, .null), none, none, some (.putfield 27, 0, 2, 3, .null), none, none, some (.aload_n 0, 0, 0, 0, .null), some (.new 31, 3, 0, 0, .null), none, none, some (.dup, 0, 0, 0, .null), some (.invokespecial 33, 33, 1, 0, .null), none, none, some (.putfield 34, 0, 3, 3, .null), none, none, some (.aload_n 0, 0, 0, 0, .null), some (.new 38, 4, 0, 0, .null), none, none, some (.dup, 0, 0, 0, .null), some (.aload_n 0, 0, 0, 0, .null), some (.getfield 34, 0, 3, 0, .null), none, none, some (.invokespecial 40, 34, 2, 0, .null), none, none, some (.putfield 43, 0, 4, 3, .null), none, none, some (.return_, 0, 0, 0, .null)]
/-- MixMachineModel.<init>()V -/
def nC2 : List (Option mI) := [some (.aload_n 0, 0, 0, 0, .null), some (.invokespecial 1, 0, 0, 1, .null), none, none, some (.aload_n 0, 0, 0, 0, .null), some (.sipush 200, 0, 0, 0, .null), none, none, some (.newarray .int, 0, 0, 0, .null), none, some (.putfield 7, 7, 1, 3, .null), none, none, some (.aload_n 0, 0, 0, 0, .null), some (.bipush 9, 0, 0, 0, .null), none, some (.newarray .int, 0, 0, 0, .null), none, some (.putfield 13, 7, 2, 3, .null), none, none, some (.aload_n 0, 0, 0, 0, .null), some (.iconst 1, 0, 0, 0, .null), some (.putfield 16, 7, 10, 0, .null), none, none, some (.aload_n 0, 0, 0, 0, .null), some (.bipush 60, 0, 0, 0, .null), none, some (.newarray .int, 0, 0, 0, .null), none, some (.putfield 20, 7, 11, 3, .null), none, none, some (.aload_n 0, 0, 0, 0, .null), some (.bipush 24, 0, 0, 0, .null), none, some (.newarray .int, 0, 0, 0, .null), none, some (.putfield 23, 7, 14, 3, .null), none, none, some (.aload_n 0, 0, 0, 0, .null), some (.bipush 48, 0, 0, 0, .null), none, some (.newarray .int, 0, 0, 0, .null), none, some (.putfield 26, 7, 16, 3, .null), none, none, some (.aload_n 0, 0, 0, 0, .null), some (.iconst 3, 0, 0, 0, .null), some (.newarray .int, 0, 0, 0, .null), none, some (.putfield 29, 7, 17, 3, .null), none, none, some (.aload_n 0, 0, 0, 0, .null), some (.sipush 240, 0, 0, 0, .null), none, none, some (.newarray .int, 0, 0, 0, .null), none, some (.putfield 32, 7, 19, 3, .null), none, none, some (.aload_n 0, 0, 0, 0, .null), some (.iconst (-1), 0, 0, 0, .null), some (.putfield 35, 7, 20, 0, .null), none, none, some (.aload_n 0, 0, 0, 0, .null), some (.sipush 200, 0, 0, 0, .null), none, none, some (.newarray .int, 0, 0, 0, .null), none, some (.putfield 38, 7, 27, 3, .null), none, none, some (.aload_n 0, 0, 0, 0, .null), some (.sipush 200, 0, 0, 0, .null), none, none, some (.newarray .boolean, 0, 0, 0, .null), none, some (.putfield 41, 7, 28, 3, .null), none, none, some (.aload_n 0, 0, 0, 0, .null), some (.bipush 30, 0, 0, 0, .null), none, some (.newarray .long, 0, 0, 0, .null), none, some (.putfield 45, 7, 30, 3, .null), none, none, some (.aload_n 0, 0, 0, 0, .null), some (.bipush 30, 0, 0, 0, .null), none, some (.newarray .boolean, 0, 0, 0, .null), none, some (.putfield 49, 7, 31, 3, .null), none, none, some (.aload_n 0, 0, 0, 0, .null), some (.bipush 30, 0, 0, 0, .null), none, some (.newarray .int, 0, 0, 0, .null), none, some (.putfield 52, 7, 32, 3, .null), none, none, some (.aload_n 0, 0, 0, 0, .null), some (.bipush 20, 0, 0, 0, .null), none, some (.newarray .int, 0, 0, 0, .null), none, some (.putfield 55, 7, 34, 3, .null), none, none, some (.aload_n 0, 0, 0, 0, .null), some (.bipush 10, 0, 0, 0, .null), none, some (.newarray .boolean, 0, 0, 0, .null), none, some (.putfield 58, 7, 35, 3, .null), none, none, some (.aload_n 0, 0, 0, 0, .null), some (.bipush 10, 0, 0, 0, .null), none, some (.newarray .int, 0, 0, 0, .null), none, some (.putfield 61, 7, 36, 3, .null), none, none, some (.aload_n 0, 0, 0, 0, .null), some (.bipush 60, 0, 0, 0, .null), none, some (.newarray .int, 0, 0, 0, .null), none, some (.putfield 64, 7, 38, 3, .null), none, none, some (.aload_n 0, 0, 0, 0, .null), some (.bipush 60, 0, 0, 0, .null), none, some (.newarray .int, 0, 0, 0, .null), none, some (.putfield 67, 7, 39, 3, .null), none, none, some (.aload_n 0, 0, 0, 0, .null), some (.bipush 60, 0, 0, 0, .null), none, some (.newarray .int, 0, 0, 0, .null), none, some (.putfield 70, 7, 40, 3, .null), none, none, some (.aload_n 0, 0, 0, 0, .null), some (.bipush 60, 0, 0, 0, .null), none, some (.newarray .boolean, 0, 0, 0, .null), none, some (.putfield 73, 7, 41, 3, .null), none, none, some (.aload_n 0, 0, 0, 0, .null), some (.bipush 30, 0, 0, 0, .null), none, some (.newarray .long, 0, 0, 0, .null), none, some (.putfield 76, 7, 43, 3, .null), none, none, some (.aload_n 0, 0, 0, 0, .null), some (.bipush 30, 0, 0, 0, .null), none, some (.newarray .int, 0, 0, 0, .null), none, some (.putfield 79, 7, 44, 3, .null), none, none, some (.return_, 0, 0, 0, .null)]
/-- MixMachineLaw.write(LMixMachine;JI[J)I -/
def nC3 : List (Option mI) := [some (.aload 4, 0, 0, 0, .null), none, some (.iconst 0, 0, 0, 0, .null), some (.aload_n 0, 0, 0, 0, .null), some (.lload_n 1, 0, 0, 0, .null), some (.iload_n 3, 0, 0, 0, .null), some (.invokevirtual 7, 35, 3, 0, (.retAddr 0)), none, none, some (.i2l, 0, 0, 0, .null), some (.lastore, 0, 0, 0, .null), some (.goto 11, 0, 0, 0, .null), none, none, some (.astore 5, 6, 0, 0, .null), none, some (.iconst 1, 0, 0, 0, .null), some (.ireturn, 0, 0, 0, .null), some (.astore 5, 6, 0, 0, .null), none, some (.iconst 2, 0, 0, 0, .null), some (.ireturn, 0, 0, 0, .null), some (.iconst 0, 0, 0, 0, .null), some (.ireturn, 0, 0, 0, .null)]
/-- MixMachineModel.write(JI)I -/
def nC4 : List (Option mI) := [some (.aload_n 0, 0, 0, 0, .null), some (.iconst 0, 0, 0, 0, .null), some (.putfield 82, 7, 0, 0, .null), none, none, some (.iload_n 3, 0, 0, 0, .null), some (.iconst 1, 0, 0, 0, .null), some (.bipush 8, 0, 0, 0, .null), none, some (.invokestatic 103, 36, 3, 0, .null), none, none, some (.ifCond .ne 9, 0, 0, 0, .null), none, none, some (.aload_n 0, 0, 0, 0, .null), some (.iconst 1, 0, 0, 0, .null), some (.invokevirtual 250, 37, 2, 0, (.retAddr 7)), none, none, some (.ireturn, 0, 0, 0, .null), some (.iconst 1, 0, 0, 0, .null), some (.istore 4, 7, 0, 0, .null), none, some (.iconst 0, 0, 0, 0, .null), some (.istore 5, 7, 0, 0, .null), none, some (.iload 5, 0, 0, 0, .null), none, some (.iload_n 3, 0, 0, 0, .null), some (.if_icmp .ge 54, 0, 0, 0, .null), none, none, some (.lload_n 1, 0, 0, 0, .null), some (.bipush 8, 0, 0, 0, .null), none, some (.iload 5, 0, 0, 0, .null), none, some (.imul, 0, 0, 0, .null), some (.lshr, 0, 0, 0, .null), some (.ldc2_w 257, 0, 0, 0, (.long 255)), none, none, some (.land, 0, 0, 0, .null), some (.l2i, 0, 0, 0, .null), some (.istore 6, 7, 0, 0, .null), none, some (.iload 4, 0, 0, 0, .null), none, some (.ifCond .eq 26, 0, 0, 0, .null), none, none, some (.iload 6, 0, 0, 0, .null), none, some (.bipush 10, 0, 0, 0, .null), none, some (.if_icmp .eq 15, 0, 0, 0, .null), none, none, some (.iload 6, 0, 0, 0, .null), none, some (.bipush 32, 0, 0, 0, .null), none, some (.bipush 126, 0, 0, 0, .null), none, some (.invokestatic 103, 36, 3, 0, .null), none, none, some (.ifCond .eq 7, 0, 0, 0, .null), none, none, some (.iconst 1, 0, 0, 0, .null), some (.goto 4, 0, 0, 0, .null), none, none, some (.iconst 0, 0, 0, 0, .null), some (.istore 4, 7, 0, 0, .null), none, some (.iinc 5 1, 7, 0, 0, .null), none, none, some (.goto (-54), 0, 0, 0, .null), none, none, some (.iload 4, 0, 0, 0, .null), none, some (.ifCond .ne 9, 0, 0, 0, .null), none, none, some (.aload_n 0, 0, 0, 0, .null), some (.iconst 1, 0, 0, 0, .null), some (.invokevirtual 250, 37, 2, 0, (.retAddr 7)), none, none, some (.ireturn, 0, 0, 0, .null), some (.aload_n 0, 0, 0, 0, .null), some (.getfield 259, 7, 18, 0, .null), none, none, some (.iload_n 3, 0, 0, 0, .null), some (.iadd, 0, 0, 0, .null), some (.sipush 240, 0, 0, 0, .null), none, none, some (.if_icmp .le 9, 0, 0, 0, .null), none, none, some (.aload_n 0, 0, 0, 0, .null), some (.iconst 2, 0, 0, 0, .null), some (.invokevirtual 250, 37, 2, 0, (.retAddr 7)), none, none, some (.ireturn, 0, 0, 0, .null), some (.iconst 0, 0, 0, 0, .null), some (.istore 5, 7, 0, 0, .null), none, some (.iload 5, 0, 0, 0, .null), none, some (.iload_n 3, 0, 0, 0, .null), some (.if_icmp .ge 33, 0, 0, 0, .null), none, none, some (.aload_n 0, 0, 0, 0, .null), some (.getfield 32, 7, 19, 0, .null), none, none, some (.aload_n 0, 0, 0, 0, .null), some (.getfield 259, 7, 18, 0, .null), none, none, some (.iload 5, 0, 0, 0, .null), none, some (.iadd, 0, 0, 0, .null), some (.lload_n 1, 0, 0, 0, .null), some (.bipush 8, 0, 0, 0, .null), none, some (.iload 5, 0, 0, 0, .null), none, some (.imul, 0, 0, 0, .null), some (.lshr, 0, 0, 0, .null), some (.ldc2_w 257, 0, 0, 0, (.long 255)), none, none, some (.land, 0, 0, 0, .null), some (.l2i, 0, 0, 0, .null), some (.iastore, 0, 0, 0, .null), some (.iinc 5 1, 7, 0, 0, .null), none, none, some (.goto (-33), 0, 0, 0, .null), none, none, some (.aload_n 0, 0, 0, 0, .null), some (.dup, 0, 0, 0, .null), some (.getfield 259, 7, 18, 0, .null), none, none, some (.iload_n 3, 0, 0, 0, .null), some (.iadd, 0, 0, 0, .null), some (.putfield 259, 7, 18, 0, .null), none, none, some (.aload_n 0, 0, 0, 0, .null), some (.getfield 259, 7, 18, 0, .null), none, none, some (.ireturn, 0, 0, 0, .null)]
/-- MixMachine.erase()I -/
def nC5 : List (Option mI) := [some (.aload_n 0, 0, 0, 0, .null), some (.getfield 34, 0, 3, 0, .null), none, none, some (.getfield 58, 3, 1, 0, .null), none, none, some (.istore_n 1, 2, 0, 0, .null), some (.aload_n 0, 0, 0, 0, .null), some (.getfield 34, 0, 3, 0, .null), none, none, some (.iconst 0, 0, 0, 0, .null), some (.putfield 58, 3, 1, 0, .null), none, none, some (.iload_n 1, 0, 0, 0, .null), some (.ireturn, 0, 0, 0, .null)]
/-- MixMachineModel.erase()I -/
def nC6 : List (Option mI) := [some (.aload_n 0, 0, 0, 0, .null), some (.iconst 0, 0, 0, 0, .null), some (.putfield 82, 7, 0, 0, .null), none, none, some (.aload_n 0, 0, 0, 0, .null), some (.getfield 259, 7, 18, 0, .null), none, none, some (.istore_n 1, 2, 0, 0, .null), some (.aload_n 0, 0, 0, 0, .null), some (.iconst 0, 0, 0, 0, .null), some (.putfield 259, 7, 18, 0, .null), none, none, some (.iload_n 1, 0, 0, 0, .null), some (.ireturn, 0, 0, 0, .null)]
/-- MixMachineLaw.assemble(LMixMachine;[J)I -/
def nC7 : List (Option mI) := [some (.aload_n 1, 0, 0, 0, .null), some (.iconst 0, 0, 0, 0, .null), some (.aload_n 0, 0, 0, 0, .null), some (.invokevirtual 17, 38, 1, 0, (.retAddr 0)), none, none, some (.i2l, 0, 0, 0, .null), some (.lastore, 0, 0, 0, .null), some (.goto 6, 0, 0, 0, .null), none, none, some (.astore_n 2, 3, 0, 0, .null), some (.iconst 1, 0, 0, 0, .null), some (.ireturn, 0, 0, 0, .null), some (.iconst 0, 0, 0, 0, .null), some (.ireturn, 0, 0, 0, .null)]
/-- MixMachineModel.assemble()I -/
def nC8 : List (Option mI) := [some (.aload_n 0, 0, 0, 0, .null), some (.iconst 0, 0, 0, 0, .null), some (.putfield 82, 7, 0, 0, .null), none, none, some (.aload_n 0, 0, 0, 0, .null), some (.invokevirtual 492, 39, 1, 0, (.retAddr 7)), none, none, some (.iconst 0, 0, 0, 0, .null), some (.istore_n 1, 4, 0, 0, .null), some (.iconst 0, 0, 0, 0, .null), some (.istore_n 2, 4, 0, 0, .null), some (.aload_n 0, 0, 0, 0, .null), some (.getfield 262, 7, 23, 0, .null), none, none, some (.ifCond .ne 68, 0, 0, 0, .null), none, none, some (.aload_n 0, 0, 0, 0, .null), some (.getfield 465, 7, 26, 0, .null), none, none, some (.ifCond .ne 61, 0, 0, 0, .null), none, none, some (.iinc 1 1, 4, 0, 0, .null), none, none, some (.iload_n 2, 0, 0, 0, .null), some (.istore_n 3, 4, 0, 0, .null), some (.iload_n 3, 0, 0, 0, .null), some (.aload_n 0, 0, 0, 0, .null), some (.getfield 259, 7, 18, 0, .null), none, none, some (.if_icmp .ge 20, 0, 0, 0, .null), none, none, some (.aload_n 0, 0, 0, 0, .null), some (.getfield 32, 7, 19, 0, .null), none, none, some (.iload_n 3, 0, 0, 0, .null), some (.iaload, 0, 0, 0, .null), some (.bipush 10, 0, 0, 0, .null), none, some (.if_icmp .eq 9, 0, 0, 0, .null), none, none, some (.iinc 3 1, 4, 0, 0, .null), none, none, some (.goto (-22), 0, 0, 0, .null), none, none, some (.iload_n 2, 0, 0, 0, .null), some (.aload_n 0, 0, 0, 0, .null), some (.getfield 259, 7, 18, 0, .null), none, none, some (.if_icmp .le 10, 0, 0, 0, .null), none, none, some (.aload_n 0, 0, 0, 0, .null), some (.invokevirtual 291, 40, 1, 0, (.retAddr 7)), none, none, some (.goto 9, 0, 0, 0, .null), none, none, some (.aload_n 0, 0, 0, 0, .null), some (.iload_n 2, 0, 0, 0, .null), some (.iload_n 3, 0, 0, 0, .null), some (.invokevirtual 495, 41, 3, 0, (.retAddr 7)), none, none, some (.iload_n 3, 0, 0, 0, .null), some (.iconst 1, 0, 0, 0, .null), some (.iadd, 0, 0, 0, .null), some (.istore_n 2, 4, 0, 0, .null), some (.goto (-69), 0, 0, 0, .null), none, none, some (.aload_n 0, 0, 0, 0, .null), some (.aload_n 0, 0, 0, 0, .null), some (.getfield 262, 7, 23, 0, .null), none, none, some (.ifCond .eq 7, 0, 0, 0, .null), none, none, some (.iload_n 1, 0, 0, 0, .null), some (.goto 4, 0, 0, 0, .null), none, none, some (.iconst (-1), 0, 0, 0, .null), some (.putfield 35, 7, 20, 0, .null), none, none, some (.aload_n 0, 0, 0, 0, .null), some (.getfield 262, 7, 23, 0, .null), none, none, some (.ifCond .eq 9, 0, 0, 0, .null), none, none, some (.aload_n 0, 0, 0, 0, .null), some (.iconst 1, 0, 0, 0, .null), some (.invokevirtual 250, 37, 2, 0, (.retAddr 7)), none, none, some (.ireturn, 0, 0, 0, .null), some (.iconst 0, 0, 0, 0, .null), some (.istore_n 3, 4, 0, 0, .null), some (.iload_n 3, 0, 0, 0, .null), some (.sipush 200, 0, 0, 0, .null), none, none, some (.if_icmp .ge 30, 0, 0, 0, .null), none, none, some (.aload_n 0, 0, 0, 0, .null), some (.getfield 41, 7, 28, 0, .null), none, none, some (.iload_n 3, 0, 0, 0, .null), some (.baload, 0, 0, 0, .null), some (.ifCond .eq 15, 0, 0, 0, .null), none, none, some (.aload_n 0, 0, 0, 0, .null), some (.getfield 7, 7, 1, 0, .null), none, none, some (.iload_n 3, 0, 0, 0, .null), some (.aload_n 0, 0, 0, 0, .null), some (.getfield 38, 7, 27, 0, .null), none, none, some (.iload_n 3, 0, 0, 0, .null), some (.iaload, 0, 0, 0, .null), some (.iastore, 0, 0, 0, .null), some (.iinc 3 1, 4, 0, 0, .null), none, none, some (.goto (-31), 0, 0, 0, .null), none, none, some (.aload_n 0, 0, 0, 0, .null), some (.aload_n 0, 0, 0, 0, .null), some (.getfield 280, 7, 29, 0, .null), none, none, some (.putfield 498, 7, 42, 0, .null), none, none, some (.iconst 0, 0, 0, 0, .null), some (.istore_n 3, 4, 0, 0, .null), some (.iload_n 3, 0, 0, 0, .null), some (.aload_n 0, 0, 0, 0, .null), some (.getfield 280, 7, 29, 0, .null), none, none, some (.if_icmp .ge 33, 0, 0, 0, .null), none, none, some (.aload_n 0, 0, 0, 0, .null), some (.getfield 76, 7, 43, 0, .null), none, none, some (.iload_n 3, 0, 0, 0, .null), some (.aload_n 0, 0, 0, 0, .null), some (.getfield 45, 7, 30, 0, .null), none, none, some (.iload_n 3, 0, 0, 0, .null), some (.laload, 0, 0, 0, .null), some (.lastore, 0, 0, 0, .null), some (.aload_n 0, 0, 0, 0, .null), some (.getfield 79, 7, 44, 0, .null), none, none, some (.iload_n 3, 0, 0, 0, .null), some (.aload_n 0, 0, 0, 0, .null), some (.getfield 52, 7, 32, 0, .null), none, none, some (.iload_n 3, 0, 0, 0, .null), some (.iaload, 0, 0, 0, .null), some (.iastore, 0, 0, 0, .null), some (.iinc 3 1, 4, 0, 0, .null), none, none, some (.goto (-35), 0, 0, 0, .null), none, none, some (.aload_n 0, 0, 0, 0, .null), some (.aload_n 0, 0, 0, 0, .null), some (.getfield 477, 7, 25, 0, .null), none, none, some (.putfield 147, 7, 6, 0, .null), none, none, some (.aload_n 0, 0, 0, 0, .null), some (.iconst 0, 0, 0, 0, .null), some (.putfield 16, 7, 10, 0, .null), none, none, some (.aload_n 0, 0, 0, 0, .null), some (.getfield 477, 7, 25, 0, .null), none, none, some (.ireturn, 0, 0, 0, .null)]
/-- MixMachine.line()I -/
def nC9 : List (Option mI) := [some (.aload_n 0, 0, 0, 0, .null), some (.getfield 43, 0, 4, 0, .null), none, none, some (.getfield 92, 4, 11, 0, .null), none, none, some (.ireturn, 0, 0, 0, .null)]
/-- MixMachineModel.line()I -/
def nC10 : List (Option mI) := [some (.aload_n 0, 0, 0, 0, .null), some (.iconst 0, 0, 0, 0, .null), some (.putfield 82, 7, 0, 0, .null), none, none, some (.aload_n 0, 0, 0, 0, .null), some (.getfield 35, 7, 20, 0, .null), none, none, some (.ireturn, 0, 0, 0, .null)]
/-- MixMachineLaw.symbol(LMixMachine;J[J)I -/
def nC11 : List (Option mI) := [some (.aload_n 3, 0, 0, 0, .null), some (.iconst 0, 0, 0, 0, .null), some (.aload_n 0, 0, 0, 0, .null), some (.lload_n 1, 0, 0, 0, .null), some (.invokevirtual 21, 42, 2, 0, (.retAddr 0)), none, none, some (.i2l, 0, 0, 0, .null), some (.lastore, 0, 0, 0, .null), some (.goto 7, 0, 0, 0, .null), none, none, some (.astore 4, 5, 0, 0, .null), none, some (.iconst 1, 0, 0, 0, .null), some (.ireturn, 0, 0, 0, .null), some (.iconst 0, 0, 0, 0, .null), some (.ireturn, 0, 0, 0, .null)]
/-- MixMachineModel.symbol(J)I -/
def nC12 : List (Option mI) := [some (.aload_n 0, 0, 0, 0, .null), some (.iconst 0, 0, 0, 0, .null), some (.putfield 82, 7, 0, 0, .null), none, none, some (.iconst 0, 0, 0, 0, .null), some (.istore_n 3, 4, 0, 0, .null), some (.iload_n 3, 0, 0, 0, .null), some (.aload_n 0, 0, 0, 0, .null), some (.getfield 498, 7, 42, 0, .null), none, none, some (.if_icmp .ge 27, 0, 0, 0, .null), none, none, some (.aload_n 0, 0, 0, 0, .null), some (.getfield 76, 7, 43, 0, .null), none, none, some (.iload_n 3, 0, 0, 0, .null), some (.laload, 0, 0, 0, .null), some (.lload_n 1, 0, 0, 0, .null), some (.lcmp, 0, 0, 0, .null), some (.ifCond .ne 10, 0, 0, 0, .null), none, none, some (.aload_n 0, 0, 0, 0, .null), some (.getfield 79, 7, 44, 0, .null), none, none, some (.iload_n 3, 0, 0, 0, .null), some (.iaload, 0, 0, 0, .null), some (.ireturn, 0, 0, 0, .null), some (.iinc 3 1, 4, 0, 0, .null), none, none, some (.goto (-29), 0, 0, 0, .null), none, none, some (.aload_n 0, 0, 0, 0, .null), some (.iconst 1, 0, 0, 0, .null), some (.invokevirtual 250, 37, 2, 0, (.retAddr 7)), none, none, some (.ireturn, 0, 0, 0, .null)]
/-- MixMachineLaw.step(LMixMachine;I[J)I -/
def nC13 : List (Option mI) := [some (.aload_n 2, 0, 0, 0, .null), some (.iconst 0, 0, 0, 0, .null), some (.aload_n 0, 0, 0, 0, .null), some (.iload_n 1, 0, 0, 0, .null), some (.invokevirtual 27, 43, 2, 0, (.retAddr 0)), none, none, some (.i2l, 0, 0, 0, .null), some (.lastore, 0, 0, 0, .null), some (.goto 9, 0, 0, 0, .null), none, none, some (.astore_n 3, 4, 0, 0, .null), some (.iconst 1, 0, 0, 0, .null), some (.ireturn, 0, 0, 0, .null), some (.astore_n 3, 4, 0, 0, .null), some (.iconst 2, 0, 0, 0, .null), some (.ireturn, 0, 0, 0, .null), some (.iconst 0, 0, 0, 0, .null), some (.ireturn, 0, 0, 0, .null)]
/-- MixMachineModel.step(I)I -/
def nC14 : List (Option mI) := [some (.aload_n 0, 0, 0, 0, .null), some (.iconst 0, 0, 0, 0, .null), some (.putfield 82, 7, 0, 0, .null), none, none, some (.iload_n 1, 0, 0, 0, .null), some (.iconst 1, 0, 0, 0, .null), some (.sipush 500, 0, 0, 0, .null), none, none, some (.invokestatic 103, 36, 3, 0, .null), none, none, some (.ifCond .ne 9, 0, 0, 0, .null), none, none, some (.aload_n 0, 0, 0, 0, .null), some (.iconst 1, 0, 0, 0, .null), some (.invokevirtual 250, 37, 2, 0, (.retAddr 7)), none, none, some (.ireturn, 0, 0, 0, .null), some (.aload_n 0, 0, 0, 0, .null), some (.getfield 16, 7, 10, 0, .null), none, none, some (.ifCond .le 9, 0, 0, 0, .null), none, none, some (.aload_n 0, 0, 0, 0, .null), some (.iconst 2, 0, 0, 0, .null), some (.invokevirtual 250, 37, 2, 0, (.retAddr 7)), none, none, some (.ireturn, 0, 0, 0, .null), some (.iconst 0, 0, 0, 0, .null), some (.istore_n 2, 3, 0, 0, .null), some (.iload_n 2, 0, 0, 0, .null), some (.iload_n 1, 0, 0, 0, .null), some (.if_icmp .ge 31, 0, 0, 0, .null), none, none, some (.aload_n 0, 0, 0, 0, .null), some (.getfield 16, 7, 10, 0, .null), none, none, some (.ifCond .ne 24, 0, 0, 0, .null), none, none, some (.aload_n 0, 0, 0, 0, .null), some (.invokevirtual 253, 44, 1, 0, (.retAddr 7)), none, none, some (.ifCond .eq 9, 0, 0, 0, .null), none, none, some (.iinc 2 1, 3, 0, 0, .null), none, none, some (.goto (-22), 0, 0, 0, .null), none, none, some (.aload_n 0, 0, 0, 0, .null), some (.iconst 2, 0, 0, 0, .null), some (.putfield 16, 7, 10, 0, .null), none, none, some (.goto (-30), 0, 0, 0, .null), none, none, some (.iload_n 2, 0, 0, 0, .null), some (.ireturn, 0, 0, 0, .null)]
/-- MixMachineLaw.go(LMixMachine;I[J)I -/
def nC15 : List (Option mI) := [some (.aload_n 2, 0, 0, 0, .null), some (.iconst 0, 0, 0, 0, .null), some (.aload_n 0, 0, 0, 0, .null), some (.iload_n 1, 0, 0, 0, .null), some (.invokevirtual 31, 45, 2, 0, (.retAddr 0)), none, none, some (.ifCond .eq 7, 0, 0, 0, .null), none, none, some (.lconst 1, 0, 0, 0, .null), some (.goto 4, 0, 0, 0, .null), none, none, some (.lconst 0, 0, 0, 0, .null), some (.lastore, 0, 0, 0, .null), some (.goto 6, 0, 0, 0, .null), none, none, some (.astore_n 3, 4, 0, 0, .null), some (.iconst 1, 0, 0, 0, .null), some (.ireturn, 0, 0, 0, .null), some (.iconst 0, 0, 0, 0, .null), some (.ireturn, 0, 0, 0, .null)]
/-- MixMachineModel.go(I)Z -/
def nC16 : List (Option mI) := [some (.aload_n 0, 0, 0, 0, .null), some (.iconst 0, 0, 0, 0, .null), some (.putfield 82, 7, 0, 0, .null), none, none, some (.aload_n 0, 0, 0, 0, .null), some (.iload_n 1, 0, 0, 0, .null), some (.invokevirtual 107, 46, 2, 0, (.retAddr 7)), none, none, some (.ifCond .ne 17, 0, 0, 0, .null), none, none, some (.aload_n 0, 0, 0, 0, .null), some (.iconst 1, 0, 0, 0, .null), some (.invokevirtual 250, 37, 2, 0, (.retAddr 7)), none, none, some (.ifCond .le 7, 0, 0, 0, .null), none, none, some (.iconst 1, 0, 0, 0, .null), some (.goto 4, 0, 0, 0, .null), none, none, some (.iconst 0, 0, 0, 0, .null), some (.ireturn, 1, 0, 0, .null), some (.aload_n 0, 0, 0, 0, .null), some (.getfield 16, 7, 10, 0, .null), none, none, some (.ifCond .le 7, 0, 0, 0, .null), none, none, some (.iconst 1, 0, 0, 0, .null), some (.goto 4, 0, 0, 0, .null), none, none, some (.iconst 0, 0, 0, 0, .null), some (.istore_n 2, 3, 0, 0, .null), some (.aload_n 0, 0, 0, 0, .null), some (.iload_n 1, 0, 0, 0, .null), some (.putfield 147, 7, 6, 0, .null), none, none, some (.aload_n 0, 0, 0, 0, .null), some (.iconst 0, 0, 0, 0, .null), some (.putfield 16, 7, 10, 0, .null), none, none, some (.iload_n 2, 0, 0, 0, .null), some (.ireturn, 1, 0, 0, .null)]
/-- MixMachineLaw.poke(LMixMachine;II[J)I -/
def nC17 : List (Option mI) := [some (.aload_n 3, 0, 0, 0, .null), some (.iconst 0, 0, 0, 0, .null), some (.aload_n 0, 0, 0, 0, .null), some (.iload_n 1, 0, 0, 0, .null), some (.iload_n 2, 0, 0, 0, .null), some (.invokevirtual 35, 47, 3, 0, (.retAddr 0)), none, none, some (.i2l, 0, 0, 0, .null), some (.lastore, 0, 0, 0, .null), some (.goto 11, 0, 0, 0, .null), none, none, some (.astore 4, 5, 0, 0, .null), none, some (.iconst 1, 0, 0, 0, .null), some (.ireturn, 0, 0, 0, .null), some (.astore 4, 5, 0, 0, .null), none, some (.iconst 2, 0, 0, 0, .null), some (.ireturn, 0, 0, 0, .null), some (.iconst 0, 0, 0, 0, .null), some (.ireturn, 0, 0, 0, .null)]
/-- MixMachineModel.poke(II)I -/
def nC18 : List (Option mI) := [some (.aload_n 0, 0, 0, 0, .null), some (.iconst 0, 0, 0, 0, .null), some (.putfield 82, 7, 0, 0, .null), none, none, some (.aload_n 0, 0, 0, 0, .null), some (.iload_n 1, 0, 0, 0, .null), some (.invokevirtual 107, 46, 2, 0, (.retAddr 7)), none, none, some (.ifCond .ne 9, 0, 0, 0, .null), none, none, some (.aload_n 0, 0, 0, 0, .null), some (.iconst 1, 0, 0, 0, .null), some (.invokevirtual 250, 37, 2, 0, (.retAddr 7)), none, none, some (.ireturn, 0, 0, 0, .null), some (.iload_n 2, 0, 0, 0, .null), some (.ifCond .ge 9, 0, 0, 0, .null), none, none, some (.aload_n 0, 0, 0, 0, .null), some (.iconst 2, 0, 0, 0, .null), some (.invokevirtual 250, 37, 2, 0, (.retAddr 7)), none, none, some (.ireturn, 0, 0, 0, .null), some (.aload_n 0, 0, 0, 0, .null), some (.getfield 7, 7, 1, 0, .null), none, none, some (.iload_n 1, 0, 0, 0, .null), some (.iaload, 0, 0, 0, .null), some (.istore_n 3, 4, 0, 0, .null), some (.aload_n 0, 0, 0, 0, .null), some (.getfield 7, 7, 1, 0, .null), none, none, some (.iload_n 1, 0, 0, 0, .null), some (.iload_n 2, 0, 0, 0, .null), some (.iastore, 0, 0, 0, .null), some (.iload_n 3, 0, 0, 0, .null), some (.ireturn, 0, 0, 0, .null)]
/-- MixMachineLaw.word(LMixMachine;I[J)I -/
def nC19 : List (Option mI) := [some (.aload_n 2, 0, 0, 0, .null), some (.iconst 0, 0, 0, 0, .null), some (.aload_n 0, 0, 0, 0, .null), some (.iload_n 1, 0, 0, 0, .null), some (.invokevirtual 41, 48, 2, 0, (.retAddr 0)), none, none, some (.i2l, 0, 0, 0, .null), some (.lastore, 0, 0, 0, .null), some (.goto 6, 0, 0, 0, .null), none, none, some (.astore_n 3, 4, 0, 0, .null), some (.iconst 1, 0, 0, 0, .null), some (.ireturn, 0, 0, 0, .null), some (.iconst 0, 0, 0, 0, .null), some (.ireturn, 0, 0, 0, .null)]
/-- MixMachineModel.word(I)I -/
def nC20 : List (Option mI) := [some (.aload_n 0, 0, 0, 0, .null), some (.iconst 0, 0, 0, 0, .null), some (.putfield 82, 7, 0, 0, .null), none, none, some (.aload_n 0, 0, 0, 0, .null), some (.iload_n 1, 0, 0, 0, .null), some (.invokevirtual 107, 46, 2, 0, (.retAddr 7)), none, none, some (.ifCond .eq 12, 0, 0, 0, .null), none, none, some (.aload_n 0, 0, 0, 0, .null), some (.getfield 7, 7, 1, 0, .null), none, none, some (.iload_n 1, 0, 0, 0, .null), some (.iaload, 0, 0, 0, .null), some (.goto 8, 0, 0, 0, .null), none, none, some (.aload_n 0, 0, 0, 0, .null), some (.iconst 1, 0, 0, 0, .null), some (.invokevirtual 250, 37, 2, 0, (.retAddr 7)), none, none, some (.ireturn, 0, 0, 0, .null)]
/-- MixMachineLaw.register(LMixMachine;I[J)I -/
def nC21 : List (Option mI) := [some (.aload_n 2, 0, 0, 0, .null), some (.iconst 0, 0, 0, 0, .null), some (.aload_n 0, 0, 0, 0, .null), some (.iload_n 1, 0, 0, 0, .null), some (.invokevirtual 44, 49, 2, 0, (.retAddr 0)), none, none, some (.i2l, 0, 0, 0, .null), some (.lastore, 0, 0, 0, .null), some (.goto 6, 0, 0, 0, .null), none, none, some (.astore_n 3, 4, 0, 0, .null), some (.iconst 1, 0, 0, 0, .null), some (.ireturn, 0, 0, 0, .null), some (.iconst 0, 0, 0, 0, .null), some (.ireturn, 0, 0, 0, .null)]
/-- MixMachineModel.register(I)I -/
def nC22 : List (Option mI) := [some (.aload_n 0, 0, 0, 0, .null), some (.iconst 0, 0, 0, 0, .null), some (.putfield 82, 7, 0, 0, .null), none, none, some (.iload_n 1, 0, 0, 0, .null), some (.iconst 0, 0, 0, 0, .null), some (.bipush 8, 0, 0, 0, .null), none, some (.invokestatic 103, 36, 3, 0, .null), none, none, some (.ifCond .eq 12, 0, 0, 0, .null), none, none, some (.aload_n 0, 0, 0, 0, .null), some (.getfield 13, 7, 2, 0, .null), none, none, some (.iload_n 1, 0, 0, 0, .null), some (.iaload, 0, 0, 0, .null), some (.goto 8, 0, 0, 0, .null), none, none, some (.aload_n 0, 0, 0, 0, .null), some (.iconst 1, 0, 0, 0, .null), some (.invokevirtual 250, 37, 2, 0, (.retAddr 7)), none, none, some (.ireturn, 0, 0, 0, .null)]
/-- MixMachineLaw.card(LMixMachine;IIII[J)I -/
def nC23 : List (Option mI) := [some (.aload 5, 0, 0, 0, .null), none, some (.iconst 0, 0, 0, 0, .null), some (.aload_n 0, 0, 0, 0, .null), some (.iload_n 1, 0, 0, 0, .null), some (.iload_n 2, 0, 0, 0, .null), some (.iload_n 3, 0, 0, 0, .null), some (.iload 4, 0, 0, 0, .null), none, some (.invokevirtual 47, 50, 5, 0, (.retAddr 0)), none, none, some (.i2l, 0, 0, 0, .null), some (.lastore, 0, 0, 0, .null), some (.goto 11, 0, 0, 0, .null), none, none, some (.astore 6, 7, 0, 0, .null), none, some (.iconst 1, 0, 0, 0, .null), some (.ireturn, 0, 0, 0, .null), some (.astore 6, 7, 0, 0, .null), none, some (.iconst 2, 0, 0, 0, .null), some (.ireturn, 0, 0, 0, .null), some (.iconst 0, 0, 0, 0, .null), some (.ireturn, 0, 0, 0, .null)]
/-- MixMachineModel.card(IIII)I -/
def nC24 : List (Option mI) := [some (.aload_n 0, 0, 0, 0, .null), some (.iconst 0, 0, 0, 0, .null), some (.putfield 82, 7, 0, 0, .null), none, none, some (.iload_n 1, 0, 0, 0, .null), some (.ifCond .lt 16, 0, 0, 0, .null), none, none, some (.iload_n 2, 0, 0, 0, .null), some (.ifCond .lt 12, 0, 0, 0, .null), none, none, some (.iload_n 3, 0, 0, 0, .null), some (.ifCond .lt 8, 0, 0, 0, .null), none, none, some (.iload 4, 0, 0, 0, .null), none, some (.ifCond .ge 9, 0, 0, 0, .null), none, none, some (.aload_n 0, 0, 0, 0, .null), some (.iconst 1, 0, 0, 0, .null), some (.invokevirtual 250, 37, 2, 0, (.retAddr 7)), none, none, some (.ireturn, 0, 0, 0, .null), some (.aload_n 0, 0, 0, 0, .null), some (.getfield 117, 7, 13, 0, .null), none, none, some (.bipush 6, 0, 0, 0, .null), none, some (.if_icmp .ne 9, 0, 0, 0, .null), none, none, some (.aload_n 0, 0, 0, 0, .null), some (.iconst 2, 0, 0, 0, .null), some (.invokevirtual 250, 37, 2, 0, (.retAddr 7)), none, none, some (.ireturn, 0, 0, 0, .null), some (.aload_n 0, 0, 0, 0, .null), some (.getfield 23, 7, 14, 0, .null), none, none, some (.iconst 4, 0, 0, 0, .null), some (.aload_n 0, 0, 0, 0, .null), some (.getfield 117, 7, 13, 0, .null), none, none, some (.imul, 0, 0, 0, .null), some (.iload_n 1, 0, 0, 0, .null), some (.iastore, 0, 0, 0, .null), some (.aload_n 0, 0, 0, 0, .null), some (.getfield 23, 7, 14, 0, .null), none, none, some (.iconst 4, 0, 0, 0, .null), some (.aload_n 0, 0, 0, 0, .null), some (.getfield 117, 7, 13, 0, .null), none, none, some (.imul, 0, 0, 0, .null), some (.iconst 1, 0, 0, 0, .null), some (.iadd, 0, 0, 0, .null), some (.iload_n 2, 0, 0, 0, .null), some (.iastore, 0, 0, 0, .null), some (.aload_n 0, 0, 0, 0, .null), some (.getfield 23, 7, 14, 0, .null), none, none, some (.iconst 4, 0, 0, 0, .null), some (.aload_n 0, 0, 0, 0, .null), some (.getfield 117, 7, 13, 0, .null), none, none, some (.imul, 0, 0, 0, .null), some (.iconst 2, 0, 0, 0, .null), some (.iadd, 0, 0, 0, .null), some (.iload_n 3, 0, 0, 0, .null), some (.iastore, 0, 0, 0, .null), some (.aload_n 0, 0, 0, 0, .null), some (.getfield 23, 7, 14, 0, .null), none, none, some (.iconst 4, 0, 0, 0, .null), some (.aload_n 0, 0, 0, 0, .null), some (.getfield 117, 7, 13, 0, .null), none, none, some (.imul, 0, 0, 0, .null), some (.iconst 3, 0, 0, 0, .null), some (.iadd, 0, 0, 0, .null), some (.iload 4, 0, 0, 0, .null), none, some (.iastore, 0, 0, 0, .null), some (.aload_n 0, 0, 0, 0, .null), some (.dup, 0, 0, 0, .null), some (.getfield 117, 7, 13, 0, .null), none, none, some (.iconst 1, 0, 0, 0, .null), some (.iadd, 0, 0, 0, .null), some (.putfield 117, 7, 13, 0, .null), none, none, some (.aload_n 0, 0, 0, 0, .null), some (.getfield 117, 7, 13, 0, .null), none, none, some (.ireturn, 0, 0, 0, .null)]
/-- MixMachineLaw.printed(LMixMachine;II[J)I -/
def nC25 : List (Option mI) := [some (.aload_n 3, 0, 0, 0, .null), some (.iconst 0, 0, 0, 0, .null), some (.aload_n 0, 0, 0, 0, .null), some (.iload_n 1, 0, 0, 0, .null), some (.iload_n 2, 0, 0, 0, .null), some (.invokevirtual 51, 51, 3, 0, (.retAddr 0)), none, none, some (.i2l, 0, 0, 0, .null), some (.lastore, 0, 0, 0, .null), some (.goto 7, 0, 0, 0, .null), none, none, some (.astore 4, 5, 0, 0, .null), none, some (.iconst 1, 0, 0, 0, .null), some (.ireturn, 0, 0, 0, .null), some (.iconst 0, 0, 0, 0, .null), some (.ireturn, 0, 0, 0, .null)]
/-- MixMachineModel.printed(II)I -/
def nC26 : List (Option mI) := [some (.aload_n 0, 0, 0, 0, .null), some (.iconst 0, 0, 0, 0, .null), some (.putfield 82, 7, 0, 0, .null), none, none, some (.iload_n 1, 0, 0, 0, .null), some (.iconst 0, 0, 0, 0, .null), some (.bipush 7, 0, 0, 0, .null), none, some (.invokestatic 103, 36, 3, 0, .null), none, none, some (.ifCond .eq 34, 0, 0, 0, .null), none, none, some (.iload_n 1, 0, 0, 0, .null), some (.aload_n 0, 0, 0, 0, .null), some (.getfield 128, 7, 15, 0, .null), none, none, some (.if_icmp .ge 26, 0, 0, 0, .null), none, none, some (.iload_n 2, 0, 0, 0, .null), some (.iconst 0, 0, 0, 0, .null), some (.iconst 5, 0, 0, 0, .null), some (.invokestatic 103, 36, 3, 0, .null), none, none, some (.ifCond .eq 17, 0, 0, 0, .null), none, none, some (.aload_n 0, 0, 0, 0, .null), some (.getfield 26, 7, 16, 0, .null), none, none, some (.bipush 6, 0, 0, 0, .null), none, some (.iload_n 1, 0, 0, 0, .null), some (.imul, 0, 0, 0, .null), some (.iload_n 2, 0, 0, 0, .null), some (.iadd, 0, 0, 0, .null), some (.iaload, 0, 0, 0, .null), some (.goto 8, 0, 0, 0, .null), none, none, some (.aload_n 0, 0, 0, 0, .null), some (.iconst 1, 0, 0, 0, .null), some (.invokevirtual 250, 37, 2, 0, (.retAddr 7)), none, none, some (.ireturn, 0, 0, 0, .null)]
/-- MixMachineLaw.tape(LMixMachine;II[J)I -/
def nC27 : List (Option mI) := [some (.aload_n 3, 0, 0, 0, .null), some (.iconst 0, 0, 0, 0, .null), some (.aload_n 0, 0, 0, 0, .null), some (.iload_n 1, 0, 0, 0, .null), some (.iload_n 2, 0, 0, 0, .null), some (.invokevirtual 54, 52, 3, 0, (.retAddr 0)), none, none, some (.i2l, 0, 0, 0, .null), some (.lastore, 0, 0, 0, .null), some (.goto 7, 0, 0, 0, .null), none, none, some (.astore 4, 5, 0, 0, .null), none, some (.iconst 1, 0, 0, 0, .null), some (.ireturn, 0, 0, 0, .null), some (.iconst 0, 0, 0, 0, .null), some (.ireturn, 0, 0, 0, .null)]
/-- MixMachineModel.tape(II)I -/
def nC28 : List (Option mI) := [some (.aload_n 0, 0, 0, 0, .null), some (.iconst 0, 0, 0, 0, .null), some (.putfield 82, 7, 0, 0, .null), none, none, some (.iload_n 1, 0, 0, 0, .null), some (.iconst 0, 0, 0, 0, .null), some (.iconst 5, 0, 0, 0, .null), some (.invokestatic 103, 36, 3, 0, .null), none, none, some (.ifCond .eq 27, 0, 0, 0, .null), none, none, some (.iload_n 2, 0, 0, 0, .null), some (.iconst 0, 0, 0, 0, .null), some (.bipush 9, 0, 0, 0, .null), none, some (.invokestatic 103, 36, 3, 0, .null), none, none, some (.ifCond .eq 17, 0, 0, 0, .null), none, none, some (.aload_n 0, 0, 0, 0, .null), some (.getfield 20, 7, 11, 0, .null), none, none, some (.bipush 10, 0, 0, 0, .null), none, some (.iload_n 1, 0, 0, 0, .null), some (.imul, 0, 0, 0, .null), some (.iload_n 2, 0, 0, 0, .null), some (.iadd, 0, 0, 0, .null), some (.iaload, 0, 0, 0, .null), some (.goto 8, 0, 0, 0, .null), none, none, some (.aload_n 0, 0, 0, 0, .null), some (.iconst 1, 0, 0, 0, .null), some (.invokevirtual 250, 37, 2, 0, (.retAddr 7)), none, none, some (.ireturn, 0, 0, 0, .null)]
/-- MixMachineLaw.state(LMixMachine;I[J)I -/
def nC29 : List (Option mI) := [some (.aload_n 2, 0, 0, 0, .null), some (.iconst 0, 0, 0, 0, .null), some (.aload_n 0, 0, 0, 0, .null), some (.iload_n 1, 0, 0, 0, .null), some (.invokevirtual 57, 53, 2, 0, (.retAddr 0)), none, none, some (.i2l, 0, 0, 0, .null), some (.lastore, 0, 0, 0, .null), some (.goto 6, 0, 0, 0, .null), none, none, some (.astore_n 3, 4, 0, 0, .null), some (.iconst 1, 0, 0, 0, .null), some (.ireturn, 0, 0, 0, .null), some (.iconst 0, 0, 0, 0, .null), some (.ireturn, 0, 0, 0, .null)]
/-- MixMachineModel.state(I)I -/
def nC30 : List (Option mI) := [some (.aload_n 0, 0, 0, 0, .null), some (.iconst 0, 0, 0, 0, .null), some (.putfield 82, 7, 0, 0, .null), none, none, some (.iload_n 1, 0, 0, 0, .null), some (.iconst 0, 0, 0, 0, .null), some (.bipush 7, 0, 0, 0, .null), none, some (.invokestatic 103, 36, 3, 0, .null), none, none, some (.ifCond .ne 9, 0, 0, 0, .null), none, none, some (.aload_n 0, 0, 0, 0, .null), some (.iconst 1, 0, 0, 0, .null), some (.invokevirtual 250, 37, 2, 0, (.retAddr 7)), none, none, some (.ireturn, 0, 0, 0, .null), some (.iload_n 1, 0, 0, 0, .null), some (.iconst 4, 0, 0, 0, .null), some (.if_icmp .ge 51, 0, 0, 0, .null), none, none, some (.iload_n 1, 0, 0, 0, .null), some (.ifCond .ne 10, 0, 0, 0, .null), none, none, some (.aload_n 0, 0, 0, 0, .null), some (.getfield 147, 7, 6, 0, .null), none, none, some (.goto 39, 0, 0, 0, .null), none, none, some (.iload_n 1, 0, 0, 0, .null), some (.iconst 1, 0, 0, 0, .null), some (.if_icmp .ne 10, 0, 0, 0, .null), none, none, some (.aload_n 0, 0, 0, 0, .null), some (.getfield 144, 7, 8, 0, .null), none, none, some (.goto 27, 0, 0, 0, .null), none, none, some (.iload_n 1, 0, 0, 0, .null), some (.iconst 2, 0, 0, 0, .null), some (.if_icmp .ne 18, 0, 0, 0, .null), none, none, some (.aload_n 0, 0, 0, 0, .null), some (.getfield 157, 7, 3, 0, .null), none, none, some (.ifCond .eq 7, 0, 0, 0, .null), none, none, some (.iconst 1, 0, 0, 0, .null), some (.goto 11, 0, 0, 0, .null), none, none, some (.iconst 0, 0, 0, 0, .null), some (.goto 7, 0, 0, 0, .null), none, none, some (.aload_n 0, 0, 0, 0, .null), some (.getfield 189, 7, 5, 0, .null), none, none, some (.ireturn, 0, 0, 0, .null), some (.iload_n 1, 0, 0, 0, .null), some (.bipush 6, 0, 0, 0, .null), none, some (.if_icmp .ge 20, 0, 0, 0, .null), none, none, some (.iload_n 1, 0, 0, 0, .null), some (.iconst 4, 0, 0, 0, .null), some (.if_icmp .ne 10, 0, 0, 0, .null), none, none, some (.aload_n 0, 0, 0, 0, .null), some (.getfield 16, 7, 10, 0, .null), none, none, some (.goto 7, 0, 0, 0, .null), none, none, some (.aload_n 0, 0, 0, 0, .null), some (.getfield 128, 7, 15, 0, .null), none, none, some (.ireturn, 0, 0, 0, .null), some (.iload_n 1, 0, 0, 0, .null), some (.bipush 6, 0, 0, 0, .null), none, some (.if_icmp .ne 10, 0, 0, 0, .null), none, none, some (.aload_n 0, 0, 0, 0, .null), some (.getfield 114, 7, 12, 0, .null), none, none, some (.goto 7, 0, 0, 0, .null), none, none, some (.aload_n 0, 0, 0, 0, .null), some (.getfield 244, 7, 9, 0, .null), none, none, some (.ireturn, 0, 0, 0, .null)]
/-- MixMachine$Units.<init>([I)V -/
def nC31 : List (Option mI) := [some (.aload_n 0, 0, 0, 0, .null), some (.invokespecial 3, 0, 0, 1, .null), none, none, some (.aload_n 0, 0, 0, 0, .null), some (.aload_n 1, 0, 0, 0, .null), some (.putfield 9, 1, 0, 3, .null), none, none, some (.aload_n 0, 0, 0, 0, .null), some (.bipush 60, 0, 0, 0, .null), none, some (.newarray .int, 0, 0, 0, .null), none, some (.putfield 15, 1, 1, 3, .null), none, none, some (.aload_n 0, 0, 0, 0, .null), some (.bipush 24, 0, 0, 0, .null), none, some (.newarray .int, 0, 0, 0, .null), none, some (.putfield 18, 1, 2, 3, .null), none, none, some (.aload_n 0, 0, 0, 0, .null), some (.bipush 48, 0, 0, 0, .null), none, some (.newarray .int, 0, 0, 0, .null), none, some (.putfield 21, 1, 3, 3, .null), none, none, some (.aload_n 0, 0, 0, 0, .null), some (.getstatic 24, 0, 0, 0, (.ref 1)), none, none, some (.arraylength, 0, 0, 0, .null), some (.newarray .int, 0, 0, 0, .null), none, some (.putfield 27, 1, 4, 3, .null), none, none, some (.return_, 0, 0, 0, .null)]
/-- MixMachine$Processor.<init>([ILMixMachine$Units;)V -/
def nC32 : List (Option mI) := [some (.aload_n 0, 0, 0, 0, .null), some (.invokespecial 3, 0, 0, 1, .null), none, none, some (.aload_n 0, 0, 0, 0, .null), some (.aload_n 1, 0, 0, 0, .null), some (.putfield 9, 2, 0, 3, .null), none, none, some (.aload_n 0, 0, 0, 0, .null), some (.aload_n 2, 0, 0, 0, .null), some (.putfield 15, 2, 1, 3, .null), none, none, some (.aload_n 0, 0, 0, 0, .null), some (.bipush 9, 0, 0, 0, .null), none, some (.newarray .int, 0, 0, 0, .null), none, some (.putfield 19, 2, 2, 3, .null), none, none, some (.aload_n 0, 0, 0, 0, .null), some (.iconst 1, 0, 0, 0, .null), some (.putfield 22, 2, 6, 0, .null), none, none, some (.return_, 0, 0, 0, .null)]
/-- MixMachine$Text.<init>()V -/
def nC33 : List (Option mI) := [some (.aload_n 0, 0, 0, 0, .null), some (.invokespecial 3, 0, 0, 1, .null), none, none, some (.aload_n 0, 0, 0, 0, .null), some (.sipush 240, 0, 0, 0, .null), none, none, some (.newarray .char, 0, 0, 0, .null), none, some (.putfield 9, 3, 0, 3, .null), none, none, some (.return_, 0, 0, 0, .null)]
/-- MixMachine$Assembler.<init>(LMixMachine$Text;)V -/
def nC34 : List (Option mI) := [some (.aload_n 0, 0, 0, 0, .null), some (.invokespecial 5, 0, 0, 1, .null), none, none, some (.aload_n 0, 0, 0, 0, .null), some (.aload_n 1, 0, 0, 0, .null), some (.putfield 11, 4, 0, 3, .null), none, none, some (.aload_n 0, 0, 0, 0, .null), some (.new 17, 5, 0, 0, .null), none, none, some (.dup, 0, 0, 0, .null), some (.invokespecial 19, 54, 1, 0, .null), none, none, some (.putfield 20, 4, 1, 3, .null), none, none, some (.aload_n 0, 0, 0, 0, .null), some (.new 17, 5, 0, 0, .null), none, none, some (.dup, 0, 0, 0, .null), some (.invokespecial 19, 54, 1, 0, .null), none, none, some (.putfield 24, 4, 2, 3, .null), none, none, some (.aload_n 0, 0, 0, 0, .null), some (.new 27, 6, 0, 0, .null), none, none, some (.dup, 0, 0, 0, .null), some (.invokespecial 29, 55, 1, 0, .null), none, none, some (.putfield 30, 4, 3, 3, .null), none, none, some (.aload_n 0, 0, 0, 0, .null), some (.sipush 200, 0, 0, 0, .null), none, none, some (.newarray .int, 0, 0, 0, .null), none, some (.putfield 34, 4, 4, 3, .null), none, none, some (.aload_n 0, 0, 0, 0, .null), some (.bipush 20, 0, 0, 0, .null), none, some (.newarray .int, 0, 0, 0, .null), none, some (.putfield 38, 4, 5, 3, .null), none, none, some (.aload_n 0, 0, 0, 0, .null), some (.bipush 10, 0, 0, 0, .null), none, some (.newarray .int, 0, 0, 0, .null), none, some (.putfield 41, 4, 6, 3, .null), none, none, some (.aload_n 0, 0, 0, 0, .null), some (.getstatic 44, 0, 0, 0, (.ref 2)), none, none, some (.putfield 50, 4, 15, 3, .null), none, none, some (.aload_n 0, 0, 0, 0, .null), some (.iconst (-1), 0, 0, 0, .null), some (.putfield 53, 4, 11, 0, .null), none, none, some (.return_, 0, 0, 0, .null)]
/-- MixMachine.write(JI)I -/
def nC35 : List (Option mI) := [some (.iload_n 3, 0, 0, 0, .null), some (.iconst 1, 0, 0, 0, .null), some (.if_icmp .lt 17, 0, 0, 0, .null), none, none, some (.iload_n 3, 0, 0, 0, .null), some (.bipush 8, 0, 0, 0, .null), none, some (.if_icmp .gt 11, 0, 0, 0, .null), none, none, some (.lload_n 1, 0, 0, 0, .null), some (.iload_n 3, 0, 0, 0, .null), some (.invokestatic 47, 56, 2, 0, .null), none, none, some (.ifCond .ne 13, 0, 0, 0, .null), none, none, some (.new 51, 53, 55, 1, .null), none, none, none, none, none, none, none, none, none, some (.aload_n 0, 0, 0, 0, .null), some (.getfield 34, 0, 3, 0, .null), none, none, some (.getfield 58, 3, 1, 0, .null), none, none, some (.iload_n 3, 0, 0, 0, .null), some (.iadd, 0, 0, 0, .null), some (.sipush 240, 0, 0, 0, .null), none, none, some (.if_icmp .le 13, 0, 0, 0, .null), none, none, some (.new 62, 64, 66, 2, .null), none, none, none, none, none, none, none, none, none, some (.aload_n 0, 0, 0, 0, .null), some (.getfield 34, 0, 3, 0, .null), none, none, some (.lload_n 1, 0, 0, 0, .null), some (.iload_n 3, 0, 0, 0, .null), some (.invokevirtual 67, 57, 3, 0, (.retAddr 3)), none, none, some (.aload_n 0, 0, 0, 0, .null), some (.getfield 34, 0, 3, 0, .null), none, none, some (.getfield 58, 3, 1, 0, .null), none, none, some (.ireturn, 0, 0, 0, .null)]
/-- MixMachineModel.within(III)Z -/
def nC36 : List (Option mI) := [some (.iload_n 0, 0, 0, 0, .null), some (.iload_n 1, 0, 0, 0, .null), some (.if_icmp .lt 12, 0, 0, 0, .null), none, none, some (.iload_n 0, 0, 0, 0, .null), some (.iload_n 2, 0, 0, 0, .null), some (.if_icmp .gt 7, 0, 0, 0, .null), none, none, some (.iconst 1, 0, 0, 0, .null), some (.goto 4, 0, 0, 0, .null), none, none, some (.iconst 0, 0, 0, 0, .null), some (.ireturn, 1, 0, 0, .null)]
/-- MixMachineModel.fail(I)I -/
def nC37 : List (Option mI) := [some (.aload_n 0, 0, 0, 0, .null), some (.iload_n 1, 0, 0, 0, .null), some (.putfield 82, 7, 0, 0, .null), none, none, some (.iconst 0, 0, 0, 0, .null), some (.ireturn, 0, 0, 0, .null)]
/-- MixMachine.assemble()I -/
def nC38 : List (Option mI) := [some (.aload_n 0, 0, 0, 0, .null), some (.getfield 43, 0, 4, 0, .null), none, none, some (.invokevirtual 71, 58, 1, 0, (.retAddr 4)), none, none, some (.iconst 0, 0, 0, 0, .null), some (.istore_n 1, 2, 0, 0, .null), some (.iload_n 1, 0, 0, 0, .null), some (.sipush 240, 0, 0, 0, .null), none, none, some (.if_icmp .gt 26, 0, 0, 0, .null), none, none, some (.aload_n 0, 0, 0, 0, .null), some (.getfield 43, 0, 4, 0, .null), none, none, some (.invokevirtual 74, 59, 1, 0, (.retAddr 4)), none, none, some (.ifCond .eq 16, 0, 0, 0, .null), none, none, some (.aload_n 0, 0, 0, 0, .null), some (.getfield 43, 0, 4, 0, .null), none, none, some (.invokevirtual 78, 60, 1, 0, (.retAddr 4)), none, none, some (.iinc 1 1, 2, 0, 0, .null), none, none, some (.goto (-27), 0, 0, 0, .null), none, none, some (.aload_n 0, 0, 0, 0, .null), some (.getfield 43, 0, 4, 0, .null), none, none, some (.invokevirtual 81, 61, 1, 0, (.retAddr 4)), none, none, some (.istore_n 1, 2, 0, 0, .null), some (.aload_n 0, 0, 0, 0, .null), some (.getfield 43, 0, 4, 0, .null), none, none, some (.aload_n 0, 0, 0, 0, .null), some (.getfield 9, 0, 0, 0, .null), none, none, some (.invokevirtual 85, 62, 2, 0, (.retAddr 4)), none, none, some (.aload_n 0, 0, 0, 0, .null), some (.getfield 27, 0, 2, 0, .null), none, none, some (.iload_n 1, 0, 0, 0, .null), some (.invokevirtual 88, 63, 2, 0, (.retAddr 2)), none, none, some (.iload_n 1, 0, 0, 0, .null), some (.ireturn, 0, 0, 0, .null)]
/-- MixMachineModel.fresh()V -/
def nC39 : List (Option mI) := [some (.aload_n 0, 0, 0, 0, .null), some (.iconst 0, 0, 0, 0, .null), some (.putfield 262, 7, 23, 1, .null), none, none, some (.aload_n 0, 0, 0, 0, .null), some (.iconst 0, 0, 0, 0, .null), some (.putfield 465, 7, 26, 1, .null), none, none, some (.aload_n 0, 0, 0, 0, .null), some (.iconst 0, 0, 0, 0, .null), some (.putfield 300, 7, 24, 0, .null), none, none, some (.aload_n 0, 0, 0, 0, .null), some (.iconst 0, 0, 0, 0, .null), some (.putfield 280, 7, 29, 0, .null), none, none, some (.aload_n 0, 0, 0, 0, .null), some (.iconst 0, 0, 0, 0, .null), some (.putfield 447, 7, 33, 0, .null), none, none, some (.aload_n 0, 0, 0, 0, .null), some (.iconst 0, 0, 0, 0, .null), some (.putfield 329, 7, 37, 0, .null), none, none, some (.iconst 0, 0, 0, 0, .null), some (.istore_n 1, 2, 0, 0, .null), some (.iload_n 1, 0, 0, 0, .null), some (.bipush 10, 0, 0, 0, .null), none, some (.if_icmp .ge 16, 0, 0, 0, .null), none, none, some (.aload_n 0, 0, 0, 0, .null), some (.getfield 58, 7, 35, 0, .null), none, none, some (.iload_n 1, 0, 0, 0, .null), some (.iconst 0, 0, 0, 0, .null), some (.bastore, 0, 0, 0, .null), some (.iinc 1 1, 2, 0, 0, .null), none, none, some (.goto (-16), 0, 0, 0, .null), none, none, some (.iconst 0, 0, 0, 0, .null), some (.istore_n 1, 2, 0, 0, .null), some (.iload_n 1, 0, 0, 0, .null), some (.sipush 200, 0, 0, 0, .null), none, none, some (.if_icmp .ge 16, 0, 0, 0, .null), none, none, some (.aload_n 0, 0, 0, 0, .null), some (.getfield 41, 7, 28, 0, .null), none, none, some (.iload_n 1, 0, 0, 0, .null), some (.iconst 0, 0, 0, 0, .null), some (.bastore, 0, 0, 0, .null), some (.iinc 1 1, 2, 0, 0, .null), none, none, some (.goto (-17), 0, 0, 0, .null), none, none, some (.return_, 0, 0, 0, .null)]
/-- MixMachineModel.wrong()V -/
def nC40 : List (Option mI) := [some (.aload_n 0, 0, 0, 0, .null), some (.iconst 1, 0, 0, 0, .null), some (.putfield 262, 7, 23, 1, .null), none, none, some (.return_, 0, 0, 0, .null)]
/-- MixMachineModel.readLine(II)V -/
def nC41 : List (Option mI) := [some (.iload_n 1, 0, 0, 0, .null), some (.iload_n 2, 0, 0, 0, .null), some (.if_icmp .ge 14, 0, 0, 0, .null), none, none, some (.aload_n 0, 0, 0, 0, .null), some (.getfield 32, 7, 19, 0, .null), none, none, some (.iload_n 1, 0, 0, 0, .null), some (.iaload, 0, 0, 0, .null), some (.bipush 42, 0, 0, 0, .null), none, some (.if_icmp .eq 13, 0, 0, 0, .null), none, none, some (.aload_n 0, 0, 0, 0, .null), some (.iload_n 1, 0, 0, 0, .null), some (.iload_n 2, 0, 0, 0, .null), some (.invokevirtual 483, 64, 3, 0, (.retAddr 7)), none, none, some (.iload_n 2, 0, 0, 0, .null), some (.if_icmp .ne 4, 0, 0, 0, .null), none, none, some (.return_, 0, 0, 0, .null), some (.aload_n 0, 0, 0, 0, .null), some (.iload_n 2, 0, 0, 0, .null), some (.putfield 271, 7, 22, 0, .null), none, none, some (.aload_n 0, 0, 0, 0, .null), some (.iload_n 1, 0, 0, 0, .null), some (.iload_n 2, 0, 0, 0, .null), some (.invokevirtual 486, 65, 3, 0, (.retAddr 7)), none, none, some (.istore_n 3, 8, 0, 0, .null), some (.aload_n 0, 0, 0, 0, .null), some (.iload_n 3, 0, 0, 0, .null), some (.iload_n 2, 0, 0, 0, .null), some (.invokevirtual 483, 64, 3, 0, (.retAddr 7)), none, none, some (.istore 4, 8, 0, 0, .null), none, some (.iload 4, 0, 0, 0, .null), none, some (.iload_n 2, 0, 0, 0, .null), some (.if_icmp .ne 8, 0, 0, 0, .null), none, none, some (.aload_n 0, 0, 0, 0, .null), some (.invokevirtual 291, 40, 1, 0, (.retAddr 7)), none, none, some (.return_, 0, 0, 0, .null), some (.aload_n 0, 0, 0, 0, .null), some (.iload 4, 0, 0, 0, .null), none, some (.iload_n 2, 0, 0, 0, .null), some (.invokevirtual 486, 65, 3, 0, (.retAddr 7)), none, none, some (.istore 5, 8, 0, 0, .null), none, some (.aload_n 0, 0, 0, 0, .null), some (.aload_n 0, 0, 0, 0, .null), some (.iload 5, 0, 0, 0, .null), none, some (.iload_n 2, 0, 0, 0, .null), some (.invokevirtual 483, 64, 3, 0, (.retAddr 7)), none, none, some (.putfield 268, 7, 21, 0, .null), none, none, some (.aload_n 0, 0, 0, 0, .null), some (.aload_n 0, 0, 0, 0, .null), some (.aload_n 0, 0, 0, 0, .null), some (.getfield 268, 7, 21, 0, .null), none, none, some (.iload_n 2, 0, 0, 0, .null), some (.invokevirtual 486, 65, 3, 0, (.retAddr 7)), none, none, some (.putfield 271, 7, 22, 0, .null), none, none, some (.aload_n 0, 0, 0, 0, .null), some (.getfield 271, 7, 22, 0, .null), none, none, some (.istore 6, 8, 0, 0, .null), none, some (.aload_n 0, 0, 0, 0, .null), some (.iload_n 3, 0, 0, 0, .null), some (.putfield 271, 7, 22, 0, .null), none, none, some (.aload_n 0, 0, 0, 0, .null), some (.iload_n 1, 0, 0, 0, .null), some (.invokevirtual 306, 66, 2, 0, (.retAddr 7)), none, none, some (.iload_n 3, 0, 0, 0, .null), some (.if_icmp .ne 7, 0, 0, 0, .null), none, none, some (.iconst 1, 0, 0, 0, .null), some (.goto 4, 0, 0, 0, .null), none, none, some (.iconst 0, 0, 0, 0, .null), some (.istore 7, 8, 0, 0, .null), none, some (.aload_n 0, 0, 0, 0, .null), some (.iload 6, 0, 0, 0, .null), none, some (.putfield 271, 7, 22, 0, .null), none, none, some (.iload 7, 0, 0, 0, .null), none, some (.ifCond .ne 7, 0, 0, 0, .null), none, none, some (.aload_n 0, 0, 0, 0, .null), some (.invokevirtual 291, 40, 1, 0, (.retAddr 7)), none, none, some (.aload_n 0, 0, 0, 0, .null), some (.getfield 262, 7, 23, 0, .null), none, none, some (.ifCond .ne 13, 0, 0, 0, .null), none, none, some (.aload_n 0, 0, 0, 0, .null), some (.iload_n 1, 0, 0, 0, .null), some (.iload_n 3, 0, 0, 0, .null), some (.iload 4, 0, 0, 0, .null), none, some (.iload 5, 0, 0, 0, .null), none, some (.invokevirtual 489, 67, 5, 0, (.retAddr 7)), none, none, some (.return_, 0, 0, 0, .null)]
/-- MixMachine.symbol(J)I -/
def nC42 : List (Option mI) := [some (.aload_n 0, 0, 0, 0, .null), some (.getfield 43, 0, 4, 0, .null), none, none, some (.getfield 95, 4, 2, 0, .null), none, none, some (.lload_n 1, 0, 0, 0, .null), some (.invokevirtual 99, 68, 2, 0, (.retAddr 5)), none, none, some (.istore_n 3, 4, 0, 0, .null), some (.iload_n 3, 0, 0, 0, .null), some (.iconst (-1), 0, 0, 0, .null), some (.if_icmp .ne 13, 0, 0, 0, .null), none, none, some (.new 105, 107, 109, 4, .null), none, none, none, none, none, none, none, none, none, some (.iload_n 3, 0, 0, 0, .null), some (.ireturn, 0, 0, 0, .null)]
/-- MixMachine.step(I)I -/
def nC43 : List (Option mI) := [some (.iload_n 1, 0, 0, 0, .null), some (.iconst 1, 0, 0, 0, .null), some (.if_icmp .lt 10, 0, 0, 0, .null), none, none, some (.iload_n 1, 0, 0, 0, .null), some (.sipush 500, 0, 0, 0, .null), none, none, some (.if_icmp .le 13, 0, 0, 0, .null), none, none, some (.new 51, 110, 55, 1, .null), none, none, none, none, none, none, none, none, none, some (.aload_n 0, 0, 0, 0, .null), some (.getfield 27, 0, 2, 0, .null), none, none, some (.getfield 112, 2, 6, 0, .null), none, none, some (.ifCond .eq 13, 0, 0, 0, .null), none, none, some (.new 62, 115, 66, 2, .null), none, none, none, none, none, none, none, none, none, some (.aload_n 0, 0, 0, 0, .null), some (.getfield 27, 0, 2, 0, .null), none, none, some (.getfield 117, 2, 7, 0, .null), none, none, some (.istore_n 2, 4, 0, 0, .null), some (.iconst 0, 0, 0, 0, .null), some (.istore_n 3, 4, 0, 0, .null), some (.iload_n 3, 0, 0, 0, .null), some (.iload_n 1, 0, 0, 0, .null), some (.if_icmp .ge 26, 0, 0, 0, .null), none, none, some (.aload_n 0, 0, 0, 0, .null), some (.getfield 27, 0, 2, 0, .null), none, none, some (.getfield 112, 2, 6, 0, .null), none, none, some (.ifCond .ne 16, 0, 0, 0, .null), none, none, some (.aload_n 0, 0, 0, 0, .null), some (.getfield 27, 0, 2, 0, .null), none, none, some (.invokevirtual 120, 69, 1, 0, (.retAddr 2)), none, none, some (.iinc 3 1, 4, 0, 0, .null), none, none, some (.goto (-25), 0, 0, 0, .null), none, none, some (.aload_n 0, 0, 0, 0, .null), some (.getfield 27, 0, 2, 0, .null), none, none, some (.getfield 117, 2, 7, 0, .null), none, none, some (.iload_n 2, 0, 0, 0, .null), some (.isub, 0, 0, 0, .null), some (.ireturn, 0, 0, 0, .null)]
/-- MixMachineModel.goes()Z -/
def nC44 : List (Option mI) := [some (.aload_n 0, 0, 0, 0, .null), some (.aload_n 0, 0, 0, 0, .null), some (.aload_n 0, 0, 0, 0, .null), some (.getfield 147, 7, 6, 0, .null), none, none, some (.invokevirtual 107, 46, 2, 0, (.retAddr 7)), none, none, some (.ifCond .ne 7, 0, 0, 0, .null), none, none, some (.iconst 1, 0, 0, 0, .null), some (.goto 4, 0, 0, 0, .null), none, none, some (.iconst 0, 0, 0, 0, .null), some (.putfield 110, 7, 4, 1, .null), none, none, some (.aload_n 0, 0, 0, 0, .null), some (.getfield 110, 7, 4, 0, .null), none, none, some (.ifCond .eq 5, 0, 0, 0, .null), none, none, some (.iconst 0, 0, 0, 0, .null), some (.ireturn, 1, 0, 0, .null), some (.aload_n 0, 0, 0, 0, .null), some (.getfield 7, 7, 1, 0, .null), none, none, some (.aload_n 0, 0, 0, 0, .null), some (.getfield 147, 7, 6, 0, .null), none, none, some (.iaload, 0, 0, 0, .null), some (.istore_n 1, 6, 0, 0, .null), some (.iload_n 1, 0, 0, 0, .null), some (.invokestatic 89, 70, 1, 0, .null), none, none, some (.bipush 63, 0, 0, 0, .null), none, some (.iand, 0, 0, 0, .null), some (.istore_n 2, 6, 0, 0, .null), some (.iload_n 1, 0, 0, 0, .null), some (.invokestatic 89, 70, 1, 0, .null), none, none, some (.bipush 6, 0, 0, 0, .null), none, some (.ishr, 0, 0, 0, .null), some (.bipush 63, 0, 0, 0, .null), none, some (.iand, 0, 0, 0, .null), some (.istore_n 3, 6, 0, 0, .null), some (.iload_n 1, 0, 0, 0, .null), some (.invokestatic 89, 70, 1, 0, .null), none, none, some (.bipush 12, 0, 0, 0, .null), none, some (.ishr, 0, 0, 0, .null), some (.bipush 63, 0, 0, 0, .null), none, some (.iand, 0, 0, 0, .null), some (.istore 4, 6, 0, 0, .null), none, some (.iload_n 2, 0, 0, 0, .null), some (.bipush 35, 0, 0, 0, .null), none, some (.bipush 37, 0, 0, 0, .null), none, some (.invokestatic 103, 36, 3, 0, .null), none, none, some (.ifCond .eq 43, 0, 0, 0, .null), none, none, some (.iload_n 3, 0, 0, 0, .null), some (.invokestatic 131, 71, 1, 0, .null), none, none, some (.ifCond .lt 36, 0, 0, 0, .null), none, none, some (.aload_n 0, 0, 0, 0, .null), some (.iload_n 3, 0, 0, 0, .null), some (.invokestatic 131, 71, 1, 0, .null), none, none, some (.invokevirtual 231, 72, 2, 0, (.retAddr 7)), none, none, some (.ifCond .eq 25, 0, 0, 0, .null), none, none, some (.aload_n 0, 0, 0, 0, .null), some (.dup, 0, 0, 0, .null), some (.getfield 144, 7, 8, 0, .null), none, none, some (.iconst 1, 0, 0, 0, .null), some (.iadd, 0, 0, 0, .null), some (.putfield 144, 7, 8, 0, .null), none, none, some (.aload_n 0, 0, 0, 0, .null), some (.dup, 0, 0, 0, .null), some (.getfield 244, 7, 9, 0, .null), none, none, some (.iconst 1, 0, 0, 0, .null), some (.iadd, 0, 0, 0, .null), some (.putfield 244, 7, 9, 0, .null), none, none, some (.iconst 1, 0, 0, 0, .null), some (.ireturn, 1, 0, 0, .null), some (.aload_n 0, 0, 0, 0, .null), some (.iload 4, 0, 0, 0, .null), none, some (.bipush 6, 0, 0, 0, .null), none, some (.if_icmp .le 7, 0, 0, 0, .null), none, none, some (.iconst 1, 0, 0, 0, .null), some (.goto 4, 0, 0, 0, .null), none, none, some (.iconst 0, 0, 0, 0, .null), some (.putfield 110, 7, 4, 1, .null), none, none, some (.aload_n 0, 0, 0, 0, .null), some (.getfield 110, 7, 4, 0, .null), none, none, some (.ifCond .eq 5, 0, 0, 0, .null), none, none, some (.iconst 0, 0, 0, 0, .null), some (.ireturn, 1, 0, 0, .null), some (.iload_n 1, 0, 0, 0, .null), some (.invokestatic 85, 73, 1, 0, .null), none, none, some (.ifCond .eq 14, 0, 0, 0, .null), none, none, some (.iload_n 1, 0, 0, 0, .null), some (.invokestatic 89, 70, 1, 0, .null), none, none, some (.bipush 18, 0, 0, 0, .null), none, some (.ishr, 0, 0, 0, .null), some (.ineg, 0, 0, 0, .null), some (.goto 10, 0, 0, 0, .null), none, none, some (.iload_n 1, 0, 0, 0, .null), some (.invokestatic 89, 70, 1, 0, .null), none, none, some (.bipush 18, 0, 0, 0, .null), none, some (.ishr, 0, 0, 0, .null), some (.iload 4, 0, 0, 0, .null), none, some (.ifCond .le 16, 0, 0, 0, .null), none, none, some (.aload_n 0, 0, 0, 0, .null), some (.getfield 13, 7, 2, 0, .null), none, none, some (.iload 4, 0, 0, 0, .null), none, some (.iaload, 0, 0, 0, .null), some (.invokestatic 154, 74, 1, 0, .null), none, none, some (.goto 4, 0, 0, 0, .null), none, none, some (.iconst 0, 0, 0, 0, .null), some (.iadd, 0, 0, 0, .null), some (.istore 5, 6, 0, 0, .null), none, some (.aload_n 0, 0, 0, 0, .null), some (.aload_n 0, 0, 0, 0, .null), some (.getfield 147, 7, 6, 0, .null), none, none, some (.iconst 1, 0, 0, 0, .null), some (.iadd, 0, 0, 0, .null), some (.putfield 150, 7, 7, 0, .null), none, none, some (.aload_n 0, 0, 0, 0, .null), some (.iload_n 2, 0, 0, 0, .null), some (.iload_n 3, 0, 0, 0, .null), some (.iload 5, 0, 0, 0, .null), none, some (.iload 5, 0, 0, 0, .null), none, some (.ifCond .lt 20, 0, 0, 0, .null), none, none, some (.iload 5, 0, 0, 0, .null), none, some (.ifCond .ne 19, 0, 0, 0, .null), none, none, some (.iload 4, 0, 0, 0, .null), none, some (.ifCond .ne 14, 0, 0, 0, .null), none, none, some (.iload_n 1, 0, 0, 0, .null), some (.invokestatic 85, 73, 1, 0, .null), none, none, some (.ifCond .eq 7, 0, 0, 0, .null), none, none, some (.iconst 1, 0, 0, 0, .null), some (.goto 4, 0, 0, 0, .null), none, none, some (.iconst 0, 0, 0, 0, .null), some (.invokevirtual 247, 75, 5, 0, (.retAddr 7)), none, none, some (.aload_n 0, 0, 0, 0, .null), some (.getfield 110, 7, 4, 0, .null), none, none, some (.ifCond .eq 5, 0, 0, 0, .null), none, none, some (.iconst 0, 0, 0, 0, .null), some (.ireturn, 1, 0, 0, .null), some (.aload_n 0, 0, 0, 0, .null), some (.aload_n 0, 0, 0, 0, .null), some (.getfield 150, 7, 7, 0, .null), none, none, some (.putfield 147, 7, 6, 0, .null), none, none, some (.aload_n 0, 0, 0, 0, .null), some (.dup, 0, 0, 0, .null), some (.getfield 144, 7, 8, 0, .null), none, none, some (.iconst 1, 0, 0, 0, .null), some (.iadd, 0, 0, 0, .null), some (.putfield 144, 7, 8, 0, .null), none, none, some (.iconst 1, 0, 0, 0, .null), some (.ireturn, 1, 0, 0, .null)]
/-- MixMachine.go(I)Z -/
def nC45 : List (Option mI) := [some (.iload_n 1, 0, 0, 0, .null), some (.invokestatic 123, 76, 1, 0, .null), none, none, some (.ifCond .ne 13, 0, 0, 0, .null), none, none, some (.new 51, 127, 55, 1, .null), none, none, none, none, none, none, none, none, none, some (.aload_n 0, 0, 0, 0, .null), some (.getfield 27, 0, 2, 0, .null), none, none, some (.getfield 112, 2, 6, 0, .null), none, none, some (.ifCond .eq 7, 0, 0, 0, .null), none, none, some (.iconst 1, 0, 0, 0, .null), some (.goto 4, 0, 0, 0, .null), none, none, some (.iconst 0, 0, 0, 0, .null), some (.istore_n 2, 3, 0, 0, .null), some (.aload_n 0, 0, 0, 0, .null), some (.getfield 27, 0, 2, 0, .null), none, none, some (.iload_n 1, 0, 0, 0, .null), some (.invokevirtual 88, 63, 2, 0, (.retAddr 2)), none, none, some (.iload_n 2, 0, 0, 0, .null), some (.ireturn, 1, 0, 0, .null)]
/-- MixMachineModel.isPlace(I)Z -/
def nC46 : List (Option mI) := [some (.iload_n 1, 0, 0, 0, .null), some (.iconst 0, 0, 0, 0, .null), some (.sipush 199, 0, 0, 0, .null), none, none, some (.invokestatic 103, 36, 3, 0, .null), none, none, some (.ireturn, 1, 0, 0, .null)]
/-- MixMachine.poke(II)I -/
def nC47 : List (Option mI) := [some (.iload_n 1, 0, 0, 0, .null), some (.invokestatic 123, 76, 1, 0, .null), none, none, some (.ifCond .ne 13, 0, 0, 0, .null), none, none, some (.new 129, 127, 131, 3, .null), none, none, none, none, none, none, none, none, none, some (.iload_n 2, 0, 0, 0, .null), some (.ifCond .ge 13, 0, 0, 0, .null), none, none, some (.new 51, 132, 55, 1, .null), none, none, none, none, none, none, none, none, none, some (.aload_n 0, 0, 0, 0, .null), some (.getfield 9, 0, 0, 0, .null), none, none, some (.iload_n 1, 0, 0, 0, .null), some (.iaload, 0, 0, 0, .null), some (.istore_n 3, 4, 0, 0, .null), some (.aload_n 0, 0, 0, 0, .null), some (.getfield 9, 0, 0, 0, .null), none, none, some (.iload_n 1, 0, 0, 0, .null), some (.iload_n 2, 0, 0, 0, .null), some (.iastore, 0, 0, 0, .null), some (.iload_n 3, 0, 0, 0, .null), some (.ireturn, 0, 0, 0, .null)]
/-- MixMachine.word(I)I -/
def nC48 : List (Option mI) := [some (.iload_n 1, 0, 0, 0, .null), some (.invokestatic 123, 76, 1, 0, .null), none, none, some (.ifCond .ne 13, 0, 0, 0, .null), none, none, some (.new 129, 127, 131, 3, .null), none, none, none, none, none, none, none, none, none, some (.aload_n 0, 0, 0, 0, .null), some (.getfield 9, 0, 0, 0, .null), none, none, some (.iload_n 1, 0, 0, 0, .null), some (.iaload, 0, 0, 0, .null), some (.ireturn, 0, 0, 0, .null)]
/-- MixMachine.register(I)I -/
def nC49 : List (Option mI) := [some (.iload_n 1, 0, 0, 0, .null), some (.ifCond .lt 9, 0, 0, 0, .null), none, none, some (.iload_n 1, 0, 0, 0, .null), some (.bipush 9, 0, 0, 0, .null), none, some (.if_icmp .lt 13, 0, 0, 0, .null), none, none, some (.new 129, 134, 131, 3, .null), none, none, none, none, none, none, none, none, none, some (.aload_n 0, 0, 0, 0, .null), some (.getfield 27, 0, 2, 0, .null), none, none, some (.getfield 136, 2, 2, 0, .null), none, none, some (.iload_n 1, 0, 0, 0, .null), some (.iaload, 0, 0, 0, .null), some (.ireturn, 0, 0, 0, .null)]
/-- MixMachine.card(IIII)I -/
def nC50 : List (Option mI) := [some (.iload_n 1, 0, 0, 0, .null), some (.ifCond .lt 16, 0, 0, 0, .null), none, none, some (.iload_n 2, 0, 0, 0, .null), some (.ifCond .lt 12, 0, 0, 0, .null), none, none, some (.iload_n 3, 0, 0, 0, .null), some (.ifCond .lt 8, 0, 0, 0, .null), none, none, some (.iload 4, 0, 0, 0, .null), none, some (.ifCond .ge 13, 0, 0, 0, .null), none, none, some (.new 51, 132, 55, 1, .null), none, none, none, none, none, none, none, none, none, some (.aload_n 0, 0, 0, 0, .null), some (.getfield 18, 0, 1, 0, .null), none, none, some (.getfield 139, 1, 7, 0, .null), none, none, some (.bipush 6, 0, 0, 0, .null), none, some (.if_icmp .lt 13, 0, 0, 0, .null), none, none, some (.new 62, 142, 66, 2, .null), none, none, none, none, none, none, none, none, none, some (.aload_n 0, 0, 0, 0, .null), some (.getfield 18, 0, 1, 0, .null), none, none, some (.iload_n 1, 0, 0, 0, .null), some (.iload_n 2, 0, 0, 0, .null), some (.iload_n 3, 0, 0, 0, .null), some (.iload 4, 0, 0, 0, .null), none, some (.invokevirtual 144, 77, 5, 0, (.retAddr 1)), none, none, some (.aload_n 0, 0, 0, 0, .null), some (.getfield 18, 0, 1, 0, .null), none, none, some (.getfield 139, 1, 7, 0, .null), none, none, some (.ireturn, 0, 0, 0, .null)]
/-- MixMachine.printed(II)I -/
def nC51 : List (Option mI) := [some (.iload_n 1, 0, 0, 0, .null), some (.ifCond .lt 24, 0, 0, 0, .null), none, none, some (.iload_n 1, 0, 0, 0, .null), some (.aload_n 0, 0, 0, 0, .null), some (.getfield 18, 0, 1, 0, .null), none, none, some (.invokevirtual 148, 78, 1, 0, (.retAddr 1)), none, none, some (.if_icmp .ge 13, 0, 0, 0, .null), none, none, some (.iload_n 2, 0, 0, 0, .null), some (.ifCond .lt 9, 0, 0, 0, .null), none, none, some (.iload_n 2, 0, 0, 0, .null), some (.bipush 6, 0, 0, 0, .null), none, some (.if_icmp .lt 13, 0, 0, 0, .null), none, none, some (.new 129, 151, 131, 3, .null), none, none, none, none, none, none, none, none, none, some (.aload_n 0, 0, 0, 0, .null), some (.getfield 18, 0, 1, 0, .null), none, none, some (.iload_n 1, 0, 0, 0, .null), some (.iload_n 2, 0, 0, 0, .null), some (.invokevirtual 153, 79, 3, 0, (.retAddr 1)), none, none, some (.ireturn, 0, 0, 0, .null)]
/-- MixMachine.tape(II)I -/
def nC52 : List (Option mI) := [some (.iload_n 1, 0, 0, 0, .null), some (.ifCond .lt 19, 0, 0, 0, .null), none, none, some (.iload_n 1, 0, 0, 0, .null), some (.bipush 6, 0, 0, 0, .null), none, some (.if_icmp .ge 13, 0, 0, 0, .null), none, none, some (.iload_n 2, 0, 0, 0, .null), some (.ifCond .lt 9, 0, 0, 0, .null), none, none, some (.iload_n 2, 0, 0, 0, .null), some (.bipush 10, 0, 0, 0, .null), none, some (.if_icmp .lt 13, 0, 0, 0, .null), none, none, some (.new 129, 157, 131, 3, .null), none, none, none, none, none, none, none, none, none, some (.aload_n 0, 0, 0, 0, .null), some (.getfield 18, 0, 1, 0, .null), none, none, some (.getfield 159, 1, 1, 0, .null), none, none, some (.iload_n 1, 0, 0, 0, .null), some (.bipush 10, 0, 0, 0, .null), none, some (.imul, 0, 0, 0, .null), some (.iload_n 2, 0, 0, 0, .null), some (.iadd, 0, 0, 0, .null), some (.iaload, 0, 0, 0, .null), some (.ireturn, 0, 0, 0, .null)]
/-- MixMachine.state(I)I -/
def nC53 : List (Option mI) := [some (.iload_n 1, 0, 0, 0, .null), some (.tableswitch 119 0 7 #[47, 55, 63, 79, 87, 95, 103, 111], 47, 0, 0, .null), none, none, none, none, none, none, none, none, none, none, none, none, none, none, none, none, none, none, none, none, none, none, none, none, none, none, none, none, none, none, none, none, none, none, none, none, none, none, none, none, none, none, none, none, none, none, some (.aload_n 0, 0, 0, 0, .null), some (.getfield 27, 0, 2, 0, .null), none, none, some (.getfield 162, 2, 5, 0, .null), none, none, some (.ireturn, 0, 0, 0, .null), some (.aload_n 0, 0, 0, 0, .null), some (.getfield 27, 0, 2, 0, .null), none, none, some (.getfield 117, 2, 7, 0, .null), none, none, some (.ireturn, 0, 0, 0, .null), some (.aload_n 0, 0, 0, 0, .null), some (.getfield 27, 0, 2, 0, .null), none, none, some (.getfield 165, 2, 3, 0, .null), none, none, some (.ifCond .eq 7, 0, 0, 0, .null), none, none, some (.iconst 1, 0, 0, 0, .null), some (.goto 4, 0, 0, 0, .null), none, none, some (.iconst 0, 0, 0, 0, .null), some (.ireturn, 0, 0, 0, .null), some (.aload_n 0, 0, 0, 0, .null), some (.getfield 27, 0, 2, 0, .null), none, none, some (.getfield 169, 2, 4, 0, .null), none, none, some (.ireturn, 0, 0, 0, .null), some (.aload_n 0, 0, 0, 0, .null), some (.getfield 27, 0, 2, 0, .null), none, none, some (.getfield 112, 2, 6, 0, .null), none, none, some (.ireturn, 0, 0, 0, .null), some (.aload_n 0, 0, 0, 0, .null), some (.getfield 18, 0, 1, 0, .null), none, none, some (.getfield 172, 1, 8, 0, .null), none, none, some (.ireturn, 0, 0, 0, .null), some (.aload_n 0, 0, 0, 0, .null), some (.getfield 18, 0, 1, 0, .null), none, none, some (.getfield 175, 1, 5, 0, .null), none, none, some (.ireturn, 0, 0, 0, .null), some (.aload_n 0, 0, 0, 0, .null), some (.getfield 27, 0, 2, 0, .null), none, none, some (.getfield 178, 2, 8, 0, .null), none, none, some (.ireturn, 0, 0, 0, .null), some (.new 129, 181, 131, 3, .null)]
/-- MixMachine$Symbols.<init>()V -/
def nC54 : List (Option mI) := [some (.aload_n 0, 0, 0, 0, .null), some (.invokespecial 3, 0, 0, 1, .null), none, none, some (.aload_n 0, 0, 0, 0, .null), some (.bipush 30, 0, 0, 0, .null), none, some (.newarray .long, 0, 0, 0, .null), none, some (.putfield 11, 5, 0, 3, .null), none, none, some (.aload_n 0, 0, 0, 0, .null), some (.bipush 30, 0, 0, 0, .null), none, some (.newarray .int, 0, 0, 0, .null), none, some (.putfield 15, 5, 1, 3, .null), none, none, some (.return_, 0, 0, 0, .null)]
/-- MixMachine$Waits.<init>()V -/
def nC55 : List (Option mI) := [some (.aload_n 0, 0, 0, 0, .null), some (.invokespecial 1, 0, 0, 1, .null), none, none, some (.aload_n 0, 0, 0, 0, .null), some (.bipush 60, 0, 0, 0, .null), none, some (.newarray .int, 0, 0, 0, .null), none, some (.putfield 9, 6, 0, 3, .null), none, none, some (.aload_n 0, 0, 0, 0, .null), some (.bipush 60, 0, 0, 0, .null), none, some (.newarray .int, 0, 0, 0, .null), none, some (.putfield 13, 6, 1, 3, .null), none, none, some (.aload_n 0, 0, 0, 0, .null), some (.bipush 60, 0, 0, 0, .null), none, some (.newarray .int, 0, 0, 0, .null), none, some (.putfield 16, 6, 2, 3, .null), none, none, some (.return_, 0, 0, 0, .null)]
/-- MixMachine$Text.areCharacters(JI)Z -/
def nC56 : List (Option mI) := [some (.iconst 0, 0, 0, 0, .null), some (.istore_n 3, 6, 0, 0, .null), some (.iload_n 3, 0, 0, 0, .null), some (.iload_n 2, 0, 0, 0, .null), some (.if_icmp .ge 50, 0, 0, 0, .null), none, none, some (.lload_n 0, 0, 0, 0, .null), some (.bipush 8, 0, 0, 0, .null), none, some (.iload_n 3, 0, 0, 0, .null), some (.imul, 0, 0, 0, .null), some (.lshr, 0, 0, 0, .null), some (.ldc2_w 15, 0, 0, 0, (.long 255)), none, none, some (.land, 0, 0, 0, .null), some (.lstore 4, 6, 0, 0, .null), none, some (.lload 4, 0, 0, 0, .null), none, some (.ldc2_w 17, 0, 0, 0, (.long 10)), none, none, some (.lcmp, 0, 0, 0, .null), some (.ifCond .eq 23, 0, 0, 0, .null), none, none, some (.lload 4, 0, 0, 0, .null), none, some (.ldc2_w 19, 0, 0, 0, (.long 32)), none, none, some (.lcmp, 0, 0, 0, .null), some (.ifCond .lt 12, 0, 0, 0, .null), none, none, some (.lload 4, 0, 0, 0, .null), none, some (.ldc2_w 21, 0, 0, 0, (.long 126)), none, none, some (.lcmp, 0, 0, 0, .null), some (.ifCond .le 5, 0, 0, 0, .null), none, none, some (.iconst 0, 0, 0, 0, .null), some (.ireturn, 1, 0, 0, .null), some (.iinc 3 1, 6, 0, 0, .null), none, none, some (.goto (-49), 0, 0, 0, .null), none, none, some (.iconst 1, 0, 0, 0, .null), some (.ireturn, 1, 0, 0, .null)]
/-- MixMachine$Text.append(JI)V -/
def nC57 : List (Option mI) := [some (.iconst 0, 0, 0, 0, .null), some (.istore 4, 5, 0, 0, .null), none, some (.iload 4, 0, 0, 0, .null), none, some (.iload_n 3, 0, 0, 0, .null), some (.if_icmp .ge 34, 0, 0, 0, .null), none, none, some (.aload_n 0, 0, 0, 0, .null), some (.getfield 9, 3, 0, 0, .null), none, none, some (.aload_n 0, 0, 0, 0, .null), some (.getfield 23, 3, 1, 0, .null), none, none, some (.iload 4, 0, 0, 0, .null), none, some (.iadd, 0, 0, 0, .null), some (.lload_n 1, 0, 0, 0, .null), some (.bipush 8, 0, 0, 0, .null), none, some (.iload 4, 0, 0, 0, .null), none, some (.imul, 0, 0, 0, .null), some (.lshr, 0, 0, 0, .null), some (.ldc2_w 15, 0, 0, 0, (.long 255)), none, none, some (.land, 0, 0, 0, .null), some (.l2i, 0, 0, 0, .null), some (.i2c, 0, 0, 0, .null), some (.castore, 0, 0, 0, .null), some (.iinc 4 1, 5, 0, 0, .null), none, none, some (.goto (-34), 0, 0, 0, .null), none, none, some (.aload_n 0, 0, 0, 0, .null), some (.dup, 0, 0, 0, .null), some (.getfield 23, 3, 1, 0, .null), none, none, some (.iload_n 3, 0, 0, 0, .null), some (.iadd, 0, 0, 0, .null), some (.putfield 23, 3, 1, 0, .null), none, none, some (.return_, 0, 0, 0, .null)]
/-- MixMachine$Assembler.begin()V -/
def nC58 : List (Option mI) := [some (.aload_n 0, 0, 0, 0, .null), some (.getfield 11, 4, 0, 0, .null), none, none, some (.iconst 0, 0, 0, 0, .null), some (.putfield 57, 3, 3, 0, .null), none, none, some (.aload_n 0, 0, 0, 0, .null), some (.getfield 20, 4, 1, 0, .null), none, none, some (.iconst 0, 0, 0, 0, .null), some (.putfield 60, 5, 2, 0, .null), none, none, some (.aload_n 0, 0, 0, 0, .null), some (.getfield 30, 4, 3, 0, .null), none, none, some (.iconst 0, 0, 0, 0, .null), some (.putfield 63, 6, 3, 0, .null), none, none, some (.aload_n 0, 0, 0, 0, .null), some (.iconst 0, 0, 0, 0, .null), some (.putfield 64, 4, 7, 0, .null), none, none, some (.aload_n 0, 0, 0, 0, .null), some (.iconst 0, 0, 0, 0, .null), some (.putfield 67, 4, 8, 0, .null), none, none, some (.aload_n 0, 0, 0, 0, .null), some (.iconst 0, 0, 0, 0, .null), some (.putfield 70, 4, 10, 1, .null), none, none, some (.aload_n 0, 0, 0, 0, .null), some (.iconst 0, 0, 0, 0, .null), some (.putfield 53, 4, 11, 0, .null), none, none, some (.aload_n 0, 0, 0, 0, .null), some (.getfield 34, 4, 4, 0, .null), none, none, some (.iconst (-1), 0, 0, 0, .null), some (.invokestatic 74, 80, 2, 0, .null), none, none, some (.aload_n 0, 0, 0, 0, .null), some (.getfield 41, 4, 6, 0, .null), none, none, some (.iconst (-1), 0, 0, 0, .null), some (.invokestatic 74, 80, 2, 0, .null), none, none, some (.return_, 0, 0, 0, .null)]
/-- MixMachine$Assembler.wantsLine()Z -/
def nC59 : List (Option mI) := [some (.aload_n 0, 0, 0, 0, .null), some (.getfield 70, 4, 10, 0, .null), none, none, some (.ifCond .ne 24, 0, 0, 0, .null), none, none, some (.aload_n 0, 0, 0, 0, .null), some (.getfield 11, 4, 0, 0, .null), none, none, some (.getfield 57, 3, 3, 0, .null), none, none, some (.aload_n 0, 0, 0, 0, .null), some (.getfield 11, 4, 0, 0, .null), none, none, some (.getfield 80, 3, 1, 0, .null), none, none, some (.if_icmp .gt 7, 0, 0, 0, .null), none, none, some (.iconst 1, 0, 0, 0, .null), some (.goto 4, 0, 0, 0, .null), none, none, some (.iconst 0, 0, 0, 0, .null), some (.ireturn, 1, 0, 0, .null)]
/-- MixMachine$Assembler.readNextLine()V -/
def nC60 : List (Option mI) := [some (.aload_n 0, 0, 0, 0, .null), some (.dup, 0, 0, 0, .null), some (.getfield 53, 4, 11, 0, .null), none, none, some (.iconst 1, 0, 0, 0, .null), some (.iadd, 0, 0, 0, .null), some (.putfield 53, 4, 11, 0, .null), none, none, some (.aload_n 0, 0, 0, 0, .null), some (.getfield 11, 4, 0, 0, .null), none, none, some (.invokevirtual 83, 81, 1, 0, (.retAddr 3)), none, none, some (.aload_n 0, 0, 0, 0, .null), some (.getfield 11, 4, 0, 0, .null), none, none, some (.invokevirtual 86, 82, 1, 0, (.retAddr 3)), none, none, some (.ifCond .eq 4, 0, 0, 0, .null), none, none, some (.return_, 0, 0, 0, .null), some (.aload_n 0, 0, 0, 0, .null), some (.invokevirtual 90, 83, 1, 0, (.retAddr 4)), none, none, some (.aload_n 0, 0, 0, 0, .null), some (.invokevirtual 93, 84, 1, 0, (.retAddr 4)), none, none, some (.aload_n 0, 0, 0, 0, .null), some (.invokevirtual 96, 85, 1, 0, (.retAddr 4)), none, none, some (.aload_n 0, 0, 0, 0, .null), some (.getfield 67, 4, 8, 0, .null), none, none, some (.i2l, 0, 0, 0, .null), some (.invokestatic 99, 86, 1, 0, .null), none, none, some (.istore_n 1, 3, 0, 0, .null), some (.aload_n 0, 0, 0, 0, .null), some (.getfield 105, 4, 12, 0, .null), none, none, some (.iconst 2, 0, 0, 0, .null), some (.if_icmp .ne 22, 0, 0, 0, .null), none, none, some (.aload_n 0, 0, 0, 0, .null), some (.getfield 50, 4, 15, 0, .null), none, none, some (.getstatic 108, 0, 0, 0, (.ref 48)), none, none, some (.if_acmp .eq 12, 0, 0, 0, .null), none, none, some (.aload_n 0, 0, 0, 0, .null), some (.aload_n 0, 0, 0, 0, .null), some (.getfield 111, 4, 13, 0, .null), none, none, some (.iload_n 1, 0, 0, 0, .null), some (.invokevirtual 114, 87, 3, 0, (.retAddr 4)), none, none, some (.aload_n 0, 0, 0, 0, .null), some (.getfield 50, 4, 15, 0, .null), none, none, some (.invokevirtual 118, 88, 1, 0, (.retAddr 13)), none, none, some (.ifCond .eq 10, 0, 0, 0, .null), none, none, some (.aload_n 0, 0, 0, 0, .null), some (.invokevirtual 121, 89, 1, 0, (.retAddr 4)), none, none, some (.goto 24, 0, 0, 0, .null), none, none, some (.aload_n 0, 0, 0, 0, .null), some (.invokevirtual 124, 90, 1, 0, (.retAddr 4)), none, none, some (.istore_n 2, 3, 0, 0, .null), some (.aload_n 0, 0, 0, 0, .null), some (.getfield 50, 4, 15, 0, .null), none, none, some (.getstatic 108, 0, 0, 0, (.ref 48)), none, none, some (.if_acmp .ne 7, 0, 0, 0, .null), none, none, some (.iload_n 2, 0, 0, 0, .null), some (.goto 4, 0, 0, 0, .null), none, none, some (.iload_n 1, 0, 0, 0, .null), some (.istore_n 1, 3, 0, 0, .null), some (.aload_n 0, 0, 0, 0, .null), some (.getfield 105, 4, 12, 0, .null), none, none, some (.iconst 3, 0, 0, 0, .null), some (.if_icmp .ne 25, 0, 0, 0, .null), none, none, some (.aload_n 0, 0, 0, 0, .null), some (.bipush 100, 0, 0, 0, .null), none, some (.aload_n 0, 0, 0, 0, .null), some (.getfield 128, 4, 14, 0, .null), none, none, some (.iadd, 0, 0, 0, .null), some (.iload_n 1, 0, 0, 0, .null), some (.invokevirtual 131, 91, 3, 0, (.retAddr 4)), none, none, some (.aload_n 0, 0, 0, 0, .null), some (.getfield 41, 4, 6, 0, .null), none, none, some (.aload_n 0, 0, 0, 0, .null), some (.getfield 128, 4, 14, 0, .null), none, none, some (.iload_n 1, 0, 0, 0, .null), some (.iastore, 0, 0, 0, .null), some (.return_, 0, 0, 0, .null)]
/-- MixMachine$Assembler.finish()I -/
def nC61 : List (Option mI) := [some (.aload_n 0, 0, 0, 0, .null), some (.getfield 70, 4, 10, 0, .null), none, none, some (.ifCond .ne 24, 0, 0, 0, .null), none, none, some (.aload_n 0, 0, 0, 0, .null), some (.dup, 0, 0, 0, .null), some (.getfield 53, 4, 11, 0, .null), none, none, some (.iconst 1, 0, 0, 0, .null), some (.iadd, 0, 0, 0, .null), some (.putfield 53, 4, 11, 0, .null), none, none, some (.new 146, 341, 150, 1, (.retAddr 1)), none, none, none, none, none, none, none, none, none, none, some (.aload_n 0, 0, 0, 0, .null), some (.getfield 30, 4, 3, 0, .null), none, none, some (.invokevirtual 343, 92, 1, 0, (.retAddr 6)), none, none, some (.ifCond .eq 14, 0, 0, 0, .null), none, none, some (.new 146, 346, 150, 1, (.retAddr 1)), none, none, none, none, none, none, none, none, none, none, some (.aload_n 0, 0, 0, 0, .null), some (.invokevirtual 348, 93, 1, 0, (.retAddr 4)), none, none, some (.aload_n 0, 0, 0, 0, .null), some (.invokevirtual 351, 94, 1, 0, (.retAddr 4)), none, none, some (.aload_n 0, 0, 0, 0, .null), some (.getfield 24, 4, 2, 0, .null), none, none, some (.aload_n 0, 0, 0, 0, .null), some (.getfield 20, 4, 1, 0, .null), none, none, some (.invokevirtual 354, 95, 2, 0, (.retAddr 5)), none, none, some (.aload_n 0, 0, 0, 0, .null), some (.iconst (-1), 0, 0, 0, .null), some (.putfield 53, 4, 11, 0, .null), none, none, some (.aload_n 0, 0, 0, 0, .null), some (.getfield 218, 4, 9, 0, .null), none, none, some (.ireturn, 0, 0, 0, .null)]
/-- MixMachine$Assembler.copyWordsTo([I)V -/
def nC62 : List (Option mI) := [some (.iconst 0, 0, 0, 0, .null), some (.istore_n 2, 3, 0, 0, .null), some (.iload_n 2, 0, 0, 0, .null), some (.sipush 200, 0, 0, 0, .null), none, none, some (.if_icmp .ge 28, 0, 0, 0, .null), none, none, some (.aload_n 0, 0, 0, 0, .null), some (.getfield 34, 4, 4, 0, .null), none, none, some (.iload_n 2, 0, 0, 0, .null), some (.iaload, 0, 0, 0, .null), some (.iconst (-1), 0, 0, 0, .null), some (.if_icmp .eq 12, 0, 0, 0, .null), none, none, some (.aload_n 1, 0, 0, 0, .null), some (.iload_n 2, 0, 0, 0, .null), some (.aload_n 0, 0, 0, 0, .null), some (.getfield 34, 4, 4, 0, .null), none, none, some (.iload_n 2, 0, 0, 0, .null), some (.iaload, 0, 0, 0, .null), some (.iastore, 0, 0, 0, .null), some (.iinc 2 1, 3, 0, 0, .null), none, none, some (.goto (-29), 0, 0, 0, .null), none, none, some (.return_, 0, 0, 0, .null)]
/-- MixMachine$Processor.goFrom(I)V -/
def nC63 : List (Option mI) := [some (.aload_n 0, 0, 0, 0, .null), some (.iload_n 1, 0, 0, 0, .null), some (.putfield 26, 2, 5, 0, .null), none, none, some (.aload_n 0, 0, 0, 0, .null), some (.iconst 0, 0, 0, 0, .null), some (.putfield 22, 2, 6, 0, .null), none, none, some (.return_, 0, 0, 0, .null)]
/-- MixMachineModel.skip(II)I -/
def nC64 : List (Option mI) := [some (.iload_n 1, 0, 0, 0, .null), some (.istore_n 3, 4, 0, 0, .null), some (.iload_n 3, 0, 0, 0, .null), some (.iload_n 2, 0, 0, 0, .null), some (.if_icmp .ge 20, 0, 0, 0, .null), none, none, some (.aload_n 0, 0, 0, 0, .null), some (.getfield 32, 7, 19, 0, .null), none, none, some (.iload_n 3, 0, 0, 0, .null), some (.iaload, 0, 0, 0, .null), some (.bipush 32, 0, 0, 0, .null), none, some (.if_icmp .ne 9, 0, 0, 0, .null), none, none, some (.iinc 3 1, 4, 0, 0, .null), none, none, some (.goto (-19), 0, 0, 0, .null), none, none, some (.iload_n 3, 0, 0, 0, .null), some (.ireturn, 0, 0, 0, .null)]
/-- MixMachineModel.stop(II)I -/
def nC65 : List (Option mI) := [some (.iload_n 1, 0, 0, 0, .null), some (.istore_n 3, 4, 0, 0, .null), some (.iload_n 3, 0, 0, 0, .null), some (.iload_n 2, 0, 0, 0, .null), some (.if_icmp .ge 20, 0, 0, 0, .null), none, none, some (.aload_n 0, 0, 0, 0, .null), some (.getfield 32, 7, 19, 0, .null), none, none, some (.iload_n 3, 0, 0, 0, .null), some (.iaload, 0, 0, 0, .null), some (.bipush 32, 0, 0, 0, .null), none, some (.if_icmp .eq 9, 0, 0, 0, .null), none, none, some (.iinc 3 1, 4, 0, 0, .null), none, none, some (.goto (-19), 0, 0, 0, .null), none, none, some (.iload_n 3, 0, 0, 0, .null), some (.ireturn, 0, 0, 0, .null)]
/-- MixMachineModel.run(I)I -/
def nC66 : List (Option mI) := [some (.iload_n 1, 0, 0, 0, .null), some (.istore_n 2, 3, 0, 0, .null), some (.iload_n 2, 0, 0, 0, .null), some (.aload_n 0, 0, 0, 0, .null), some (.getfield 271, 7, 22, 0, .null), none, none, some (.if_icmp .ge 21, 0, 0, 0, .null), none, none, some (.aload_n 0, 0, 0, 0, .null), some (.getfield 32, 7, 19, 0, .null), none, none, some (.iload_n 2, 0, 0, 0, .null), some (.iaload, 0, 0, 0, .null), some (.invokestatic 274, 96, 1, 0, .null), none, none, some (.ifCond .eq 9, 0, 0, 0, .null), none, none, some (.iinc 2 1, 3, 0, 0, .null), none, none, some (.goto (-23), 0, 0, 0, .null), none, none, some (.iload_n 2, 0, 0, 0, .null), some (.ireturn, 0, 0, 0, .null)]
/-- MixMachineModel.statement(IIII)V -/
def nC67_0 : List (Option mI) := [some (.iload_n 2, 0, 0, 0, .null), some (.iload_n 1, 0, 0, 0, .null), some (.if_icmp .le 7, 0, 0, 0, .null), none, none, some (.iconst 1, 0, 0, 0, .null), some (.goto 4, 0, 0, 0, .null), none, none, some (.iconst 0, 0, 0, 0, .null), some (.istore 5, 12, 0, 0, .null), none, some (.iload 5, 0, 0, 0, .null), none, some (.ifCond .eq 18, 0, 0, 0, .null), none, none, some (.aload_n 0, 0, 0, 0, .null), some (.iload_n 1, 0, 0, 0, .null), some (.iload_n 2, 0, 0, 0, .null), some (.bipush 72, 0, 0, 0, .null), none, some (.invokevirtual 277, 97, 4, 0, (.retAddr 7)), none, none, some (.ifCond .eq 7, 0, 0, 0, .null), none, none, some (.iconst 1, 0, 0, 0, .null), some (.goto 4, 0, 0, 0, .null), none, none, some (.iconst 0, 0, 0, 0, .null), some (.istore 6, 12, 0, 0, .null), none, some (.aload_n 0, 0, 0, 0, .null), some (.iload_n 3, 0, 0, 0, .null), some (.iload 4, 0, 0, 0, .null), none, some (.invokevirtual 468, 98, 3, 0, (.retAddr 7)), none, none, some (.istore 7, 12, 0, 0, .null), none, some (.iload 7, 0, 0, 0, .null), none, some (.ifCond .lt 31, 0, 0, 0, .null), none, none, some (.iload 5, 0, 0, 0, .null), none, some (.ifCond .eq 30, 0, 0, 0, .null), none, none, some (.iload 6, 0, 0, 0, .null), none, some (.ifCond .ne 25, 0, 0, 0, .null), none, none, some (.aload_n 0, 0, 0, 0, .null), some (.iload_n 1, 0, 0, 0, .null), some (.iload_n 2, 0, 0, 0, .null), some (.invokevirtual 309, 99, 3, 0, (.retAddr 7)), none, none, some (.ifCond .eq 12, 0, 0, 0, .null), none, none, some (.aload_n 0, 0, 0, 0, .null), some (.iload_n 1, 0, 0, 0, .null), some (.invokevirtual 306, 66, 2, 0, (.retAddr 7)), none, none, some (.iload_n 2, 0, 0, 0, .null), some (.if_icmp .ge 7, 0, 0, 0, .null), none, none, some (.aload_n 0, 0, 0, 0, .null), some (.invokevirtual 291, 40, 1, 0, (.retAddr 7)), none, none, some (.iload 7, 0, 0, 0, .null), none, some (.bipush 100, 0, 0, 0, .null), none, some (.if_icmp .ne 7, 0, 0, 0, .null), none, none, some (.iconst 1, 0, 0, 0, .null), some (.goto 4, 0, 0, 0, .null), none, none, some (.iconst 0, 0, 0, 0, .null), some (.iload 5, 0, 0, 0, .null), none, some (.if_icmp .eq 21, 0, 0, 0, .null), none, none, some (.iload 7, 0, 0, 0, .null), none, some (.bipush 100, 0, 0, 0, .null), none, some (.if_icmp .eq 10, 0, 0, 0, .null), none, none, some (.iload 7, 0, 0, 0, .null), none, some (.bipush 103, 0, 0, 0, .null), none, some (.if_icmp .ne 7, 0, 0, 0, .null), none, none, some (.aload_n 0, 0, 0, 0, .null), some (.invokevirtual 291, 40, 1, 0, (.retAddr 7)), none, none, some (.aload_n 0, 0, 0, 0, .null), some (.getfield 262, 7, 23, 0, .null), none, none, some (.ifCond .eq 4, 0, 0, 0, .null), none, none, some (.return_, 0, 0, 0, .null), some (.iload 5, 0, 0, 0, .null), none, some (.ifCond .eq 17, 0, 0, 0, .null), none, none, some (.iload 6, 0, 0, 0, .null), none, some (.ifCond .ne 12, 0, 0, 0, .null), none, none, some (.aload_n 0, 0, 0, 0, .null), some (.iload_n 1, 0, 0, 0, .null), some (.iload_n 2, 0, 0, 0, .null), some (.invokevirtual 453, 100, 3, 0, (.retAddr 7)), none, none, some (.goto 4, 0, 0, 0, .null), none, none, some (.iconst (-1), 0, 0, 0, .null), some (.istore 8, 12, 0, 0, .null), none, some (.aload_n 0, 0, 0, 0, .null), some (.getfield 262, 7, 23, 0, .null), none, none, some (.ifCond .ne 22, 0, 0, 0, .null), none, none, some (.iload 8, 0, 0, 0, .null), none, some (.ifCond .lt 17, 0, 0, 0, .null), none, none, some (.aload_n 0, 0, 0, 0, .null), some (.getfield 49, 7, 31, 0, .null), none, none, some (.iload 8, 0, 0, 0, .null), none, some (.baload, 0, 0, 0, .null), some (.ifCond .eq 7, 0, 0, 0, .null), none, none, some (.aload_n 0, 0, 0, 0, .null), some (.invokevirtual 291, 40, 1, 0, (.retAddr 7)), none, none, some (.aload_n 0, 0, 0, 0, .null), some (.getfield 300, 7, 24, 0, .null), none, none, some (.istore 9, 12, 0, 0, .null), none, some (.aload_n 0, 0, 0, 0, .null), some (.getfield 329, 7, 37, 0, .null), none, none, some (.istore 10, 12, 0, 0, .null), none, some (.iload 9, 0, 0, 0, .null), none, some (.invokestatic 326, 101, 1, 0, .null), none, none, some (.istore 11, 12, 0, 0, .null), none, some (.aload_n 0, 0, 0, 0, .null), some (.getfield 262, 7, 23, 0, .null), none, none, some (.ifCond .ne 23, 0, 0, 0, .null), none, none, some (.iload 8, 0, 0, 0, .null), none]
def nC67_1 : List (Option mI) := [some (.ifCond .lt 18, 0, 0, 0, .null), none, none, some (.iload 7, 0, 0, 0, .null), none, some (.bipush 100, 0, 0, 0, .null), none, some (.if_icmp .eq 11, 0, 0, 0, .null), none, none, some (.aload_n 0, 0, 0, 0, .null), some (.iload 8, 0, 0, 0, .null), none, some (.iload 11, 0, 0, 0, .null), none, some (.invokevirtual 462, 102, 3, 0, (.retAddr 7)), none, none, some (.aload_n 0, 0, 0, 0, .null), some (.getfield 262, 7, 23, 0, .null), none, none, some (.ifCond .eq 4, 0, 0, 0, .null), none, none, some (.return_, 0, 0, 0, .null), some (.iload 7, 0, 0, 0, .null), none, some (.bipush 100, 0, 0, 0, .null), none, some (.if_icmp .lt 22, 0, 0, 0, .null), none, none, some (.iload 7, 0, 0, 0, .null), none, some (.sipush 8192, 0, 0, 0, .null), none, none, some (.if_icmp .ge 14, 0, 0, 0, .null), none, none, some (.iload 7, 0, 0, 0, .null), none, some (.sipush 128, 0, 0, 0, .null), none, none, some (.irem, 0, 0, 0, .null), some (.bipush 100, 0, 0, 0, .null), none, some (.if_icmp .ge 12, 0, 0, 0, .null), none, none, some (.aload_n 0, 0, 0, 0, .null), some (.iload 7, 0, 0, 0, .null), none, some (.invokevirtual 471, 103, 2, 0, (.retAddr 7)), none, none, some (.goto 13, 0, 0, 0, .null), none, none, some (.aload_n 0, 0, 0, 0, .null), some (.iload 7, 0, 0, 0, .null), none, some (.iload 11, 0, 0, 0, .null), none, some (.invokevirtual 474, 104, 3, 0, (.retAddr 7)), none, none, some (.istore 11, 12, 0, 0, .null), none, some (.aload_n 0, 0, 0, 0, .null), some (.getfield 262, 7, 23, 0, .null), none, none, some (.ifCond .ne 23, 0, 0, 0, .null), none, none, some (.iload 8, 0, 0, 0, .null), none, some (.ifCond .lt 18, 0, 0, 0, .null), none, none, some (.iload 7, 0, 0, 0, .null), none, some (.bipush 100, 0, 0, 0, .null), none, some (.if_icmp .ne 11, 0, 0, 0, .null), none, none, some (.aload_n 0, 0, 0, 0, .null), some (.iload 8, 0, 0, 0, .null), none, some (.iload 11, 0, 0, 0, .null), none, some (.invokevirtual 462, 102, 3, 0, (.retAddr 7)), none, none, some (.aload_n 0, 0, 0, 0, .null), some (.getfield 262, 7, 23, 0, .null), none, none, some (.ifCond .ne 57, 0, 0, 0, .null), none, none, some (.iload 6, 0, 0, 0, .null), none, some (.ifCond .eq 52, 0, 0, 0, .null), none, none, some (.aload_n 0, 0, 0, 0, .null), some (.iconst 1, 0, 0, 0, .null), some (.aload_n 0, 0, 0, 0, .null), some (.getfield 32, 7, 19, 0, .null), none, none, some (.iload_n 1, 0, 0, 0, .null), some (.iaload, 0, 0, 0, .null), some (.bipush 48, 0, 0, 0, .null), none, some (.isub, 0, 0, 0, .null), some (.iload 11, 0, 0, 0, .null), none, some (.iload 10, 0, 0, 0, .null), none, some (.invokevirtual 333, 105, 5, 0, (.retAddr 7)), none, none, some (.aload_n 0, 0, 0, 0, .null), some (.getfield 58, 7, 35, 0, .null), none, none, some (.aload_n 0, 0, 0, 0, .null), some (.getfield 32, 7, 19, 0, .null), none, none, some (.iload_n 1, 0, 0, 0, .null), some (.iaload, 0, 0, 0, .null), some (.bipush 48, 0, 0, 0, .null), none, some (.isub, 0, 0, 0, .null), some (.iconst 1, 0, 0, 0, .null), some (.bastore, 0, 0, 0, .null), some (.aload_n 0, 0, 0, 0, .null), some (.getfield 61, 7, 36, 0, .null), none, none, some (.aload_n 0, 0, 0, 0, .null), some (.getfield 32, 7, 19, 0, .null), none, none, some (.iload_n 1, 0, 0, 0, .null), some (.iaload, 0, 0, 0, .null), some (.bipush 48, 0, 0, 0, .null), none, some (.isub, 0, 0, 0, .null), some (.iload 11, 0, 0, 0, .null), none, some (.iastore, 0, 0, 0, .null), some (.return_, 0, 0, 0, .null)]
def nC67 : List (Option mI) := nC67_0 ++ (nC67_1)
/-- MixMachine$Symbols.valueOf(J)I -/
def nC68 : List (Option mI) := [some (.iconst 0, 0, 0, 0, .null), some (.istore_n 3, 4, 0, 0, .null), some (.iload_n 3, 0, 0, 0, .null), some (.aload_n 0, 0, 0, 0, .null), some (.getfield 19, 5, 2, 0, .null), none, none, some (.if_icmp .ge 27, 0, 0, 0, .null), none, none, some (.aload_n 0, 0, 0, 0, .null), some (.getfield 11, 5, 0, 0, .null), none, none, some (.iload_n 3, 0, 0, 0, .null), some (.laload, 0, 0, 0, .null), some (.lload_n 1, 0, 0, 0, .null), some (.lcmp, 0, 0, 0, .null), some (.ifCond .ne 10, 0, 0, 0, .null), none, none, some (.aload_n 0, 0, 0, 0, .null), some (.getfield 15, 5, 1, 0, .null), none, none, some (.iload_n 3, 0, 0, 0, .null), some (.iaload, 0, 0, 0, .null), some (.ireturn, 0, 0, 0, .null), some (.iinc 3 1, 4, 0, 0, .null), none, none, some (.goto (-29), 0, 0, 0, .null), none, none, some (.iconst (-1), 0, 0, 0, .null), some (.ireturn, 0, 0, 0, .null)]
/-- MixMachine$Processor.tryStep()V -/
def nC69 : List (Option mI) := [some (.aload_n 0, 0, 0, 0, .null), some (.getfield 26, 2, 5, 0, .null), none, none, some (.invokestatic 29, 76, 1, 0, .null), none, none, some (.ifCond .ne 9, 0, 0, 0, .null), none, none, some (.aload_n 0, 0, 0, 0, .null), some (.iconst 2, 0, 0, 0, .null), some (.putfield 22, 2, 6, 0, .null), none, none, some (.return_, 0, 0, 0, .null), some (.aload_n 0, 0, 0, 0, .null), some (.aload_n 0, 0, 0, 0, .null), some (.getfield 9, 2, 0, 0, .null), none, none, some (.aload_n 0, 0, 0, 0, .null), some (.getfield 26, 2, 5, 0, .null), none, none, some (.iaload, 0, 0, 0, .null), some (.invokevirtual 33, 106, 2, 0, (.retAddr 2)), none, none, some (.aload_n 0, 0, 0, 0, .null), some (.invokevirtual 37, 107, 1, 0, (.retAddr 2)), none, none, some (.ifCond .eq 24, 0, 0, 0, .null), none, none, some (.aload_n 0, 0, 0, 0, .null), some (.dup, 0, 0, 0, .null), some (.getfield 41, 2, 8, 0, .null), none, none, some (.iconst 1, 0, 0, 0, .null), some (.iadd, 0, 0, 0, .null), some (.putfield 41, 2, 8, 0, .null), none, none, some (.aload_n 0, 0, 0, 0, .null), some (.dup, 0, 0, 0, .null), some (.getfield 44, 2, 7, 0, .null), none, none, some (.iconst 1, 0, 0, 0, .null), some (.iadd, 0, 0, 0, .null), some (.putfield 44, 2, 7, 0, .null), none, none, some (.return_, 0, 0, 0, .null), some (.aload_n 0, 0, 0, 0, .null), some (.getfield 47, 2, 12, 0, .null), none, none, some (.bipush 6, 0, 0, 0, .null), none, some (.if_icmp .gt 10, 0, 0, 0, .null), none, none, some (.aload_n 0, 0, 0, 0, .null), some (.invokevirtual 50, 108, 1, 0, (.retAddr 2)), none, none, some (.ifCond .ne 9, 0, 0, 0, .null), none, none, some (.aload_n 0, 0, 0, 0, .null), some (.iconst 2, 0, 0, 0, .null), some (.putfield 22, 2, 6, 0, .null), none, none, some (.return_, 0, 0, 0, .null), some (.aload_n 0, 0, 0, 0, .null), some (.aload_n 0, 0, 0, 0, .null), some (.getfield 53, 2, 9, 0, .null), none, none, some (.putfield 26, 2, 5, 0, .null), none, none, some (.aload_n 0, 0, 0, 0, .null), some (.dup, 0, 0, 0, .null), some (.getfield 44, 2, 7, 0, .null), none, none, some (.iconst 1, 0, 0, 0, .null), some (.iadd, 0, 0, 0, .null), some (.putfield 44, 2, 7, 0, .null), none, none, some (.return_, 0, 0, 0, .null)]
/-- MixMachineModel.mag(I)I -/
def nC70 : List (Option mI) := [some (.iload_n 0, 0, 0, 0, .null), some (.iconst 1, 0, 0, 0, .null), some (.iushr, 0, 0, 0, .null), some (.ireturn, 0, 0, 0, .null)]
/-- MixMachineModel.unit(I)I -/
def nC71 : List (Option mI) := [some (.iload_n 0, 0, 0, 0, .null), some (.ifCond .ne 7, 0, 0, 0, .null), none, none, some (.iconst 0, 0, 0, 0, .null), some (.goto 24, 0, 0, 0, .null), none, none, some (.iload_n 0, 0, 0, 0, .null), some (.bipush 16, 0, 0, 0, .null), none, some (.if_icmp .ne 7, 0, 0, 0, .null), none, none, some (.iconst 1, 0, 0, 0, .null), some (.goto 14, 0, 0, 0, .null), none, none, some (.iload_n 0, 0, 0, 0, .null), some (.bipush 18, 0, 0, 0, .null), none, some (.if_icmp .ne 7, 0, 0, 0, .null), none, none, some (.iconst 2, 0, 0, 0, .null), some (.goto 4, 0, 0, 0, .null), none, none, some (.iconst (-1), 0, 0, 0, .null), some (.ireturn, 0, 0, 0, .null)]
/-- MixMachineModel.busyNow(I)Z -/
def nC72 : List (Option mI) := [some (.aload_n 0, 0, 0, 0, .null), some (.getfield 144, 7, 8, 0, .null), none, none, some (.aload_n 0, 0, 0, 0, .null), some (.getfield 29, 7, 17, 0, .null), none, none, some (.iload_n 1, 0, 0, 0, .null), some (.iaload, 0, 0, 0, .null), some (.if_icmp .ge 7, 0, 0, 0, .null), none, none, some (.iconst 1, 0, 0, 0, .null), some (.goto 4, 0, 0, 0, .null), none, none, some (.iconst 0, 0, 0, 0, .null), some (.ireturn, 1, 0, 0, .null)]
/-- MixMachineModel.minus(I)Z -/
def nC73 : List (Option mI) := [some (.iload_n 0, 0, 0, 0, .null), some (.iconst 1, 0, 0, 0, .null), some (.iand, 0, 0, 0, .null), some (.iconst 1, 0, 0, 0, .null), some (.if_icmp .ne 7, 0, 0, 0, .null), none, none, some (.iconst 1, 0, 0, 0, .null), some (.goto 4, 0, 0, 0, .null), none, none, some (.iconst 0, 0, 0, 0, .null), some (.ireturn, 1, 0, 0, .null)]
/-- MixMachineModel.valueOf(I)I -/
def nC74 : List (Option mI) := [some (.iload_n 0, 0, 0, 0, .null), some (.invokestatic 85, 73, 1, 0, .null), none, none, some (.ifCond .eq 11, 0, 0, 0, .null), none, none, some (.iload_n 0, 0, 0, 0, .null), some (.invokestatic 89, 70, 1, 0, .null), none, none, some (.ineg, 0, 0, 0, .null), some (.goto 7, 0, 0, 0, .null), none, none, some (.iload_n 0, 0, 0, 0, .null), some (.invokestatic 89, 70, 1, 0, .null), none, none, some (.ireturn, 0, 0, 0, .null)]
/-- MixMachineModel.operate(IIIZ)V -/
def nC75 : List (Option mI) := [some (.iload_n 1, 0, 0, 0, .null), some (.iconst 1, 0, 0, 0, .null), some (.iconst 4, 0, 0, 0, .null), some (.invokestatic 103, 36, 3, 0, .null), none, none, some (.ifCond .ne 20, 0, 0, 0, .null), none, none, some (.iload_n 1, 0, 0, 0, .null), some (.bipush 8, 0, 0, 0, .null), none, some (.bipush 33, 0, 0, 0, .null), none, some (.invokestatic 103, 36, 3, 0, .null), none, none, some (.ifCond .ne 9, 0, 0, 0, .null), none, none, some (.iload_n 1, 0, 0, 0, .null), some (.bipush 55, 0, 0, 0, .null), none, some (.if_icmp .le 13, 0, 0, 0, .null), none, none, some (.aload_n 0, 0, 0, 0, .null), some (.iload_n 1, 0, 0, 0, .null), some (.iload_n 2, 0, 0, 0, .null), some (.iload_n 3, 0, 0, 0, .null), some (.invokevirtual 219, 109, 4, 0, (.retAddr 7)), none, none, some (.goto 163, 0, 0, 0, .null), none, none, some (.iload_n 1, 0, 0, 0, .null), some (.iconst 5, 0, 0, 0, .null), some (.if_icmp .ne 11, 0, 0, 0, .null), none, none, some (.aload_n 0, 0, 0, 0, .null), some (.iload_n 2, 0, 0, 0, .null), some (.invokevirtual 222, 110, 2, 0, (.retAddr 7)), none, none, some (.goto 150, 0, 0, 0, .null), none, none, some (.iload_n 1, 0, 0, 0, .null), some (.bipush 6, 0, 0, 0, .null), none, some (.if_icmp .ne 12, 0, 0, 0, .null), none, none, some (.aload_n 0, 0, 0, 0, .null), some (.iload_n 2, 0, 0, 0, .null), some (.iload_n 3, 0, 0, 0, .null), some (.invokevirtual 225, 111, 3, 0, (.retAddr 7)), none, none, some (.goto 135, 0, 0, 0, .null), none, none, some (.iload_n 1, 0, 0, 0, .null), some (.bipush 7, 0, 0, 0, .null), none, some (.if_icmp .ne 12, 0, 0, 0, .null), none, none, some (.aload_n 0, 0, 0, 0, .null), some (.iload_n 2, 0, 0, 0, .null), some (.iload_n 3, 0, 0, 0, .null), some (.invokevirtual 228, 112, 3, 0, (.retAddr 7)), none, none, some (.goto 120, 0, 0, 0, .null), none, none, some (.iload_n 1, 0, 0, 0, .null), some (.bipush 34, 0, 0, 0, .null), none, some (.if_icmp .eq 9, 0, 0, 0, .null), none, none, some (.iload_n 1, 0, 0, 0, .null), some (.bipush 38, 0, 0, 0, .null), none, some (.if_icmp .ne 57, 0, 0, 0, .null), none, none, some (.aload_n 0, 0, 0, 0, .null), some (.iload_n 2, 0, 0, 0, .null), some (.invokestatic 131, 71, 1, 0, .null), none, none, some (.ifCond .lt 7, 0, 0, 0, .null), none, none, some (.iconst 1, 0, 0, 0, .null), some (.goto 4, 0, 0, 0, .null), none, none, some (.iconst 0, 0, 0, 0, .null), some (.invokevirtual 120, 113, 2, 0, (.retAddr 7)), none, none, some (.aload_n 0, 0, 0, 0, .null), some (.getfield 110, 7, 4, 0, .null), none, none, some (.ifCond .ne 85, 0, 0, 0, .null), none, none, some (.aload_n 0, 0, 0, 0, .null), some (.iload_n 2, 0, 0, 0, .null), some (.invokestatic 131, 71, 1, 0, .null), none, none, some (.invokevirtual 231, 72, 2, 0, (.retAddr 7)), none, none, some (.iload_n 1, 0, 0, 0, .null), some (.bipush 34, 0, 0, 0, .null), none, some (.if_icmp .ne 7, 0, 0, 0, .null), none, none, some (.iconst 1, 0, 0, 0, .null), some (.goto 4, 0, 0, 0, .null), none, none, some (.iconst 0, 0, 0, 0, .null), some (.if_icmp .ne 63, 0, 0, 0, .null), none, none, some (.aload_n 0, 0, 0, 0, .null), some (.iload_n 3, 0, 0, 0, .null), some (.iconst 1, 0, 0, 0, .null), some (.invokevirtual 192, 114, 3, 0, (.retAddr 7)), none, none, some (.goto 54, 0, 0, 0, .null), none, none, some (.iload_n 1, 0, 0, 0, .null), some (.bipush 35, 0, 0, 0, .null), none, some (.bipush 37, 0, 0, 0, .null), none, some (.invokestatic 103, 36, 3, 0, .null), none, none, some (.ifCond .eq 13, 0, 0, 0, .null), none, none, some (.aload_n 0, 0, 0, 0, .null), some (.iload_n 1, 0, 0, 0, .null), some (.iload_n 2, 0, 0, 0, .null), some (.iload_n 3, 0, 0, 0, .null), some (.invokevirtual 234, 115, 4, 0, (.retAddr 7)), none, none, some (.goto 33, 0, 0, 0, .null), none, none, some (.iload_n 1, 0, 0, 0, .null), some (.bipush 39, 0, 0, 0, .null), none, some (.if_icmp .ne 12, 0, 0, 0, .null), none, none, some (.aload_n 0, 0, 0, 0, .null), some (.iload_n 2, 0, 0, 0, .null), some (.iload_n 3, 0, 0, 0, .null), some (.invokevirtual 237, 116, 3, 0, (.retAddr 7)), none, none, some (.goto 18, 0, 0, 0, .null), none, none, some (.iload_n 1, 0, 0, 0, .null), some (.bipush 39, 0, 0, 0, .null), none, some (.if_icmp .le 12, 0, 0, 0, .null), none, none, some (.aload_n 0, 0, 0, 0, .null), some (.iload_n 1, 0, 0, 0, .null), some (.iload_n 2, 0, 0, 0, .null), some (.iload_n 3, 0, 0, 0, .null), some (.iload 4, 0, 0, 0, .null), none, some (.invokevirtual 240, 117, 5, 0, (.retAddr 7)), none, none, some (.return_, 0, 0, 0, .null)]
/-- MixMachine.isPlace(I)Z -/
def nC76 : List (Option mI) := [some (.iload_n 0, 0, 0, 0, .null), some (.ifCond .lt 14, 0, 0, 0, .null), none, none, some (.iload_n 0, 0, 0, 0, .null), some (.sipush 200, 0, 0, 0, .null), none, none, some (.if_icmp .ge 7, 0, 0, 0, .null), none, none, some (.iconst 1, 0, 0, 0, .null), some (.goto 4, 0, 0, 0, .null), none, none, some (.iconst 0, 0, 0, 0, .null), some (.ireturn, 1, 0, 0, .null)]
/-- MixMachine$Units.addCard(IIII)V -/
def nC77 : List (Option mI) := [some (.aload_n 0, 0, 0, 0, .null), some (.getfield 74, 1, 6, 0, .null), none, none, some (.aload_n 0, 0, 0, 0, .null), some (.getfield 71, 1, 7, 0, .null), none, none, some (.iadd, 0, 0, 0, .null), some (.bipush 6, 0, 0, 0, .null), none, some (.irem, 0, 0, 0, .null), some (.iconst 4, 0, 0, 0, .null), some (.imul, 0, 0, 0, .null), some (.istore 5, 6, 0, 0, .null), none, some (.aload_n 0, 0, 0, 0, .null), some (.getfield 18, 1, 2, 0, .null), none, none, some (.iload 5, 0, 0, 0, .null), none, some (.iload_n 1, 0, 0, 0, .null), some (.iastore, 0, 0, 0, .null), some (.aload_n 0, 0, 0, 0, .null), some (.getfield 18, 1, 2, 0, .null), none, none, some (.iload 5, 0, 0, 0, .null), none, some (.iconst 1, 0, 0, 0, .null), some (.iadd, 0, 0, 0, .null), some (.iload_n 2, 0, 0, 0, .null), some (.iastore, 0, 0, 0, .null), some (.aload_n 0, 0, 0, 0, .null), some (.getfield 18, 1, 2, 0, .null), none, none, some (.iload 5, 0, 0, 0, .null), none, some (.iconst 2, 0, 0, 0, .null), some (.iadd, 0, 0, 0, .null), some (.iload_n 3, 0, 0, 0, .null), some (.iastore, 0, 0, 0, .null), some (.aload_n 0, 0, 0, 0, .null), some (.getfield 18, 1, 2, 0, .null), none, none, some (.iload 5, 0, 0, 0, .null), none, some (.iconst 3, 0, 0, 0, .null), some (.iadd, 0, 0, 0, .null), some (.iload 4, 0, 0, 0, .null), none, some (.iastore, 0, 0, 0, .null), some (.aload_n 0, 0, 0, 0, .null), some (.dup, 0, 0, 0, .null), some (.getfield 71, 1, 7, 0, .null), none, none, some (.iconst 1, 0, 0, 0, .null), some (.iadd, 0, 0, 0, .null), some (.putfield 71, 1, 7, 0, .null), none, none, some (.return_, 0, 0, 0, .null)]
/-- MixMachine$Units.linesKept()I -/
def nC78 : List (Option mI) := [some (.aload_n 0, 0, 0, 0, .null), some (.getfield 77, 1, 8, 0, .null), none, none, some (.bipush 8, 0, 0, 0, .null), none, some (.invokestatic 53, 0, 0, 2, .null), none, none, some (.ireturn, 0, 0, 0, .null)]
/-- MixMachine$Units.printedWord(II)I -/
def nC79 : List (Option mI) := [some (.aload_n 0, 0, 0, 0, .null), some (.getfield 21, 1, 3, 0, .null), none, none, some (.aload_n 0, 0, 0, 0, .null), some (.getfield 77, 1, 8, 0, .null), none, none, some (.iconst 1, 0, 0, 0, .null), some (.isub, 0, 0, 0, .null), some (.iload_n 1, 0, 0, 0, .null), some (.isub, 0, 0, 0, .null), some (.bipush 8, 0, 0, 0, .null), none, some (.irem, 0, 0, 0, .null), some (.bipush 6, 0, 0, 0, .null), none, some (.imul, 0, 0, 0, .null), some (.iload_n 2, 0, 0, 0, .null), some (.iadd, 0, 0, 0, .null), some (.iaload, 0, 0, 0, .null), some (.ireturn, 0, 0, 0, .null)]
/-- java/util/Arrays.fill([II)V -/
def nC80 : List (Option mI) := [some (.iconst 0, 0, 0, 0, .null), some (.istore_n 2, 4, 0, 0, .null), some (.aload_n 0, 0, 0, 0, .null), some (.arraylength, 0, 0, 0, .null), some (.istore_n 3, 4, 0, 0, .null), some (.iload_n 2, 0, 0, 0, .null), some (.iload_n 3, 0, 0, 0, .null), some (.if_icmp .ge 13, 0, 0, 0, .null), none, none, some (.aload_n 0, 0, 0, 0, .null), some (.iload_n 2, 0, 0, 0, .null), some (.iload_n 1, 0, 0, 0, .null), some (.iastore, 0, 0, 0, .null), some (.iinc 2 1, 4, 0, 0, .null), none, none, some (.goto (-12), 0, 0, 0, .null), none, none, some (.return_, 0, 0, 0, .null)]
/-- MixMachine$Text.openLine()V -/
def nC81 : List (Option mI) := [some (.aload_n 0, 0, 0, 0, .null), some (.aload_n 0, 0, 0, 0, .null), some (.getfield 27, 3, 3, 0, .null), none, none, some (.putfield 30, 3, 2, 0, .null), none, none, some (.aload_n 0, 0, 0, 0, .null), some (.aload_n 0, 0, 0, 0, .null), some (.getfield 30, 3, 2, 0, .null), none, none, some (.putfield 33, 3, 4, 0, .null), none, none, some (.aload_n 0, 0, 0, 0, .null), some (.getfield 33, 3, 4, 0, .null), none, none, some (.aload_n 0, 0, 0, 0, .null), some (.getfield 23, 3, 1, 0, .null), none, none, some (.if_icmp .ge 30, 0, 0, 0, .null), none, none, some (.aload_n 0, 0, 0, 0, .null), some (.getfield 9, 3, 0, 0, .null), none, none, some (.aload_n 0, 0, 0, 0, .null), some (.getfield 33, 3, 4, 0, .null), none, none, some (.caload, 0, 0, 0, .null), some (.bipush 10, 0, 0, 0, .null), none, some (.if_icmp .eq 16, 0, 0, 0, .null), none, none, some (.aload_n 0, 0, 0, 0, .null), some (.dup, 0, 0, 0, .null), some (.getfield 33, 3, 4, 0, .null), none, none, some (.iconst 1, 0, 0, 0, .null), some (.iadd, 0, 0, 0, .null), some (.putfield 33, 3, 4, 0, .null), none, none, some (.goto (-35), 0, 0, 0, .null), none, none, some (.aload_n 0, 0, 0, 0, .null), some (.aload_n 0, 0, 0, 0, .null), some (.getfield 33, 3, 4, 0, .null), none, none, some (.iconst 1, 0, 0, 0, .null), some (.iadd, 0, 0, 0, .null), some (.putfield 27, 3, 3, 0, .null), none, none, some (.return_, 0, 0, 0, .null)]
/-- MixMachine$Text.isLineNothing()Z -/
def nC82 : List (Option mI) := [some (.aload_n 0, 0, 0, 0, .null), some (.getfield 30, 3, 2, 0, .null), none, none, some (.aload_n 0, 0, 0, 0, .null), some (.getfield 33, 3, 4, 0, .null), none, none, some (.if_icmp .ge 19, 0, 0, 0, .null), none, none, some (.aload_n 0, 0, 0, 0, .null), some (.getfield 9, 3, 0, 0, .null), none, none, some (.aload_n 0, 0, 0, 0, .null), some (.getfield 30, 3, 2, 0, .null), none, none, some (.caload, 0, 0, 0, .null), some (.bipush 42, 0, 0, 0, .null), none, some (.if_icmp .ne 5, 0, 0, 0, .null), none, none, some (.iconst 1, 0, 0, 0, .null), some (.ireturn, 1, 0, 0, .null), some (.aload_n 0, 0, 0, 0, .null), some (.getfield 30, 3, 2, 0, .null), none, none, some (.istore_n 1, 2, 0, 0, .null), some (.iload_n 1, 0, 0, 0, .null), some (.aload_n 0, 0, 0, 0, .null), some (.getfield 33, 3, 4, 0, .null), none, none, some (.if_icmp .ge 22, 0, 0, 0, .null), none, none, some (.aload_n 0, 0, 0, 0, .null), some (.getfield 9, 3, 0, 0, .null), none, none, some (.iload_n 1, 0, 0, 0, .null), some (.caload, 0, 0, 0, .null), some (.bipush 32, 0, 0, 0, .null), none, some (.if_icmp .eq 5, 0, 0, 0, .null), none, none, some (.iconst 0, 0, 0, 0, .null), some (.ireturn, 1, 0, 0, .null), some (.iinc 1 1, 2, 0, 0, .null), none, none, some (.goto (-24), 0, 0, 0, .null), none, none, some (.iconst 1, 0, 0, 0, .null), some (.ireturn, 1, 0, 0, .null)]
/-- MixMachine$Assembler.readLabel()V -/
def nC83 : List (Option mI) := [some (.aload_n 0, 0, 0, 0, .null), some (.getfield 11, 4, 0, 0, .null), none, none, some (.invokevirtual 134, 118, 1, 0, (.retAddr 3)), none, none, some (.aload_n 0, 0, 0, 0, .null), some (.iconst 0, 0, 0, 0, .null), some (.putfield 105, 4, 12, 0, .null), none, none, some (.aload_n 0, 0, 0, 0, .null), some (.getfield 11, 4, 0, 0, .null), none, none, some (.invokevirtual 137, 119, 1, 0, (.retAddr 3)), none, none, some (.ifCond .eq 4, 0, 0, 0, .null), none, none, some (.return_, 0, 0, 0, .null), some (.aload_n 0, 0, 0, 0, .null), some (.getfield 11, 4, 0, 0, .null), none, none, some (.invokevirtual 140, 120, 1, 0, (.retAddr 3)), none, none, some (.aload_n 0, 0, 0, 0, .null), some (.aload_n 0, 0, 0, 0, .null), some (.getfield 11, 4, 0, 0, .null), none, none, some (.invokevirtual 143, 121, 1, 0, (.retAddr 3)), none, none, some (.putfield 105, 4, 12, 0, .null), none, none, some (.aload_n 0, 0, 0, 0, .null), some (.getfield 11, 4, 0, 0, .null), none, none, some (.invokevirtual 137, 119, 1, 0, (.retAddr 3)), none, none, some (.ifCond .eq 19, 0, 0, 0, .null), none, none, some (.aload_n 0, 0, 0, 0, .null), some (.getfield 105, 4, 12, 0, .null), none, none, some (.iconst 2, 0, 0, 0, .null), some (.if_icmp .eq 21, 0, 0, 0, .null), none, none, some (.aload_n 0, 0, 0, 0, .null), some (.getfield 105, 4, 12, 0, .null), none, none, some (.iconst 3, 0, 0, 0, .null), some (.if_icmp .eq 13, 0, 0, 0, .null), none, none, some (.new 146, 148, 150, 1, .null), none, none, none, none, none, none, none, none, none, some (.aload_n 0, 0, 0, 0, .null), some (.getfield 105, 4, 12, 0, .null), none, none, some (.iconst 3, 0, 0, 0, .null), some (.if_icmp .ne 15, 0, 0, 0, .null), none, none, some (.aload_n 0, 0, 0, 0, .null), some (.aload_n 0, 0, 0, 0, .null), some (.getfield 11, 4, 0, 0, .null), none, none, some (.invokevirtual 153, 122, 1, 0, (.retAddr 3)), none, none, some (.putfield 128, 4, 14, 0, .null), none, none, some (.return_, 0, 0, 0, .null), some (.aload_n 0, 0, 0, 0, .null), some (.aload_n 0, 0, 0, 0, .null), some (.invokevirtual 156, 123, 1, 0, (.retAddr 4)), none, none, some (.putfield 111, 4, 13, 0, .null), none, none, some (.aload_n 0, 0, 0, 0, .null), some (.getfield 20, 4, 1, 0, .null), none, none, some (.getfield 159, 5, 1, 0, .null), none, none, some (.aload_n 0, 0, 0, 0, .null), some (.getfield 111, 4, 13, 0, .null), none, none, some (.iaload, 0, 0, 0, .null), some (.iconst (-1), 0, 0, 0, .null), some (.if_icmp .eq 13, 0, 0, 0, .null), none, none, some (.new 146, 162, 150, 1, .null), none, none, none, none, none, none, none, none, none, some (.return_, 0, 0, 0, .null)]
/-- MixMachine$Assembler.readOperation()V -/
def nC84 : List (Option mI) := [some (.aload_n 0, 0, 0, 0, .null), some (.getfield 11, 4, 0, 0, .null), none, none, some (.invokevirtual 173, 124, 1, 0, (.retAddr 3)), none, none, some (.aload_n 0, 0, 0, 0, .null), some (.getfield 11, 4, 0, 0, .null), none, none, some (.invokevirtual 134, 118, 1, 0, (.retAddr 3)), none, none, some (.aload_n 0, 0, 0, 0, .null), some (.getfield 11, 4, 0, 0, .null), none, none, some (.invokevirtual 140, 120, 1, 0, (.retAddr 3)), none, none, some (.aload_n 0, 0, 0, 0, .null), some (.iconst (-1), 0, 0, 0, .null), some (.putfield 176, 4, 16, 0, .null), none, none, some (.iconst 0, 0, 0, 0, .null), some (.istore_n 1, 2, 0, 0, .null), some (.iload_n 1, 0, 0, 0, .null), some (.getstatic 179, 0, 0, 0, (.ref 52)), none, none, some (.arraylength, 0, 0, 0, .null), some (.if_icmp .ge 44, 0, 0, 0, .null), none, none, some (.aload_n 0, 0, 0, 0, .null), some (.getfield 176, 4, 16, 0, .null), none, none, some (.iconst (-1), 0, 0, 0, .null), some (.if_icmp .ne 36, 0, 0, 0, .null), none, none, some (.aload_n 0, 0, 0, 0, .null), some (.getstatic 179, 0, 0, 0, (.ref 52)), none, none, some (.iload_n 1, 0, 0, 0, .null), some (.aaload, 0, 0, 0, .null), some (.putfield 50, 4, 15, 3, .null), none, none, some (.aload_n 0, 0, 0, 0, .null), some (.aload_n 0, 0, 0, 0, .null), some (.getfield 50, 4, 15, 0, .null), none, none, some (.aload_n 0, 0, 0, 0, .null), some (.getfield 11, 4, 0, 0, .null), none, none, some (.getfield 164, 3, 6, 0, .null), none, none, some (.invokevirtual 183, 125, 2, 0, (.retAddr 13)), none, none, some (.putfield 176, 4, 16, 0, .null), none, none, some (.iinc 1 1, 2, 0, 0, .null), none, none, some (.goto (-46), 0, 0, 0, .null), none, none, some (.aload_n 0, 0, 0, 0, .null), some (.getfield 176, 4, 16, 0, .null), none, none, some (.iconst (-1), 0, 0, 0, .null), some (.if_icmp .eq 13, 0, 0, 0, .null), none, none, some (.aload_n 0, 0, 0, 0, .null), some (.getfield 11, 4, 0, 0, .null), none, none, some (.invokevirtual 137, 119, 1, 0, (.retAddr 3)), none, none, some (.ifCond .ne 13, 0, 0, 0, .null), none, none, some (.new 146, 186, 150, 1, .null), none, none, none, none, none, none, none, none, none, some (.aload_n 0, 0, 0, 0, .null), some (.getfield 11, 4, 0, 0, .null), none, none, some (.invokevirtual 173, 124, 1, 0, (.retAddr 3)), none, none, some (.aload_n 0, 0, 0, 0, .null), some (.getfield 11, 4, 0, 0, .null), none, none, some (.invokevirtual 134, 118, 1, 0, (.retAddr 3)), none, none, some (.return_, 0, 0, 0, .null)]
/-- MixMachine$Assembler.checkLabel()V -/
def nC85 : List (Option mI) := [some (.aload_n 0, 0, 0, 0, .null), some (.getfield 50, 4, 15, 0, .null), none, none, some (.getstatic 108, 0, 0, 0, (.ref 48)), none, none, some (.if_acmp .ne 14, 0, 0, 0, .null), none, none, some (.aload_n 0, 0, 0, 0, .null), some (.getfield 105, 4, 12, 0, .null), none, none, some (.ifCond .ne 7, 0, 0, 0, .null), none, none, some (.iconst 1, 0, 0, 0, .null), some (.goto 4, 0, 0, 0, .null), none, none, some (.iconst 0, 0, 0, 0, .null), some (.istore_n 1, 3, 0, 0, .null), some (.aload_n 0, 0, 0, 0, .null), some (.getfield 50, 4, 15, 0, .null), none, none, some (.getstatic 188, 0, 0, 0, (.ref 51)), none, none, some (.if_acmp .ne 14, 0, 0, 0, .null), none, none, some (.aload_n 0, 0, 0, 0, .null), some (.getfield 105, 4, 12, 0, .null), none, none, some (.ifCond .eq 7, 0, 0, 0, .null), none, none, some (.iconst 1, 0, 0, 0, .null), some (.goto 4, 0, 0, 0, .null), none, none, some (.iconst 0, 0, 0, 0, .null), some (.istore_n 2, 3, 0, 0, .null), some (.iload_n 1, 0, 0, 0, .null), some (.ifCond .ne 7, 0, 0, 0, .null), none, none, some (.iload_n 2, 0, 0, 0, .null), some (.ifCond .eq 13, 0, 0, 0, .null), none, none, some (.new 146, 191, 150, 1, .null), none, none, none, none, none, none, none, none, none, some (.return_, 0, 0, 0, .null)]
/-- MixMachine$Words.of(J)I -/
def nC86 : List (Option mI) := [some (.lload_n 0, 0, 0, 0, .null), some (.lconst 0, 0, 0, 0, .null), some (.lcmp, 0, 0, 0, .null), some (.ifCond .ge 13, 0, 0, 0, .null), none, none, some (.lload_n 0, 0, 0, 0, .null), some (.lneg, 0, 0, 0, .null), some (.l2i, 0, 0, 0, .null), some (.iconst 2, 0, 0, 0, .null), some (.imul, 0, 0, 0, .null), some (.iconst 1, 0, 0, 0, .null), some (.iadd, 0, 0, 0, .null), some (.goto 7, 0, 0, 0, .null), none, none, some (.lload_n 0, 0, 0, 0, .null), some (.l2i, 0, 0, 0, .null), some (.iconst 2, 0, 0, 0, .null), some (.imul, 0, 0, 0, .null), some (.ireturn, 0, 0, 0, .null)]
/-- MixMachine$Assembler.giveValue(II)V -/
def nC87 : List (Option mI) := [some (.aload_n 0, 0, 0, 0, .null), some (.getfield 20, 4, 1, 0, .null), none, none, some (.getfield 159, 5, 1, 0, .null), none, none, some (.iload_n 1, 0, 0, 0, .null), some (.iload_n 2, 0, 0, 0, .null), some (.iastore, 0, 0, 0, .null), some (.aload_n 0, 0, 0, 0, .null), some (.iload_n 1, 0, 0, 0, .null), some (.iload_n 2, 0, 0, 0, .null), some (.invokevirtual 131, 91, 3, 0, (.retAddr 4)), none, none, some (.return_, 0, 0, 0, .null)]
/-- MixMachine$Operation.isInstruction()Z -/
def nC88 : List (Option mI) := [some (.aload_n 0, 0, 0, 0, .null), some (.getfield 179, 13, 1, 0, .null), none, none, some (.bipush 64, 0, 0, 0, .null), none, some (.if_icmp .ge 7, 0, 0, 0, .null), none, none, some (.iconst 1, 0, 0, 0, .null), some (.goto 4, 0, 0, 0, .null), none, none, some (.iconst 0, 0, 0, 0, .null), some (.ireturn, 1, 0, 0, .null)]
/-- MixMachine$Assembler.readInstruction()V -/
def nC89 : List (Option mI) := [some (.aload_n 0, 0, 0, 0, .null), some (.invokevirtual 227, 126, 1, 0, (.retAddr 4)), none, none, some (.istore_n 1, 5, 0, 0, .null), some (.aload_n 0, 0, 0, 0, .null), some (.getfield 11, 4, 0, 0, .null), none, none, some (.bipush 44, 0, 0, 0, .null), none, some (.invokevirtual 230, 127, 2, 0, (.retAddr 3)), none, none, some (.ifCond .eq 12, 0, 0, 0, .null), none, none, some (.aload_n 0, 0, 0, 0, .null), some (.bipush 6, 0, 0, 0, .null), none, some (.invokevirtual 234, 128, 2, 0, (.retAddr 4)), none, none, some (.goto 4, 0, 0, 0, .null), none, none, some (.iconst 0, 0, 0, 0, .null), some (.istore_n 2, 5, 0, 0, .null), some (.aload_n 0, 0, 0, 0, .null), some (.getfield 50, 4, 15, 0, .null), none, none, some (.getfield 237, 13, 2, 0, .null), none, none, some (.istore_n 3, 5, 0, 0, .null), some (.aload_n 0, 0, 0, 0, .null), some (.getfield 50, 4, 15, 0, .null), none, none, some (.invokevirtual 240, 129, 1, 0, (.retAddr 13)), none, none, some (.ifCond .ne 44, 0, 0, 0, .null), none, none, some (.aload_n 0, 0, 0, 0, .null), some (.getfield 11, 4, 0, 0, .null), none, none, some (.bipush 40, 0, 0, 0, .null), none, some (.invokevirtual 230, 127, 2, 0, (.retAddr 3)), none, none, some (.ifCond .eq 32, 0, 0, 0, .null), none, none, some (.aload_n 0, 0, 0, 0, .null), some (.bipush 63, 0, 0, 0, .null), none, some (.invokevirtual 234, 128, 2, 0, (.retAddr 4)), none, none, some (.istore_n 3, 5, 0, 0, .null), some (.aload_n 0, 0, 0, 0, .null), some (.getfield 11, 4, 0, 0, .null), none, none, some (.bipush 41, 0, 0, 0, .null), none, some (.invokevirtual 230, 127, 2, 0, (.retAddr 3)), none, none, some (.ifCond .ne 13, 0, 0, 0, .null), none, none, some (.new 146, 243, 150, 1, .null), none, none, none, none, none, none, none, none, none, some (.aload_n 0, 0, 0, 0, .null), some (.getfield 11, 4, 0, 0, .null), none, none, some (.invokevirtual 137, 119, 1, 0, (.retAddr 3)), none, none, some (.ifCond .ne 13, 0, 0, 0, .null), none, none, some (.new 146, 245, 150, 1, .null), none, none, none, none, none, none, none, none, none, some (.aload_n 0, 0, 0, 0, .null), some (.getfield 67, 4, 8, 0, .null), none, none, some (.istore 4, 5, 0, 0, .null), none, some (.aload_n 0, 0, 0, 0, .null), some (.iload_n 2, 0, 0, 0, .null), some (.bipush 12, 0, 0, 0, .null), none, some (.ishl, 0, 0, 0, .null), some (.iload_n 3, 0, 0, 0, .null), some (.bipush 6, 0, 0, 0, .null), none, some (.ishl, 0, 0, 0, .null), some (.ior, 0, 0, 0, .null), some (.aload_n 0, 0, 0, 0, .null), some (.getfield 176, 4, 16, 0, .null), none, none, some (.ior, 0, 0, 0, .null), some (.iconst 0, 0, 0, 0, .null), some (.invokestatic 247, 130, 2, 0, .null), none, none, some (.iconst 2, 0, 0, 0, .null), some (.iload_n 1, 0, 0, 0, .null), some (.invokestatic 251, 131, 3, 0, .null), none, none, some (.invokevirtual 212, 132, 2, 0, (.retAddr 4)), none, none, some (.aload_n 0, 0, 0, 0, .null), some (.getfield 255, 4, 17, 0, .null), none, none, some (.iconst (-1), 0, 0, 0, .null), some (.if_icmp .eq 34, 0, 0, 0, .null), none, none, some (.aload_n 0, 0, 0, 0, .null), some (.getfield 30, 4, 3, 0, .null), none, none, some (.aload_n 0, 0, 0, 0, .null), some (.getfield 255, 4, 17, 0, .null), none, none, some (.iload 4, 0, 0, 0, .null), none, some (.aload_n 0, 0, 0, 0, .null), some (.getfield 53, 4, 11, 0, .null), none, none, some (.invokevirtual 258, 133, 4, 0, (.retAddr 6)), none, none, some (.ifCond .ne 14, 0, 0, 0, .null), none, none, some (.new 146, 262, 150, 1, (.retAddr 1)), none, none, none, none, none, none, none, none, none, none, some (.return_, 0, 0, 0, .null)]
/-- MixMachine$Assembler.readDirective()I -/
def nC90 : List (Option mI) := [some (.aload_n 0, 0, 0, 0, .null), some (.invokevirtual 193, 134, 1, 0, (.retAddr 4)), none, none, some (.istore_n 1, 2, 0, 0, .null), some (.aload_n 0, 0, 0, 0, .null), some (.getfield 11, 4, 0, 0, .null), none, none, some (.invokevirtual 137, 119, 1, 0, (.retAddr 3)), none, none, some (.ifCond .ne 13, 0, 0, 0, .null), none, none, some (.new 146, 196, 150, 1, .null), none, none, none, none, none, none, none, none, none, some (.aload_n 0, 0, 0, 0, .null), some (.getfield 50, 4, 15, 0, .null), none, none, some (.getstatic 108, 0, 0, 0, (.ref 48)), none, none, some (.if_acmp .ne 11, 0, 0, 0, .null), none, none, some (.aload_n 0, 0, 0, 0, .null), some (.iload_n 1, 0, 0, 0, .null), some (.invokevirtual 198, 135, 2, 0, (.retAddr 4)), none, none, some (.goto 47, 0, 0, 0, .null), none, none, some (.aload_n 0, 0, 0, 0, .null), some (.getfield 50, 4, 15, 0, .null), none, none, some (.getstatic 202, 0, 0, 0, (.ref 49)), none, none, some (.if_acmp .ne 14, 0, 0, 0, .null), none, none, some (.aload_n 0, 0, 0, 0, .null), some (.iload_n 1, 0, 0, 0, .null), some (.invokestatic 205, 136, 1, 0, .null), none, none, some (.putfield 67, 4, 8, 0, .null), none, none, some (.goto 26, 0, 0, 0, .null), none, none, some (.aload_n 0, 0, 0, 0, .null), some (.getfield 50, 4, 15, 0, .null), none, none, some (.getstatic 209, 0, 0, 0, (.ref 50)), none, none, some (.if_acmp .ne 11, 0, 0, 0, .null), none, none, some (.aload_n 0, 0, 0, 0, .null), some (.iload_n 1, 0, 0, 0, .null), some (.invokevirtual 212, 132, 2, 0, (.retAddr 4)), none, none, some (.goto 8, 0, 0, 0, .null), none, none, some (.aload_n 0, 0, 0, 0, .null), some (.iload_n 1, 0, 0, 0, .null), some (.invokevirtual 215, 137, 2, 0, (.retAddr 4)), none, none, some (.iload_n 1, 0, 0, 0, .null), some (.ireturn, 0, 0, 0, .null)]
/-- MixMachine$Assembler.fillIn(II)V -/
def nC91 : List (Option mI) := [some (.iconst 0, 0, 0, 0, .null), some (.istore_n 3, 6, 0, 0, .null), some (.iload_n 3, 0, 0, 0, .null), some (.aload_n 0, 0, 0, 0, .null), some (.getfield 30, 4, 3, 0, .null), none, none, some (.getfield 63, 6, 3, 0, .null), none, none, some (.if_icmp .ge 129, 0, 0, 0, .null), none, none, some (.aload_n 0, 0, 0, 0, .null), some (.getfield 30, 4, 3, 0, .null), none, none, some (.getfield 329, 6, 0, 0, .null), none, none, some (.iload_n 3, 0, 0, 0, .null), some (.iaload, 0, 0, 0, .null), some (.iload_n 1, 0, 0, 0, .null), some (.if_icmp .ne 23, 0, 0, 0, .null), none, none, some (.aload_n 0, 0, 0, 0, .null), some (.getfield 30, 4, 3, 0, .null), none, none, some (.getfield 332, 6, 2, 0, .null), none, none, some (.iload_n 3, 0, 0, 0, .null), some (.iaload, 0, 0, 0, .null), some (.aload_n 0, 0, 0, 0, .null), some (.getfield 53, 4, 11, 0, .null), none, none, some (.if_icmp .eq 7, 0, 0, 0, .null), none, none, some (.iconst 1, 0, 0, 0, .null), some (.goto 4, 0, 0, 0, .null), none, none, some (.iconst 0, 0, 0, 0, .null), some (.istore 4, 6, 0, 0, .null), none, some (.iload 4, 0, 0, 0, .null), none, some (.ifCond .eq 37, 0, 0, 0, .null), none, none, some (.iload_n 2, 0, 0, 0, .null), some (.invokestatic 335, 138, 1, 0, .null), none, none, some (.sipush 4096, 0, 0, 0, .null), none, none, some (.if_icmp .lt 27, 0, 0, 0, .null), none, none, some (.aload_n 0, 0, 0, 0, .null), some (.aload_n 0, 0, 0, 0, .null), some (.getfield 30, 4, 3, 0, .null), none, none, some (.getfield 332, 6, 2, 0, .null), none, none, some (.iload_n 3, 0, 0, 0, .null), some (.iaload, 0, 0, 0, .null), some (.putfield 53, 4, 11, 0, .null), none, none, some (.new 146, 286, 150, 1, (.retAddr 1)), none, none, none, none, none, none, none, none, none, none, some (.iload 4, 0, 0, 0, .null), none, some (.ifCond .eq 43, 0, 0, 0, .null), none, none, some (.aload_n 0, 0, 0, 0, .null), some (.getfield 30, 4, 3, 0, .null), none, none, some (.getfield 338, 6, 1, 0, .null), none, none, some (.iload_n 3, 0, 0, 0, .null), some (.iaload, 0, 0, 0, .null), some (.istore 5, 6, 0, 0, .null), none, some (.aload_n 0, 0, 0, 0, .null), some (.getfield 34, 4, 4, 0, .null), none, none, some (.iload 5, 0, 0, 0, .null), none, some (.aload_n 0, 0, 0, 0, .null), some (.getfield 34, 4, 4, 0, .null), none, none, some (.iload 5, 0, 0, 0, .null), none, some (.iaload, 0, 0, 0, .null), some (.iconst 2, 0, 0, 0, .null), some (.iload_n 2, 0, 0, 0, .null), some (.invokestatic 251, 131, 3, 0, .null), none, none, some (.iastore, 0, 0, 0, .null), some (.aload_n 0, 0, 0, 0, .null), some (.getfield 30, 4, 3, 0, .null), none, none, some (.getfield 329, 6, 0, 0, .null), none, none, some (.iload_n 3, 0, 0, 0, .null), some (.iconst (-1), 0, 0, 0, .null), some (.iastore, 0, 0, 0, .null), some (.iinc 3 1, 6, 0, 0, .null), none, none, some (.goto (-134), 0, 0, 0, .null), none, none, some (.return_, 0, 0, 0, .null)]
/-- MixMachine$Waits.isDigitAwaited()Z -/
def nC92 : List (Option mI) := [some (.iconst 0, 0, 0, 0, .null), some (.istore_n 1, 2, 0, 0, .null), some (.iload_n 1, 0, 0, 0, .null), some (.aload_n 0, 0, 0, 0, .null), some (.getfield 19, 6, 3, 0, .null), none, none, some (.if_icmp .ge 34, 0, 0, 0, .null), none, none, some (.aload_n 0, 0, 0, 0, .null), some (.getfield 9, 6, 0, 0, .null), none, none, some (.iload_n 1, 0, 0, 0, .null), some (.iaload, 0, 0, 0, .null), some (.bipush 100, 0, 0, 0, .null), none, some (.if_icmp .lt 17, 0, 0, 0, .null), none, none, some (.aload_n 0, 0, 0, 0, .null), some (.getfield 9, 6, 0, 0, .null), none, none, some (.iload_n 1, 0, 0, 0, .null), some (.iaload, 0, 0, 0, .null), some (.sipush 200, 0, 0, 0, .null), none, none, some (.if_icmp .ge 5, 0, 0, 0, .null), none, none, some (.iconst 1, 0, 0, 0, .null), some (.ireturn, 1, 0, 0, .null), some (.iinc 1 1, 2, 0, 0, .null), none, none, some (.goto (-36), 0, 0, 0, .null), none, none, some (.iconst 0, 0, 0, 0, .null), some (.ireturn, 1, 0, 0, .null)]
/-- MixMachine$Assembler.placeSymbols()V -/
def nC93 : List (Option mI) := [some (.iconst 0, 0, 0, 0, .null), some (.istore_n 1, 2, 0, 0, .null), some (.iload_n 1, 0, 0, 0, .null), some (.aload_n 0, 0, 0, 0, .null), some (.getfield 20, 4, 1, 0, .null), none, none, some (.getfield 60, 5, 2, 0, .null), none, none, some (.if_icmp .ge 40, 0, 0, 0, .null), none, none, some (.aload_n 0, 0, 0, 0, .null), some (.getfield 20, 4, 1, 0, .null), none, none, some (.getfield 159, 5, 1, 0, .null), none, none, some (.iload_n 1, 0, 0, 0, .null), some (.iaload, 0, 0, 0, .null), some (.iconst (-1), 0, 0, 0, .null), some (.if_icmp .ne 21, 0, 0, 0, .null), none, none, some (.aload_n 0, 0, 0, 0, .null), some (.iload_n 1, 0, 0, 0, .null), some (.aload_n 0, 0, 0, 0, .null), some (.getfield 67, 4, 8, 0, .null), none, none, some (.i2l, 0, 0, 0, .null), some (.invokestatic 99, 86, 1, 0, .null), none, none, some (.invokevirtual 114, 87, 3, 0, (.retAddr 4)), none, none, some (.aload_n 0, 0, 0, 0, .null), some (.iconst 0, 0, 0, 0, .null), some (.invokevirtual 212, 132, 2, 0, (.retAddr 4)), none, none, some (.iinc 1 1, 2, 0, 0, .null), none, none, some (.goto (-45), 0, 0, 0, .null), none, none, some (.return_, 0, 0, 0, .null)]
/-- MixMachine$Assembler.placeLiterals()V -/
def nC94 : List (Option mI) := [some (.iconst 0, 0, 0, 0, .null), some (.istore_n 1, 2, 0, 0, .null), some (.iload_n 1, 0, 0, 0, .null), some (.aload_n 0, 0, 0, 0, .null), some (.getfield 64, 4, 7, 0, .null), none, none, some (.if_icmp .ge 36, 0, 0, 0, .null), none, none, some (.aload_n 0, 0, 0, 0, .null), some (.sipush 200, 0, 0, 0, .null), none, none, some (.iload_n 1, 0, 0, 0, .null), some (.iadd, 0, 0, 0, .null), some (.aload_n 0, 0, 0, 0, .null), some (.getfield 67, 4, 8, 0, .null), none, none, some (.i2l, 0, 0, 0, .null), some (.invokestatic 99, 86, 1, 0, .null), none, none, some (.invokevirtual 131, 91, 3, 0, (.retAddr 4)), none, none, some (.aload_n 0, 0, 0, 0, .null), some (.aload_n 0, 0, 0, 0, .null), some (.getfield 38, 4, 5, 0, .null), none, none, some (.iload_n 1, 0, 0, 0, .null), some (.iaload, 0, 0, 0, .null), some (.invokevirtual 212, 132, 2, 0, (.retAddr 4)), none, none, some (.iinc 1 1, 2, 0, 0, .null), none, none, some (.goto (-38), 0, 0, 0, .null), none, none, some (.return_, 0, 0, 0, .null)]
/-- MixMachine$Symbols.copyFrom(LMixMachine$Symbols;)V -/
def nC95 : List (Option mI) := [some (.aload_n 1, 0, 0, 0, .null), some (.getfield 11, 5, 0, 0, .null), none, none, some (.iconst 0, 0, 0, 0, .null), some (.aload_n 0, 0, 0, 0, .null), some (.getfield 11, 5, 0, 0, .null), none, none, some (.iconst 0, 0, 0, 0, .null), some (.bipush 30, 0, 0, 0, .null), none, some (.invokestatic 23, 0, 0, 5, .null), none, none, some (.aload_n 1, 0, 0, 0, .null), some (.getfield 15, 5, 1, 0, .null), none, none, some (.iconst 0, 0, 0, 0, .null), some (.aload_n 0, 0, 0, 0, .null), some (.getfield 15, 5, 1, 0, .null), none, none, some (.iconst 0, 0, 0, 0, .null), some (.bipush 30, 0, 0, 0, .null), none, some (.invokestatic 23, 0, 0, 4, .null), none, none, some (.aload_n 0, 0, 0, 0, .null), some (.aload_n 1, 0, 0, 0, .null), some (.getfield 19, 5, 2, 0, .null), none, none, some (.putfield 19, 5, 2, 0, .null), none, none, some (.return_, 0, 0, 0, .null)]
/-- MixMachineModel.plain(I)Z -/
def nC96 : List (Option mI) := [some (.iload_n 0, 0, 0, 0, .null), some (.invokestatic 265, 139, 1, 0, .null), none, none, some (.ifCond .ne 14, 0, 0, 0, .null), none, none, some (.iload_n 0, 0, 0, 0, .null), some (.bipush 65, 0, 0, 0, .null), none, some (.bipush 90, 0, 0, 0, .null), none, some (.invokestatic 103, 36, 3, 0, .null), none, none, some (.ifCond .eq 7, 0, 0, 0, .null), none, none, some (.iconst 1, 0, 0, 0, .null), some (.goto 4, 0, 0, 0, .null), none, none, some (.iconst 0, 0, 0, 0, .null), some (.ireturn, 1, 0, 0, .null)]
/-- MixMachineModel.local(III)Z -/
def nC97 : List (Option mI) := [some (.iload_n 2, 0, 0, 0, .null), some (.iload_n 1, 0, 0, 0, .null), some (.isub, 0, 0, 0, .null), some (.iconst 2, 0, 0, 0, .null), some (.if_icmp .ne 31, 0, 0, 0, .null), none, none, some (.aload_n 0, 0, 0, 0, .null), some (.getfield 32, 7, 19, 0, .null), none, none, some (.iload_n 1, 0, 0, 0, .null), some (.iaload, 0, 0, 0, .null), some (.invokestatic 265, 139, 1, 0, .null), none, none, some (.ifCond .eq 19, 0, 0, 0, .null), none, none, some (.aload_n 0, 0, 0, 0, .null), some (.getfield 32, 7, 19, 0, .null), none, none, some (.iload_n 1, 0, 0, 0, .null), some (.iconst 1, 0, 0, 0, .null), some (.iadd, 0, 0, 0, .null), some (.iaload, 0, 0, 0, .null), some (.iload_n 3, 0, 0, 0, .null), some (.if_icmp .ne 7, 0, 0, 0, .null), none, none, some (.iconst 1, 0, 0, 0, .null), some (.goto 4, 0, 0, 0, .null), none, none, some (.iconst 0, 0, 0, 0, .null), some (.ireturn, 1, 0, 0, .null)]
/-- MixMachineModel.operation(II)I -/
def nC98_0 : List (Option mI) := [some (.iload_n 2, 0, 0, 0, .null), some (.iload_n 1, 0, 0, 0, .null), some (.isub, 0, 0, 0, .null), some (.bipush 6, 0, 0, 0, .null), none, some (.if_icmp .ge 12, 0, 0, 0, .null), none, none, some (.aload_n 0, 0, 0, 0, .null), some (.iload_n 1, 0, 0, 0, .null), some (.iload_n 2, 0, 0, 0, .null), some (.invokevirtual 283, 140, 3, 0, (.retAddr 7)), none, none, some (.goto 4, 0, 0, 0, .null), none, none, some (.lconst 0, 0, 0, 0, .null), some (.lstore_n 3, 12, 0, 0, .null), some (.lload_n 3, 0, 0, 0, .null), some (.invokestatic 421, 141, 1, 0, .null), none, none, some (.istore 5, 12, 0, 0, .null), none, some (.iload 5, 0, 0, 0, .null), none, some (.ifCond .ge 10, 0, 0, 0, .null), none, none, some (.lload_n 3, 0, 0, 0, .null), some (.invokestatic 424, 142, 1, 0, .null), none, none, some (.goto 5, 0, 0, 0, .null), none, none, some (.iload 5, 0, 0, 0, .null), none, some (.istore 5, 12, 0, 0, .null), none, some (.iload 5, 0, 0, 0, .null), none, some (.ifCond .lt 6, 0, 0, 0, .null), none, none, some (.iload 5, 0, 0, 0, .null), none, some (.ireturn, 0, 0, 0, .null), some (.lload_n 3, 0, 0, 0, .null), some (.ldc2_w 427, 0, 0, 0, (.long 65535)), none, none, some (.land, 0, 0, 0, .null), some (.l2i, 0, 0, 0, .null), some (.istore 6, 12, 0, 0, .null), none, some (.lload_n 3, 0, 0, 0, .null), some (.bipush 16, 0, 0, 0, .null), none, some (.lshr, 0, 0, 0, .null), some (.ldc2_w 257, 0, 0, 0, (.long 255)), none, none, some (.land, 0, 0, 0, .null), some (.l2i, 0, 0, 0, .null), some (.invokestatic 429, 143, 1, 0, .null), none, none, some (.istore 7, 12, 0, 0, .null), none, some (.iload 6, 0, 0, 0, .null), none, some (.sipush 17484, 0, 0, 0, .null), none, none, some (.if_icmp .ne 57, 0, 0, 0, .null), none, none, some (.iload 7, 0, 0, 0, .null), none, some (.ifCond .lt 52, 0, 0, 0, .null), none, none, some (.iload_n 2, 0, 0, 0, .null), some (.iload_n 1, 0, 0, 0, .null), some (.isub, 0, 0, 0, .null), some (.iconst 3, 0, 0, 0, .null), some (.if_icmp .eq 23, 0, 0, 0, .null), none, none, some (.iload_n 2, 0, 0, 0, .null), some (.iload_n 1, 0, 0, 0, .null), some (.isub, 0, 0, 0, .null), some (.iconst 4, 0, 0, 0, .null), some (.if_icmp .ne 38, 0, 0, 0, .null), none, none, some (.aload_n 0, 0, 0, 0, .null), some (.getfield 32, 7, 19, 0, .null), none, none, some (.iload_n 2, 0, 0, 0, .null), some (.iconst 1, 0, 0, 0, .null), some (.isub, 0, 0, 0, .null), some (.iaload, 0, 0, 0, .null), some (.bipush 78, 0, 0, 0, .null), none, some (.if_icmp .ne 25, 0, 0, 0, .null), none, none, some (.iload_n 2, 0, 0, 0, .null), some (.iload_n 1, 0, 0, 0, .null), some (.isub, 0, 0, 0, .null), some (.iconst 3, 0, 0, 0, .null), some (.if_icmp .ne 8, 0, 0, 0, .null), none, none, some (.bipush 8, 0, 0, 0, .null), none, some (.goto 5, 0, 0, 0, .null), none, none, some (.bipush 16, 0, 0, 0, .null), none, some (.iload 7, 0, 0, 0, .null), none, some (.iadd, 0, 0, 0, .null), some (.sipush 640, 0, 0, 0, .null), none, none, some (.iadd, 0, 0, 0, .null), some (.ireturn, 0, 0, 0, .null), some (.iload 6, 0, 0, 0, .null), none, some (.sipush 21587, 0, 0, 0, .null), none, none, some (.if_icmp .ne 25, 0, 0, 0, .null), none, none, some (.iload 7, 0, 0, 0, .null), none, some (.ifCond .lt 20, 0, 0, 0, .null), none, none, some (.iload_n 2, 0, 0, 0, .null), some (.iload_n 1, 0, 0, 0, .null), some (.isub, 0, 0, 0, .null), some (.iconst 3, 0, 0, 0, .null), some (.if_icmp .ne 13, 0, 0, 0, .null), none, none, some (.bipush 24, 0, 0, 0, .null), none, some (.iload 7, 0, 0, 0, .null), none, some (.iadd, 0, 0, 0, .null), some (.sipush 640, 0, 0, 0, .null), none, none, some (.iadd, 0, 0, 0, .null), some (.ireturn, 0, 0, 0, .null), some (.lload_n 3, 0, 0, 0, .null), some (.bipush 8, 0, 0, 0, .null), none, some (.lshr, 0, 0, 0, .null), some (.ldc2_w 257, 0, 0, 0, (.long 255)), none, none, some (.land, 0, 0, 0, .null), some (.l2i, 0, 0, 0, .null), some (.invokestatic 429, 143, 1, 0, .null), none, none, some (.istore 8, 12, 0, 0, .null), none, some (.lload_n 3, 0, 0, 0, .null), some (.ldc2_w 257, 0, 0, 0, (.long 255)), none, none, some (.land, 0, 0, 0, .null), some (.ldc2_w 432, 0, 0, 0, (.long 74)), none, none, some (.lcmp, 0, 0, 0, .null), some (.ifCond .ne 40, 0, 0, 0, .null), none, none, some (.iload 8, 0, 0, 0, .null), none, some (.ifCond .lt 35, 0, 0, 0, .null), none, none, some (.lload_n 3, 0, 0, 0, .null), some (.bipush 16, 0, 0, 0, .null), none, some (.lshr, 0, 0, 0, .null), some (.invokestatic 434, 144, 1, 0, .null), none]
def nC98_1 : List (Option mI) := [none, some (.ifCond .lt 25, 0, 0, 0, .null), none, none, some (.bipush 40, 0, 0, 0, .null), none, some (.iload 8, 0, 0, 0, .null), none, some (.iadd, 0, 0, 0, .null), some (.sipush 128, 0, 0, 0, .null), none, none, some (.lload_n 3, 0, 0, 0, .null), some (.bipush 16, 0, 0, 0, .null), none, some (.lshr, 0, 0, 0, .null), some (.invokestatic 434, 144, 1, 0, .null), none, none, some (.imul, 0, 0, 0, .null), some (.iadd, 0, 0, 0, .null), some (.sipush 8192, 0, 0, 0, .null), none, none, some (.iadd, 0, 0, 0, .null), some (.ireturn, 0, 0, 0, .null), some (.lload_n 3, 0, 0, 0, .null), some (.ldc2_w 437, 0, 0, 0, (.long 16777215)), none, none, some (.land, 0, 0, 0, .null), some (.l2i, 0, 0, 0, .null), some (.istore 9, 12, 0, 0, .null), none, some (.lload_n 3, 0, 0, 0, .null), some (.bipush 24, 0, 0, 0, .null), none, some (.lshr, 0, 0, 0, .null), some (.ldc2_w 257, 0, 0, 0, (.long 255)), none, none, some (.land, 0, 0, 0, .null), some (.l2i, 0, 0, 0, .null), some (.invokestatic 429, 143, 1, 0, .null), none, none, some (.istore 10, 12, 0, 0, .null), none, some (.iload_n 2, 0, 0, 0, .null), some (.iload_n 1, 0, 0, 0, .null), some (.isub, 0, 0, 0, .null), some (.iconst 4, 0, 0, 0, .null), some (.if_icmp .ne 8, 0, 0, 0, .null), none, none, some (.iload 10, 0, 0, 0, .null), none, some (.ifCond .ge 5, 0, 0, 0, .null), none, none, some (.iconst (-1), 0, 0, 0, .null), some (.ireturn, 0, 0, 0, .null), some (.iload 9, 0, 0, 0, .null), none, some (.ldc_w 439, 0, 0, 0, (.int 4410953)), none, none, some (.if_icmp .ne 7, 0, 0, 0, .null), none, none, some (.iconst 0, 0, 0, 0, .null), some (.goto 40, 0, 0, 0, .null), none, none, some (.iload 9, 0, 0, 0, .null), none, some (.ldc_w 440, 0, 0, 0, (.int 4408644)), none, none, some (.if_icmp .ne 7, 0, 0, 0, .null), none, none, some (.iconst 1, 0, 0, 0, .null), some (.goto 28, 0, 0, 0, .null), none, none, some (.iload 9, 0, 0, 0, .null), none, some (.ldc_w 441, 0, 0, 0, (.int 5525061)), none, none, some (.if_icmp .ne 7, 0, 0, 0, .null), none, none, some (.iconst 2, 0, 0, 0, .null), some (.goto 16, 0, 0, 0, .null), none, none, some (.iload 9, 0, 0, 0, .null), none, some (.ldc_w 442, 0, 0, 0, (.int 5131845)), none, none, some (.if_icmp .ne 7, 0, 0, 0, .null), none, none, some (.iconst 3, 0, 0, 0, .null), some (.goto 4, 0, 0, 0, .null), none, none, some (.iconst (-1), 0, 0, 0, .null), some (.istore 11, 12, 0, 0, .null), none, some (.iload 11, 0, 0, 0, .null), none, some (.ifCond .lt 20, 0, 0, 0, .null), none, none, some (.bipush 48, 0, 0, 0, .null), none, some (.iload 10, 0, 0, 0, .null), none, some (.iadd, 0, 0, 0, .null), some (.sipush 128, 0, 0, 0, .null), none, none, some (.iload 11, 0, 0, 0, .null), none, some (.imul, 0, 0, 0, .null), some (.iadd, 0, 0, 0, .null), some (.sipush 8192, 0, 0, 0, .null), none, none, some (.iadd, 0, 0, 0, .null), some (.ireturn, 0, 0, 0, .null), some (.iload 9, 0, 0, 0, .null), none, some (.ldc_w 443, 0, 0, 0, (.int 5262659)), none, none, some (.if_icmp .ne 15, 0, 0, 0, .null), none, none, some (.bipush 56, 0, 0, 0, .null), none, some (.iload 10, 0, 0, 0, .null), none, some (.iadd, 0, 0, 0, .null), some (.sipush 640, 0, 0, 0, .null), none, none, some (.iadd, 0, 0, 0, .null), some (.goto 4, 0, 0, 0, .null), none, none, some (.iconst (-1), 0, 0, 0, .null), some (.ireturn, 0, 0, 0, .null)]
def nC98 : List (Option mI) := nC98_0 ++ (nC98_1)
/-- MixMachineModel.isSymbol(II)Z -/
def nC99 : List (Option mI) := [some (.iconst 0, 0, 0, 0, .null), some (.istore_n 3, 5, 0, 0, .null), some (.iload_n 1, 0, 0, 0, .null), some (.istore 4, 5, 0, 0, .null), none, some (.iload 4, 0, 0, 0, .null), none, some (.iload_n 2, 0, 0, 0, .null), some (.if_icmp .ge 32, 0, 0, 0, .null), none, none, some (.iload_n 3, 0, 0, 0, .null), some (.ifCond .ne 16, 0, 0, 0, .null), none, none, some (.aload_n 0, 0, 0, 0, .null), some (.getfield 32, 7, 19, 0, .null), none, none, some (.iload 4, 0, 0, 0, .null), none, some (.iaload, 0, 0, 0, .null), some (.invokestatic 265, 139, 1, 0, .null), none, none, some (.ifCond .ne 7, 0, 0, 0, .null), none, none, some (.iconst 1, 0, 0, 0, .null), some (.goto 4, 0, 0, 0, .null), none, none, some (.iconst 0, 0, 0, 0, .null), some (.istore_n 3, 5, 0, 0, .null), some (.iinc 4 1, 5, 0, 0, .null), none, none, some (.goto (-32), 0, 0, 0, .null), none, none, some (.iload_n 3, 0, 0, 0, .null), some (.ifCond .eq 48, 0, 0, 0, .null), none, none, some (.iload_n 2, 0, 0, 0, .null), some (.iload_n 1, 0, 0, 0, .null), some (.isub, 0, 0, 0, .null), some (.bipush 7, 0, 0, 0, .null), none, some (.if_icmp .ge 40, 0, 0, 0, .null), none, none, some (.aload_n 0, 0, 0, 0, .null), some (.iload_n 1, 0, 0, 0, .null), some (.iload_n 2, 0, 0, 0, .null), some (.bipush 72, 0, 0, 0, .null), none, some (.invokevirtual 277, 97, 4, 0, (.retAddr 7)), none, none, some (.ifCond .ne 29, 0, 0, 0, .null), none, none, some (.aload_n 0, 0, 0, 0, .null), some (.iload_n 1, 0, 0, 0, .null), some (.iload_n 2, 0, 0, 0, .null), some (.bipush 66, 0, 0, 0, .null), none, some (.invokevirtual 277, 97, 4, 0, (.retAddr 7)), none, none, some (.ifCond .ne 18, 0, 0, 0, .null), none, none, some (.aload_n 0, 0, 0, 0, .null), some (.iload_n 1, 0, 0, 0, .null), some (.iload_n 2, 0, 0, 0, .null), some (.bipush 70, 0, 0, 0, .null), none, some (.invokevirtual 277, 97, 4, 0, (.retAddr 7)), none, none, some (.ifCond .ne 7, 0, 0, 0, .null), none, none, some (.iconst 1, 0, 0, 0, .null), some (.goto 4, 0, 0, 0, .null), none, none, some (.iconst 0, 0, 0, 0, .null), some (.ireturn, 1, 0, 0, .null)]
/-- MixMachineModel.symbolAt(II)I -/
def nC100 : List (Option mI) := [some (.aload_n 0, 0, 0, 0, .null), some (.aload_n 0, 0, 0, 0, .null), some (.iload_n 1, 0, 0, 0, .null), some (.iload_n 2, 0, 0, 0, .null), some (.invokevirtual 283, 140, 3, 0, (.retAddr 7)), none, none, some (.invokevirtual 287, 145, 2, 0, (.retAddr 7)), none, none, some (.istore_n 3, 4, 0, 0, .null), some (.iload_n 3, 0, 0, 0, .null), some (.ifCond .lt 5, 0, 0, 0, .null), none, none, some (.iload_n 3, 0, 0, 0, .null), some (.ireturn, 0, 0, 0, .null), some (.aload_n 0, 0, 0, 0, .null), some (.getfield 280, 7, 29, 0, .null), none, none, some (.bipush 30, 0, 0, 0, .null), none, some (.if_icmp .ne 9, 0, 0, 0, .null), none, none, some (.aload_n 0, 0, 0, 0, .null), some (.invokevirtual 291, 40, 1, 0, (.retAddr 7)), none, none, some (.iconst 0, 0, 0, 0, .null), some (.ireturn, 0, 0, 0, .null), some (.aload_n 0, 0, 0, 0, .null), some (.getfield 45, 7, 30, 0, .null), none, none, some (.aload_n 0, 0, 0, 0, .null), some (.getfield 280, 7, 29, 0, .null), none, none, some (.aload_n 0, 0, 0, 0, .null), some (.iload_n 1, 0, 0, 0, .null), some (.iload_n 2, 0, 0, 0, .null), some (.invokevirtual 283, 140, 3, 0, (.retAddr 7)), none, none, some (.lastore, 0, 0, 0, .null), some (.aload_n 0, 0, 0, 0, .null), some (.getfield 49, 7, 31, 0, .null), none, none, some (.aload_n 0, 0, 0, 0, .null), some (.getfield 280, 7, 29, 0, .null), none, none, some (.iconst 0, 0, 0, 0, .null), some (.bastore, 0, 0, 0, .null), some (.aload_n 0, 0, 0, 0, .null), some (.dup, 0, 0, 0, .null), some (.getfield 280, 7, 29, 0, .null), none, none, some (.iconst 1, 0, 0, 0, .null), some (.iadd, 0, 0, 0, .null), some (.putfield 280, 7, 29, 0, .null), none, none, some (.aload_n 0, 0, 0, 0, .null), some (.getfield 280, 7, 29, 0, .null), none, none, some (.iconst 1, 0, 0, 0, .null), some (.isub, 0, 0, 0, .null), some (.ireturn, 0, 0, 0, .null)]
/-- MixMachineModel.ofValue(I)I -/
def nC101 : List (Option mI) := [some (.iload_n 0, 0, 0, 0, .null), some (.ifCond .ge 8, 0, 0, 0, .null), none, none, some (.iload_n 0, 0, 0, 0, .null), some (.ineg, 0, 0, 0, .null), some (.goto 4, 0, 0, 0, .null), none, none, some (.iload_n 0, 0, 0, 0, .null), some (.iload_n 0, 0, 0, 0, .null), some (.ifCond .ge 7, 0, 0, 0, .null), none, none, some (.iconst 1, 0, 0, 0, .null), some (.goto 4, 0, 0, 0, .null), none, none, some (.iconst 0, 0, 0, 0, .null), some (.invokestatic 93, 146, 2, 0, .null), none, none, some (.ireturn, 0, 0, 0, .null)]
/-- MixMachineModel.define(II)V -/
def nC102 : List (Option mI) := [some (.aload_n 0, 0, 0, 0, .null), some (.getfield 49, 7, 31, 0, .null), none, none, some (.iload_n 1, 0, 0, 0, .null), some (.iconst 1, 0, 0, 0, .null), some (.bastore, 0, 0, 0, .null), some (.aload_n 0, 0, 0, 0, .null), some (.getfield 52, 7, 32, 0, .null), none, none, some (.iload_n 1, 0, 0, 0, .null), some (.iload_n 2, 0, 0, 0, .null), some (.iastore, 0, 0, 0, .null), some (.aload_n 0, 0, 0, 0, .null), some (.iconst 0, 0, 0, 0, .null), some (.iload_n 1, 0, 0, 0, .null), some (.iload_n 2, 0, 0, 0, .null), some (.aload_n 0, 0, 0, 0, .null), some (.getfield 329, 7, 37, 0, .null), none, none, some (.invokevirtual 333, 105, 5, 0, (.retAddr 7)), none, none, some (.return_, 0, 0, 0, .null)]
/-- MixMachineModel.instruction(I)V -/
def nC103 : List (Option mI) := [some (.iload_n 1, 0, 0, 0, .null), some (.sipush 128, 0, 0, 0, .null), none, none, some (.idiv, 0, 0, 0, .null), some (.bipush 64, 0, 0, 0, .null), none, some (.irem, 0, 0, 0, .null), some (.istore_n 2, 6, 0, 0, .null), some (.aload_n 0, 0, 0, 0, .null), some (.invokevirtual 456, 147, 1, 0, (.retAddr 7)), none, none, some (.istore_n 3, 6, 0, 0, .null), some (.iconst 0, 0, 0, 0, .null), some (.istore 4, 6, 0, 0, .null), none, some (.aload_n 0, 0, 0, 0, .null), some (.getfield 262, 7, 23, 0, .null), none, none, some (.ifCond .ne 44, 0, 0, 0, .null), none, none, some (.aload_n 0, 0, 0, 0, .null), some (.invokevirtual 296, 148, 1, 0, (.retAddr 7)), none, none, some (.bipush 44, 0, 0, 0, .null), none, some (.if_icmp .ne 35, 0, 0, 0, .null), none, none, some (.aload_n 0, 0, 0, 0, .null), some (.dup, 0, 0, 0, .null), some (.getfield 268, 7, 21, 0, .null), none, none, some (.iconst 1, 0, 0, 0, .null), some (.iadd, 0, 0, 0, .null), some (.putfield 268, 7, 21, 0, .null), none, none, some (.aload_n 0, 0, 0, 0, .null), some (.invokevirtual 320, 149, 1, 0, (.retAddr 7)), none, none, some (.istore 4, 6, 0, 0, .null), none, some (.iload 4, 0, 0, 0, .null), none, some (.ifCond .lt 10, 0, 0, 0, .null), none, none, some (.iload 4, 0, 0, 0, .null), none, some (.bipush 6, 0, 0, 0, .null), none, some (.if_icmp .le 7, 0, 0, 0, .null), none, none, some (.aload_n 0, 0, 0, 0, .null), some (.invokevirtual 291, 40, 1, 0, (.retAddr 7)), none, none, some (.aload_n 0, 0, 0, 0, .null), some (.getfield 262, 7, 23, 0, .null), none, none, some (.ifCond .ne 54, 0, 0, 0, .null), none, none, some (.aload_n 0, 0, 0, 0, .null), some (.invokevirtual 296, 148, 1, 0, (.retAddr 7)), none, none, some (.bipush 40, 0, 0, 0, .null), none, some (.if_icmp .ne 45, 0, 0, 0, .null), none, none, some (.aload_n 0, 0, 0, 0, .null), some (.dup, 0, 0, 0, .null), some (.getfield 268, 7, 21, 0, .null), none, none, some (.iconst 1, 0, 0, 0, .null), some (.iadd, 0, 0, 0, .null), some (.putfield 268, 7, 21, 0, .null), none, none, some (.aload_n 0, 0, 0, 0, .null), some (.invokevirtual 320, 149, 1, 0, (.retAddr 7)), none, none, some (.istore_n 2, 6, 0, 0, .null), some (.aload_n 0, 0, 0, 0, .null), some (.bipush 41, 0, 0, 0, .null), none, some (.invokevirtual 323, 150, 2, 0, (.retAddr 7)), none, none, some (.iload_n 2, 0, 0, 0, .null), some (.ifCond .lt 16, 0, 0, 0, .null), none, none, some (.iload_n 2, 0, 0, 0, .null), some (.bipush 63, 0, 0, 0, .null), none, some (.if_icmp .gt 10, 0, 0, 0, .null), none, none, some (.iload_n 1, 0, 0, 0, .null), some (.sipush 8192, 0, 0, 0, .null), none, none, some (.if_icmp .lt 7, 0, 0, 0, .null), none, none, some (.aload_n 0, 0, 0, 0, .null), some (.invokevirtual 291, 40, 1, 0, (.retAddr 7)), none, none, some (.aload_n 0, 0, 0, 0, .null), some (.getfield 268, 7, 21, 0, .null), none, none, some (.aload_n 0, 0, 0, 0, .null), some (.getfield 271, 7, 22, 0, .null), none, none, some (.if_icmp .eq 7, 0, 0, 0, .null), none, none, some (.aload_n 0, 0, 0, 0, .null), some (.invokevirtual 291, 40, 1, 0, (.retAddr 7)), none, none, some (.aload_n 0, 0, 0, 0, .null), some (.getfield 262, 7, 23, 0, .null), none, none, some (.ifCond .eq 4, 0, 0, 0, .null), none, none, some (.return_, 0, 0, 0, .null), some (.iload_n 3, 0, 0, 0, .null), some (.invokestatic 326, 101, 1, 0, .null), none, none, some (.istore 5, 6, 0, 0, .null), none, some (.aload_n 0, 0, 0, 0, .null), some (.aload_n 0, 0, 0, 0, .null), some (.getfield 300, 7, 24, 0, .null), none, none, some (.iload 5, 0, 0, 0, .null), none, some (.invokestatic 89, 70, 1, 0, .null), none, none, some (.bipush 18, 0, 0, 0, .null), none, some (.ishl, 0, 0, 0, .null), some (.iload 4, 0, 0, 0, .null), none, some (.bipush 12, 0, 0, 0, .null), none, some (.ishl, 0, 0, 0, .null), some (.ior, 0, 0, 0, .null), some (.iload_n 2, 0, 0, 0, .null), some (.bipush 6, 0, 0, 0, .null), none, some (.ishl, 0, 0, 0, .null), some (.ior, 0, 0, 0, .null), some (.iload_n 1, 0, 0, 0, .null), some (.sipush 128, 0, 0, 0, .null), none, none, some (.irem, 0, 0, 0, .null), some (.ior, 0, 0, 0, .null), some (.iload 5, 0, 0, 0, .null), none, some (.invokestatic 85, 73, 1, 0, .null), none, none, some (.invokestatic 93, 146, 2, 0, .null), none, none, some (.invokevirtual 459, 151, 3, 0, (.retAddr 7)), none, none, some (.aload_n 0, 0, 0, 0, .null), some (.dup, 0, 0, 0, .null), some (.getfield 300, 7, 24, 0, .null), none, none, some (.iconst 1, 0, 0, 0, .null), some (.iadd, 0, 0, 0, .null), some (.putfield 300, 7, 24, 0, .null), none, none, some (.return_, 0, 0, 0, .null)]
/-- MixMachineModel.directive(II)I -/
def nC104 : List (Option mI) := [some (.aload_n 0, 0, 0, 0, .null), some (.invokevirtual 444, 152, 1, 0, (.retAddr 7)), none, none, some (.istore_n 3, 4, 0, 0, .null), some (.aload_n 0, 0, 0, 0, .null), some (.getfield 268, 7, 21, 0, .null), none, none, some (.aload_n 0, 0, 0, 0, .null), some (.getfield 271, 7, 22, 0, .null), none, none, some (.if_icmp .eq 7, 0, 0, 0, .null), none, none, some (.aload_n 0, 0, 0, 0, .null), some (.invokevirtual 291, 40, 1, 0, (.retAddr 7)), none, none, some (.aload_n 0, 0, 0, 0, .null), some (.getfield 262, 7, 23, 0, .null), none, none, some (.ifCond .eq 5, 0, 0, 0, .null), none, none, some (.iconst 0, 0, 0, 0, .null), some (.ireturn, 0, 0, 0, .null), some (.iload_n 1, 0, 0, 0, .null), some (.bipush 101, 0, 0, 0, .null), none, some (.if_icmp .ne 11, 0, 0, 0, .null), none, none, some (.aload_n 0, 0, 0, 0, .null), some (.iload_n 3, 0, 0, 0, .null), some (.invokestatic 154, 74, 1, 0, .null), none, none, some (.putfield 300, 7, 24, 0, .null), none, none, some (.iload_n 1, 0, 0, 0, .null), some (.bipush 102, 0, 0, 0, .null), none, some (.if_icmp .ne 22, 0, 0, 0, .null), none, none, some (.aload_n 0, 0, 0, 0, .null), some (.aload_n 0, 0, 0, 0, .null), some (.getfield 300, 7, 24, 0, .null), none, none, some (.iload_n 3, 0, 0, 0, .null), some (.invokevirtual 459, 151, 3, 0, (.retAddr 7)), none, none, some (.aload_n 0, 0, 0, 0, .null), some (.dup, 0, 0, 0, .null), some (.getfield 300, 7, 24, 0, .null), none, none, some (.iconst 1, 0, 0, 0, .null), some (.iadd, 0, 0, 0, .null), some (.putfield 300, 7, 24, 0, .null), none, none, some (.iload_n 1, 0, 0, 0, .null), some (.bipush 103, 0, 0, 0, .null), none, some (.if_icmp .ne 37, 0, 0, 0, .null), none, none, some (.aload_n 0, 0, 0, 0, .null), some (.iload_n 3, 0, 0, 0, .null), some (.invokestatic 154, 74, 1, 0, .null), none, none, some (.putfield 477, 7, 25, 0, .null), none, none, some (.aload_n 0, 0, 0, 0, .null), some (.aload_n 0, 0, 0, 0, .null), some (.getfield 477, 7, 25, 0, .null), none, none, some (.invokevirtual 107, 46, 2, 0, (.retAddr 7)), none, none, some (.ifCond .ne 7, 0, 0, 0, .null), none, none, some (.aload_n 0, 0, 0, 0, .null), some (.invokevirtual 291, 40, 1, 0, (.retAddr 7)), none, none, some (.aload_n 0, 0, 0, 0, .null), some (.getfield 262, 7, 23, 0, .null), none, none, some (.ifCond .ne 7, 0, 0, 0, .null), none, none, some (.aload_n 0, 0, 0, 0, .null), some (.invokevirtual 480, 153, 1, 0, (.retAddr 7)), none, none, some (.iload_n 1, 0, 0, 0, .null), some (.bipush 100, 0, 0, 0, .null), none, some (.if_icmp .ne 7, 0, 0, 0, .null), none, none, some (.iload_n 3, 0, 0, 0, .null), some (.goto 4, 0, 0, 0, .null), none, none, some (.iload_n 2, 0, 0, 0, .null), some (.ireturn, 0, 0, 0, .null)]
/-- MixMachineModel.settle(IIII)V -/
def nC105 : List (Option mI) := [some (.iconst 0, 0, 0, 0, .null), some (.istore 5, 6, 0, 0, .null), none, some (.iload 5, 0, 0, 0, .null), none, some (.iload 4, 0, 0, 0, .null), none, some (.if_icmp .ge 119, 0, 0, 0, .null), none, none, some (.aload_n 0, 0, 0, 0, .null), some (.getfield 262, 7, 23, 0, .null), none, none, some (.ifCond .ne 112, 0, 0, 0, .null), none, none, some (.aload_n 0, 0, 0, 0, .null), some (.getfield 73, 7, 41, 0, .null), none, none, some (.iload 5, 0, 0, 0, .null), none, some (.baload, 0, 0, 0, .null), some (.ifCond .eq 96, 0, 0, 0, .null), none, none, some (.aload_n 0, 0, 0, 0, .null), some (.getfield 64, 7, 38, 0, .null), none, none, some (.iload 5, 0, 0, 0, .null), none, some (.iaload, 0, 0, 0, .null), some (.iload_n 1, 0, 0, 0, .null), some (.if_icmp .ne 85, 0, 0, 0, .null), none, none, some (.aload_n 0, 0, 0, 0, .null), some (.getfield 67, 7, 39, 0, .null), none, none, some (.iload 5, 0, 0, 0, .null), none, some (.iaload, 0, 0, 0, .null), some (.iload_n 2, 0, 0, 0, .null), some (.if_icmp .ne 74, 0, 0, 0, .null), none, none, some (.aload_n 0, 0, 0, 0, .null), some (.getfield 73, 7, 41, 0, .null), none, none, some (.iload 5, 0, 0, 0, .null), none, some (.iconst 0, 0, 0, 0, .null), some (.bastore, 0, 0, 0, .null), some (.iload_n 3, 0, 0, 0, .null), some (.invokestatic 89, 70, 1, 0, .null), none, none, some (.sipush 4096, 0, 0, 0, .null), none, none, some (.if_icmp .lt 10, 0, 0, 0, .null), none, none, some (.aload_n 0, 0, 0, 0, .null), some (.invokevirtual 291, 40, 1, 0, (.retAddr 7)), none, none, some (.goto 49, 0, 0, 0, .null), none, none, some (.aload_n 0, 0, 0, 0, .null), some (.getfield 38, 7, 27, 0, .null), none, none, some (.aload_n 0, 0, 0, 0, .null), some (.getfield 70, 7, 40, 0, .null), none, none, some (.iload 5, 0, 0, 0, .null), none, some (.iaload, 0, 0, 0, .null), some (.iload_n 3, 0, 0, 0, .null), some (.invokestatic 89, 70, 1, 0, .null), none, none, some (.bipush 18, 0, 0, 0, .null), none, some (.ishl, 0, 0, 0, .null), some (.aload_n 0, 0, 0, 0, .null), some (.getfield 38, 7, 27, 0, .null), none, none, some (.aload_n 0, 0, 0, 0, .null), some (.getfield 70, 7, 40, 0, .null), none, none, some (.iload 5, 0, 0, 0, .null), none, some (.iaload, 0, 0, 0, .null), some (.iaload, 0, 0, 0, .null), some (.invokestatic 89, 70, 1, 0, .null), none, none, some (.ldc_w 332, 0, 0, 0, (.int 262143)), none, none, some (.iand, 0, 0, 0, .null), some (.ior, 0, 0, 0, .null), some (.iload_n 3, 0, 0, 0, .null), some (.invokestatic 85, 73, 1, 0, .null), none, none, some (.invokestatic 93, 146, 2, 0, .null), none, none, some (.iastore, 0, 0, 0, .null), some (.iinc 5 1, 6, 0, 0, .null), none, none, some (.goto (-120), 0, 0, 0, .null), none, none, some (.return_, 0, 0, 0, .null)]
/-- MixMachine$Processor.decode(I)V -/
def nC106 : List (Option mI) := [some (.iload_n 1, 0, 0, 0, .null), some (.invokestatic 56, 138, 1, 0, .null), none, none, some (.istore_n 2, 4, 0, 0, .null), some (.aload_n 0, 0, 0, 0, .null), some (.iload_n 2, 0, 0, 0, .null), some (.bipush 63, 0, 0, 0, .null), none, some (.iand, 0, 0, 0, .null), some (.putfield 62, 2, 10, 0, .null), none, none, some (.aload_n 0, 0, 0, 0, .null), some (.iload_n 2, 0, 0, 0, .null), some (.bipush 6, 0, 0, 0, .null), none, some (.ishr, 0, 0, 0, .null), some (.bipush 63, 0, 0, 0, .null), none, some (.iand, 0, 0, 0, .null), some (.putfield 65, 2, 11, 0, .null), none, none, some (.aload_n 0, 0, 0, 0, .null), some (.iload_n 2, 0, 0, 0, .null), some (.bipush 12, 0, 0, 0, .null), none, some (.ishr, 0, 0, 0, .null), some (.bipush 63, 0, 0, 0, .null), none, some (.iand, 0, 0, 0, .null), some (.putfield 47, 2, 12, 0, .null), none, none, some (.iload_n 1, 0, 0, 0, .null), some (.iconst 2, 0, 0, 0, .null), some (.invokestatic 68, 154, 2, 0, .null), none, none, some (.istore_n 3, 4, 0, 0, .null), some (.aload_n 0, 0, 0, 0, .null), some (.iload_n 3, 0, 0, 0, .null), some (.invokestatic 72, 136, 1, 0, .null), none, none, some (.putfield 75, 2, 13, 0, .null), none, none, some (.aload_n 0, 0, 0, 0, .null), some (.iload_n 3, 0, 0, 0, .null), some (.putfield 78, 2, 14, 0, .null), none, none, some (.aload_n 0, 0, 0, 0, .null), some (.getfield 47, 2, 12, 0, .null), none, none, some (.ifCond .le 45, 0, 0, 0, .null), none, none, some (.aload_n 0, 0, 0, 0, .null), some (.getfield 47, 2, 12, 0, .null), none, none, some (.bipush 6, 0, 0, 0, .null), none, some (.if_icmp .gt 36, 0, 0, 0, .null), none, none, some (.aload_n 0, 0, 0, 0, .null), some (.dup, 0, 0, 0, .null), some (.getfield 75, 2, 13, 0, .null), none, none, some (.aload_n 0, 0, 0, 0, .null), some (.getfield 19, 2, 2, 0, .null), none, none, some (.aload_n 0, 0, 0, 0, .null), some (.getfield 47, 2, 12, 0, .null), none, none, some (.iaload, 0, 0, 0, .null), some (.invokestatic 72, 136, 1, 0, .null), none, none, some (.iadd, 0, 0, 0, .null), some (.putfield 75, 2, 13, 0, .null), none, none, some (.aload_n 0, 0, 0, 0, .null), some (.aload_n 0, 0, 0, 0, .null), some (.getfield 75, 2, 13, 0, .null), none, none, some (.i2l, 0, 0, 0, .null), some (.invokestatic 81, 86, 1, 0, .null), none, none, some (.putfield 78, 2, 14, 0, .null), none, none, some (.aload_n 0, 0, 0, 0, .null), some (.aload_n 0, 0, 0, 0, .null), some (.getfield 26, 2, 5, 0, .null), none, none, some (.iconst 1, 0, 0, 0, .null), some (.iadd, 0, 0, 0, .null), some (.putfield 53, 2, 9, 0, .null), none, none, some (.return_, 0, 0, 0, .null)]
/-- MixMachine$Processor.mustWait()Z -/
def nC107 : List (Option mI) := [some (.aload_n 0, 0, 0, 0, .null), some (.getfield 62, 2, 10, 0, .null), none, none, some (.bipush 35, 0, 0, 0, .null), none, some (.if_icmp .lt 39, 0, 0, 0, .null), none, none, some (.aload_n 0, 0, 0, 0, .null), some (.getfield 62, 2, 10, 0, .null), none, none, some (.bipush 37, 0, 0, 0, .null), none, some (.if_icmp .gt 30, 0, 0, 0, .null), none, none, some (.aload_n 0, 0, 0, 0, .null), some (.getfield 15, 2, 1, 0, .null), none, none, some (.aload_n 0, 0, 0, 0, .null), some (.getfield 65, 2, 11, 0, .null), none, none, some (.invokestatic 85, 155, 1, 0, .null), none, none, some (.aload_n 0, 0, 0, 0, .null), some (.getfield 44, 2, 7, 0, .null), none, none, some (.iconst 1, 0, 0, 0, .null), some (.iadd, 0, 0, 0, .null), some (.invokevirtual 90, 156, 3, 0, (.retAddr 1)), none, none, some (.ifCond .eq 7, 0, 0, 0, .null), none, none, some (.iconst 1, 0, 0, 0, .null), some (.goto 4, 0, 0, 0, .null), none, none, some (.iconst 0, 0, 0, 0, .null), some (.ireturn, 1, 0, 0, .null)]
/-- MixMachine$Processor.execute()Z -/
def nC108 : List (Option mI) := [some (.aload_n 0, 0, 0, 0, .null), some (.getfield 62, 2, 10, 0, .null), none, none, some (.iconst 4, 0, 0, 0, .null), some (.if_icmp .gt 23, 0, 0, 0, .null), none, none, some (.aload_n 0, 0, 0, 0, .null), some (.getfield 62, 2, 10, 0, .null), none, none, some (.ifCond .eq 10, 0, 0, 0, .null), none, none, some (.aload_n 0, 0, 0, 0, .null), some (.invokevirtual 94, 157, 1, 0, (.retAddr 2)), none, none, some (.ifCond .eq 7, 0, 0, 0, .null), none, none, some (.iconst 1, 0, 0, 0, .null), some (.goto 4, 0, 0, 0, .null), none, none, some (.iconst 0, 0, 0, 0, .null), some (.ireturn, 1, 0, 0, .null), some (.aload_n 0, 0, 0, 0, .null), some (.getfield 62, 2, 10, 0, .null), none, none, some (.bipush 7, 0, 0, 0, .null), none, some (.if_icmp .gt 39, 0, 0, 0, .null), none, none, some (.aload_n 0, 0, 0, 0, .null), some (.getfield 62, 2, 10, 0, .null), none, none, some (.iconst 5, 0, 0, 0, .null), some (.if_icmp .ne 10, 0, 0, 0, .null), none, none, some (.aload_n 0, 0, 0, 0, .null), some (.invokevirtual 97, 158, 1, 0, (.retAddr 2)), none, none, some (.goto 23, 0, 0, 0, .null), none, none, some (.aload_n 0, 0, 0, 0, .null), some (.getfield 62, 2, 10, 0, .null), none, none, some (.bipush 6, 0, 0, 0, .null), none, some (.if_icmp .ne 10, 0, 0, 0, .null), none, none, some (.aload_n 0, 0, 0, 0, .null), some (.invokevirtual 100, 159, 1, 0, (.retAddr 2)), none, none, some (.goto 7, 0, 0, 0, .null), none, none, some (.aload_n 0, 0, 0, 0, .null), some (.invokevirtual 103, 160, 1, 0, (.retAddr 2)), none, none, some (.ireturn, 1, 0, 0, .null), some (.aload_n 0, 0, 0, 0, .null), some (.getfield 62, 2, 10, 0, .null), none, none, some (.bipush 23, 0, 0, 0, .null), none, some (.if_icmp .gt 8, 0, 0, 0, .null), none, none, some (.aload_n 0, 0, 0, 0, .null), some (.invokevirtual 106, 161, 1, 0, (.retAddr 2)), none, none, some (.ireturn, 1, 0, 0, .null), some (.aload_n 0, 0, 0, 0, .null), some (.getfield 62, 2, 10, 0, .null), none, none, some (.bipush 33, 0, 0, 0, .null), none, some (.if_icmp .gt 8, 0, 0, 0, .null), none, none, some (.aload_n 0, 0, 0, 0, .null), some (.invokevirtual 109, 162, 1, 0, (.retAddr 2)), none, none, some (.ireturn, 1, 0, 0, .null), some (.aload_n 0, 0, 0, 0, .null), some (.getfield 62, 2, 10, 0, .null), none, none, some (.bipush 38, 0, 0, 0, .null), none, some (.if_icmp .gt 8, 0, 0, 0, .null), none, none, some (.aload_n 0, 0, 0, 0, .null), some (.invokevirtual 112, 163, 1, 0, (.retAddr 2)), none, none, some (.ireturn, 1, 0, 0, .null), some (.aload_n 0, 0, 0, 0, .null), some (.getfield 62, 2, 10, 0, .null), none, none, some (.bipush 47, 0, 0, 0, .null), none, some (.if_icmp .gt 24, 0, 0, 0, .null), none, none, some (.aload_n 0, 0, 0, 0, .null), some (.getfield 62, 2, 10, 0, .null), none, none, some (.bipush 39, 0, 0, 0, .null), none, some (.if_icmp .ne 10, 0, 0, 0, .null), none, none, some (.aload_n 0, 0, 0, 0, .null), some (.invokevirtual 115, 164, 1, 0, (.retAddr 2)), none, none, some (.goto 7, 0, 0, 0, .null), none, none, some (.aload_n 0, 0, 0, 0, .null), some (.invokevirtual 118, 165, 1, 0, (.retAddr 2)), none, none, some (.ireturn, 1, 0, 0, .null), some (.aload_n 0, 0, 0, 0, .null), some (.getfield 62, 2, 10, 0, .null), none, none, some (.bipush 55, 0, 0, 0, .null), none, some (.if_icmp .gt 10, 0, 0, 0, .null), none, none, some (.aload_n 0, 0, 0, 0, .null), some (.invokevirtual 121, 166, 1, 0, (.retAddr 2)), none, none, some (.goto 7, 0, 0, 0, .null), none, none, some (.aload_n 0, 0, 0, 0, .null), some (.invokevirtual 124, 167, 1, 0, (.retAddr 2)), none, none, some (.ireturn, 1, 0, 0, .null)]
/-- MixMachineModel.touches(III)V -/
def nC109 : List (Option mI) := [some (.aload_n 0, 0, 0, 0, .null), some (.iload_n 2, 0, 0, 0, .null), some (.invokestatic 205, 168, 1, 0, .null), none, none, some (.ifCond .eq 15, 0, 0, 0, .null), none, none, some (.aload_n 0, 0, 0, 0, .null), some (.iload_n 3, 0, 0, 0, .null), some (.invokevirtual 107, 46, 2, 0, (.retAddr 7)), none, none, some (.ifCond .eq 7, 0, 0, 0, .null), none, none, some (.iconst 1, 0, 0, 0, .null), some (.goto 4, 0, 0, 0, .null), none, none, some (.iconst 0, 0, 0, 0, .null), some (.invokevirtual 120, 113, 2, 0, (.retAddr 7)), none, none, some (.aload_n 0, 0, 0, 0, .null), some (.getfield 110, 7, 4, 0, .null), none, none, some (.ifCond .eq 4, 0, 0, 0, .null), none, none, some (.return_, 0, 0, 0, .null), some (.aload_n 0, 0, 0, 0, .null), some (.getfield 7, 7, 1, 0, .null), none, none, some (.iload_n 3, 0, 0, 0, .null), some (.iaload, 0, 0, 0, .null), some (.iload_n 2, 0, 0, 0, .null), some (.invokestatic 202, 169, 2, 0, .null), none, none, some (.istore 4, 5, 0, 0, .null), none, some (.iload_n 1, 0, 0, 0, .null), some (.iconst 5, 0, 0, 0, .null), some (.if_icmp .ge 13, 0, 0, 0, .null), none, none, some (.aload_n 0, 0, 0, 0, .null), some (.iload_n 1, 0, 0, 0, .null), some (.iload 4, 0, 0, 0, .null), none, some (.invokevirtual 208, 170, 3, 0, (.retAddr 7)), none, none, some (.goto 118, 0, 0, 0, .null), none, none, some (.iload_n 1, 0, 0, 0, .null), some (.bipush 16, 0, 0, 0, .null), none, some (.if_icmp .ge 16, 0, 0, 0, .null), none, none, some (.aload_n 0, 0, 0, 0, .null), some (.iload_n 1, 0, 0, 0, .null), some (.bipush 8, 0, 0, 0, .null), none, some (.irem, 0, 0, 0, .null), some (.iload 4, 0, 0, 0, .null), none, some (.invokevirtual 199, 171, 3, 0, (.retAddr 7)), none, none, some (.goto 99, 0, 0, 0, .null), none, none, some (.iload_n 1, 0, 0, 0, .null), some (.bipush 24, 0, 0, 0, .null), none, some (.if_icmp .ge 18, 0, 0, 0, .null), none, none, some (.aload_n 0, 0, 0, 0, .null), some (.iload_n 1, 0, 0, 0, .null), some (.bipush 8, 0, 0, 0, .null), none, some (.irem, 0, 0, 0, .null), some (.iload 4, 0, 0, 0, .null), none, some (.iconst 1, 0, 0, 0, .null), some (.ixor, 0, 0, 0, .null), some (.invokevirtual 199, 171, 3, 0, (.retAddr 7)), none, none, some (.goto 78, 0, 0, 0, .null), none, none, some (.iload_n 1, 0, 0, 0, .null), some (.bipush 34, 0, 0, 0, .null), none, some (.if_icmp .ge 57, 0, 0, 0, .null), none, none, some (.aload_n 0, 0, 0, 0, .null), some (.getfield 7, 7, 1, 0, .null), none, none, some (.iload_n 3, 0, 0, 0, .null), some (.aload_n 0, 0, 0, 0, .null), some (.getfield 7, 7, 1, 0, .null), none, none, some (.iload_n 3, 0, 0, 0, .null), some (.iaload, 0, 0, 0, .null), some (.iload_n 2, 0, 0, 0, .null), some (.iload_n 1, 0, 0, 0, .null), some (.bipush 32, 0, 0, 0, .null), none, some (.if_icmp .ge 15, 0, 0, 0, .null), none, none, some (.aload_n 0, 0, 0, 0, .null), some (.getfield 13, 7, 2, 0, .null), none, none, some (.iload_n 1, 0, 0, 0, .null), some (.bipush 8, 0, 0, 0, .null), none, some (.irem, 0, 0, 0, .null), some (.iaload, 0, 0, 0, .null), some (.goto 20, 0, 0, 0, .null), none, none, some (.iload_n 1, 0, 0, 0, .null), some (.bipush 32, 0, 0, 0, .null), none, some (.if_icmp .ne 13, 0, 0, 0, .null), none, none, some (.aload_n 0, 0, 0, 0, .null), some (.getfield 13, 7, 2, 0, .null), none, none, some (.bipush 8, 0, 0, 0, .null), none, some (.iaload, 0, 0, 0, .null), some (.goto 4, 0, 0, 0, .null), none, none, some (.iconst 0, 0, 0, 0, .null), some (.invokestatic 211, 172, 3, 0, .null), none, none, some (.iastore, 0, 0, 0, .null), some (.goto 18, 0, 0, 0, .null), none, none, some (.aload_n 0, 0, 0, 0, .null), some (.iload_n 1, 0, 0, 0, .null), some (.bipush 8, 0, 0, 0, .null), none, some (.irem, 0, 0, 0, .null), some (.iload_n 2, 0, 0, 0, .null), some (.aload_n 0, 0, 0, 0, .null), some (.getfield 7, 7, 1, 0, .null), none, none, some (.iload_n 3, 0, 0, 0, .null), some (.iaload, 0, 0, 0, .null), some (.invokevirtual 215, 173, 4, 0, (.retAddr 7)), none, none, some (.return_, 0, 0, 0, .null)]
/-- MixMachineModel.special(I)V -/
def nC110 : List (Option mI) := [some (.aload_n 0, 0, 0, 0, .null), some (.iload_n 1, 0, 0, 0, .null), some (.iconst 3, 0, 0, 0, .null), some (.if_icmp .ge 7, 0, 0, 0, .null), none, none, some (.iconst 1, 0, 0, 0, .null), some (.goto 4, 0, 0, 0, .null), none, none, some (.iconst 0, 0, 0, 0, .null), some (.invokevirtual 120, 113, 2, 0, (.retAddr 7)), none, none, some (.aload_n 0, 0, 0, 0, .null), some (.getfield 110, 7, 4, 0, .null), none, none, some (.ifCond .eq 4, 0, 0, 0, .null), none, none, some (.return_, 0, 0, 0, .null), some (.iload_n 1, 0, 0, 0, .null), some (.ifCond .ne 83, 0, 0, 0, .null), none, none, some (.lconst 0, 0, 0, 0, .null), some (.lstore_n 2, 5, 0, 0, .null), some (.iconst 0, 0, 0, 0, .null), some (.istore 4, 5, 0, 0, .null), none, some (.iload 4, 0, 0, 0, .null), none, some (.bipush 10, 0, 0, 0, .null), none, some (.if_icmp .ge 44, 0, 0, 0, .null), none, none, some (.ldc2_w 172, 0, 0, 0, (.long 10)), none, none, some (.lload_n 2, 0, 0, 0, .null), some (.lmul, 0, 0, 0, .null), some (.aload_n 0, 0, 0, 0, .null), some (.getfield 13, 7, 2, 0, .null), none, none, some (.iload 4, 0, 0, 0, .null), none, some (.iconst 5, 0, 0, 0, .null), some (.if_icmp .ge 7, 0, 0, 0, .null), none, none, some (.iconst 0, 0, 0, 0, .null), some (.goto 5, 0, 0, 0, .null), none, none, some (.bipush 7, 0, 0, 0, .null), none, some (.iaload, 0, 0, 0, .null), some (.iload 4, 0, 0, 0, .null), none, some (.iconst 5, 0, 0, 0, .null), some (.irem, 0, 0, 0, .null), some (.invokestatic 176, 174, 2, 0, .null), none, none, some (.bipush 10, 0, 0, 0, .null), none, some (.irem, 0, 0, 0, .null), some (.i2l, 0, 0, 0, .null), some (.ladd, 0, 0, 0, .null), some (.lstore_n 2, 5, 0, 0, .null), some (.iinc 4 1, 5, 0, 0, .null), none, none, some (.goto (-45), 0, 0, 0, .null), none, none, some (.aload_n 0, 0, 0, 0, .null), some (.getfield 13, 7, 2, 0, .null), none, none, some (.iconst 0, 0, 0, 0, .null), some (.lload_n 2, 0, 0, 0, .null), some (.ldc2_w 180, 0, 0, 0, (.long 1073741824)), none, none, some (.lrem, 0, 0, 0, .null), some (.l2i, 0, 0, 0, .null), some (.aload_n 0, 0, 0, 0, .null), some (.getfield 13, 7, 2, 0, .null), none, none, some (.iconst 0, 0, 0, 0, .null), some (.iaload, 0, 0, 0, .null), some (.invokestatic 85, 73, 1, 0, .null), none, none, some (.invokestatic 93, 146, 2, 0, .null), none, none, some (.iastore, 0, 0, 0, .null), some (.goto 20, 0, 0, 0, .null), none, none, some (.iload_n 1, 0, 0, 0, .null), some (.iconst 1, 0, 0, 0, .null), some (.if_icmp .ne 10, 0, 0, 0, .null), none, none, some (.aload_n 0, 0, 0, 0, .null), some (.invokevirtual 182, 175, 1, 0, (.retAddr 7)), none, none, some (.goto 8, 0, 0, 0, .null), none, none, some (.aload_n 0, 0, 0, 0, .null), some (.iconst 1, 0, 0, 0, .null), some (.putfield 16, 7, 10, 0, .null), none, none, some (.return_, 0, 0, 0, .null)]
/-- MixMachineModel.shift(II)V -/
def nC111 : List (Option mI) := [some (.aload_n 0, 0, 0, 0, .null), some (.iload_n 1, 0, 0, 0, .null), some (.bipush 6, 0, 0, 0, .null), none, some (.if_icmp .ge 11, 0, 0, 0, .null), none, none, some (.iload_n 2, 0, 0, 0, .null), some (.ifCond .lt 7, 0, 0, 0, .null), none, none, some (.iconst 1, 0, 0, 0, .null), some (.goto 4, 0, 0, 0, .null), none, none, some (.iconst 0, 0, 0, 0, .null), some (.invokevirtual 120, 113, 2, 0, (.retAddr 7)), none, none, some (.aload_n 0, 0, 0, 0, .null), some (.getfield 110, 7, 4, 0, .null), none, none, some (.ifCond .eq 4, 0, 0, 0, .null), none, none, some (.return_, 0, 0, 0, .null), some (.aload_n 0, 0, 0, 0, .null), some (.getfield 13, 7, 2, 0, .null), none, none, some (.iconst 0, 0, 0, 0, .null), some (.iaload, 0, 0, 0, .null), some (.invokestatic 89, 70, 1, 0, .null), none, none, some (.istore_n 3, 10, 0, 0, .null), some (.iload_n 1, 0, 0, 0, .null), some (.iconst 2, 0, 0, 0, .null), some (.if_icmp .ge 60, 0, 0, 0, .null), none, none, some (.iload_n 2, 0, 0, 0, .null), some (.iconst 4, 0, 0, 0, .null), some (.if_icmp .le 7, 0, 0, 0, .null), none, none, some (.iconst 0, 0, 0, 0, .null), some (.goto 28, 0, 0, 0, .null), none, none, some (.iload_n 1, 0, 0, 0, .null), some (.ifCond .ne 18, 0, 0, 0, .null), none, none, some (.iload_n 3, 0, 0, 0, .null), some (.i2l, 0, 0, 0, .null), some (.bipush 6, 0, 0, 0, .null), none, some (.iload_n 2, 0, 0, 0, .null), some (.imul, 0, 0, 0, .null), some (.lshl, 0, 0, 0, .null), some (.ldc2_w 180, 0, 0, 0, (.long 1073741824)), none, none, some (.lrem, 0, 0, 0, .null), some (.l2i, 0, 0, 0, .null), some (.goto 9, 0, 0, 0, .null), none, none, some (.iload_n 3, 0, 0, 0, .null), some (.bipush 6, 0, 0, 0, .null), none, some (.iload_n 2, 0, 0, 0, .null), some (.imul, 0, 0, 0, .null), some (.ishr, 0, 0, 0, .null), some (.istore 4, 10, 0, 0, .null), none, some (.aload_n 0, 0, 0, 0, .null), some (.getfield 13, 7, 2, 0, .null), none, none, some (.iconst 0, 0, 0, 0, .null), some (.iload 4, 0, 0, 0, .null), none, some (.aload_n 0, 0, 0, 0, .null), some (.getfield 13, 7, 2, 0, .null), none, none, some (.iconst 0, 0, 0, 0, .null), some (.iaload, 0, 0, 0, .null), some (.invokestatic 85, 73, 1, 0, .null), none, none, some (.invokestatic 93, 146, 2, 0, .null), none, none, some (.iastore, 0, 0, 0, .null), some (.return_, 0, 0, 0, .null), some (.iload_n 3, 0, 0, 0, .null), some (.i2l, 0, 0, 0, .null), some (.bipush 30, 0, 0, 0, .null), none, some (.lshl, 0, 0, 0, .null), some (.aload_n 0, 0, 0, 0, .null), some (.getfield 13, 7, 2, 0, .null), none, none, some (.bipush 7, 0, 0, 0, .null), none, some (.iaload, 0, 0, 0, .null), some (.invokestatic 89, 70, 1, 0, .null), none, none, some (.i2l, 0, 0, 0, .null), some (.lor, 0, 0, 0, .null), some (.lstore 4, 10, 0, 0, .null), none, some (.ldc2_w 185, 0, 0, 0, (.long 1152921504606846976)), none, none, some (.lstore 6, 10, 0, 0, .null), none, some (.iload_n 1, 0, 0, 0, .null), some (.iconst 4, 0, 0, 0, .null), some (.if_icmp .ge 18, 0, 0, 0, .null), none, none, some (.iload_n 2, 0, 0, 0, .null), some (.bipush 9, 0, 0, 0, .null), none, some (.if_icmp .le 8, 0, 0, 0, .null), none, none, some (.bipush 10, 0, 0, 0, .null), none, some (.goto 11, 0, 0, 0, .null), none, none, some (.iload_n 2, 0, 0, 0, .null), some (.goto 7, 0, 0, 0, .null), none, none, some (.iload_n 2, 0, 0, 0, .null), some (.bipush 10, 0, 0, 0, .null), none, some (.irem, 0, 0, 0, .null), some (.istore 8, 10, 0, 0, .null), none, some (.iconst 0, 0, 0, 0, .null), some (.istore 9, 10, 0, 0, .null), none, some (.iload 9, 0, 0, 0, .null), none, some (.iload 8, 0, 0, 0, .null), none, some (.if_icmp .ge 83, 0, 0, 0, .null), none, none, some (.iload_n 1, 0, 0, 0, .null), some (.iconst 2, 0, 0, 0, .null), some (.if_icmp .ne 15, 0, 0, 0, .null), none, none, some (.lload 4, 0, 0, 0, .null), none, some (.bipush 6, 0, 0, 0, .null), none, some (.lshl, 0, 0, 0, .null), some (.lload 6, 0, 0, 0, .null), none, some (.lconst 1, 0, 0, 0, .null), some (.lsub, 0, 0, 0, .null), some (.land, 0, 0, 0, .null), some (.lstore 4, 10, 0, 0, .null), none, some (.iload_n 1, 0, 0, 0, .null), some (.iconst 3, 0, 0, 0, .null), some (.if_icmp .ne 10, 0, 0, 0, .null), none, none, some (.lload 4, 0, 0, 0, .null), none, some (.bipush 6, 0, 0, 0, .null), none, some (.lshr, 0, 0, 0, .null), some (.lstore 4, 10, 0, 0, .null), none, some (.iload_n 1, 0, 0, 0, .null), some (.iconst 4, 0, 0, 0, .null), some (.if_icmp .ne 21, 0, 0, 0, .null), none, none, some (.lload 4, 0, 0, 0, .null), none, some (.bipush 6, 0, 0, 0, .null), none, some (.lshl, 0, 0, 0, .null), some (.lload 6, 0, 0, 0, .null), none, some (.lconst 1, 0, 0, 0, .null), some (.lsub, 0, 0, 0, .null), some (.land, 0, 0, 0, .null), some (.lload 4, 0, 0, 0, .null), none, some (.bipush 54, 0, 0, 0, .null), none, some (.lshr, 0, 0, 0, .null), some (.lor, 0, 0, 0, .null), some (.lstore 4, 10, 0, 0, .null), none, some (.iload_n 1, 0, 0, 0, .null), some (.iconst 5, 0, 0, 0, .null), some (.if_icmp .ne 20, 0, 0, 0, .null), none, none, some (.lload 4, 0, 0, 0, .null), none, some (.bipush 6, 0, 0, 0, .null), none, some (.lshr, 0, 0, 0, .null), some (.lload 4, 0, 0, 0, .null), none, some (.ldc2_w 187, 0, 0, 0, (.long 63)), none, none, some (.land, 0, 0, 0, .null), some (.bipush 54, 0, 0, 0, .null), none, some (.lshl, 0, 0, 0, .null), some (.lor, 0, 0, 0, .null), some (.lstore 4, 10, 0, 0, .null), none, some (.iinc 9 1, 10, 0, 0, .null), none, none, some (.goto (-84), 0, 0, 0, .null), none, none, some (.aload_n 0, 0, 0, 0, .null), some (.getfield 13, 7, 2, 0, .null), none, none, some (.iconst 0, 0, 0, 0, .null), some (.lload 4, 0, 0, 0, .null), none, some (.bipush 30, 0, 0, 0, .null), none, some (.lshr, 0, 0, 0, .null), some (.l2i, 0, 0, 0, .null), some (.aload_n 0, 0, 0, 0, .null), some (.getfield 13, 7, 2, 0, .null), none, none, some (.iconst 0, 0, 0, 0, .null), some (.iaload, 0, 0, 0, .null), some (.invokestatic 85, 73, 1, 0, .null), none, none, some (.invokestatic 93, 146, 2, 0, .null), none, none, some (.iastore, 0, 0, 0, .null), some (.aload_n 0, 0, 0, 0, .null), some (.getfield 13, 7, 2, 0, .null), none, none, some (.bipush 7, 0, 0, 0, .null), none, some (.lload 4, 0, 0, 0, .null), none, some (.ldc2_w 160, 0, 0, 0, (.long 1073741823)), none, none, some (.land, 0, 0, 0, .null), some (.l2i, 0, 0, 0, .null), some (.aload_n 0, 0, 0, 0, .null), some (.getfield 13, 7, 2, 0, .null), none, none, some (.bipush 7, 0, 0, 0, .null), none, some (.iaload, 0, 0, 0, .null), some (.invokestatic 85, 73, 1, 0, .null), none, none, some (.invokestatic 93, 146, 2, 0, .null), none, none, some (.iastore, 0, 0, 0, .null), some (.return_, 0, 0, 0, .null)]
/-- MixMachineModel.move(II)V -/
def nC112 : List (Option mI) := [some (.aload_n 0, 0, 0, 0, .null), some (.getfield 13, 7, 2, 0, .null), none, none, some (.iconst 1, 0, 0, 0, .null), some (.iaload, 0, 0, 0, .null), some (.invokestatic 154, 74, 1, 0, .null), none, none, some (.istore_n 3, 5, 0, 0, .null), some (.iload_n 1, 0, 0, 0, .null), some (.ifCond .eq 21, 0, 0, 0, .null), none, none, some (.aload_n 0, 0, 0, 0, .null), some (.iload_n 2, 0, 0, 0, .null), some (.iload_n 1, 0, 0, 0, .null), some (.invokevirtual 124, 176, 3, 0, (.retAddr 7)), none, none, some (.ifCond .eq 12, 0, 0, 0, .null), none, none, some (.aload_n 0, 0, 0, 0, .null), some (.iload_n 3, 0, 0, 0, .null), some (.iload_n 1, 0, 0, 0, .null), some (.invokevirtual 124, 176, 3, 0, (.retAddr 7)), none, none, some (.ifCond .ne 4, 0, 0, 0, .null), none, none, some (.return_, 0, 0, 0, .null), some (.iconst 0, 0, 0, 0, .null), some (.istore 4, 5, 0, 0, .null), none, some (.iload 4, 0, 0, 0, .null), none, some (.iload_n 1, 0, 0, 0, .null), some (.if_icmp .ge 27, 0, 0, 0, .null), none, none, some (.aload_n 0, 0, 0, 0, .null), some (.getfield 7, 7, 1, 0, .null), none, none, some (.iload_n 3, 0, 0, 0, .null), some (.iload 4, 0, 0, 0, .null), none, some (.iadd, 0, 0, 0, .null), some (.aload_n 0, 0, 0, 0, .null), some (.getfield 7, 7, 1, 0, .null), none, none, some (.iload_n 2, 0, 0, 0, .null), some (.iload 4, 0, 0, 0, .null), none, some (.iadd, 0, 0, 0, .null), some (.iaload, 0, 0, 0, .null), some (.iastore, 0, 0, 0, .null), some (.iinc 4 1, 5, 0, 0, .null), none, none, some (.goto (-27), 0, 0, 0, .null), none, none, some (.aload_n 0, 0, 0, 0, .null), some (.iconst 1, 0, 0, 0, .null), some (.iload_n 1, 0, 0, 0, .null), some (.invokevirtual 162, 177, 3, 0, (.retAddr 7)), none, none, some (.return_, 0, 0, 0, .null)]
/-- MixMachineModel.need(Z)V -/
def nC113 : List (Option mI) := [some (.aload_n 0, 0, 0, 0, .null), some (.aload_n 0, 0, 0, 0, .null), some (.getfield 110, 7, 4, 0, .null), none, none, some (.ifCond .ne 7, 0, 0, 0, .null), none, none, some (.iload_n 1, 0, 0, 0, .null), some (.ifCond .ne 7, 0, 0, 0, .null), none, none, some (.iconst 1, 0, 0, 0, .null), some (.goto 4, 0, 0, 0, .null), none, none, some (.iconst 0, 0, 0, 0, .null), some (.putfield 110, 7, 4, 1, .null), none, none, some (.return_, 0, 0, 0, .null)]
/-- MixMachineModel.jump(IZ)V -/
def nC114 : List (Option mI) := [some (.aload_n 0, 0, 0, 0, .null), some (.aload_n 0, 0, 0, 0, .null), some (.iload_n 1, 0, 0, 0, .null), some (.invokevirtual 107, 46, 2, 0, (.retAddr 7)), none, none, some (.invokevirtual 120, 113, 2, 0, (.retAddr 7)), none, none, some (.aload_n 0, 0, 0, 0, .null), some (.getfield 110, 7, 4, 0, .null), none, none, some (.ifCond .eq 4, 0, 0, 0, .null), none, none, some (.return_, 0, 0, 0, .null), some (.iload_n 2, 0, 0, 0, .null), some (.ifCond .eq 20, 0, 0, 0, .null), none, none, some (.aload_n 0, 0, 0, 0, .null), some (.getfield 13, 7, 2, 0, .null), none, none, some (.bipush 8, 0, 0, 0, .null), none, some (.aload_n 0, 0, 0, 0, .null), some (.getfield 147, 7, 6, 0, .null), none, none, some (.iconst 1, 0, 0, 0, .null), some (.iadd, 0, 0, 0, .null), some (.iconst 0, 0, 0, 0, .null), some (.invokestatic 93, 146, 2, 0, .null), none, none, some (.iastore, 0, 0, 0, .null), some (.aload_n 0, 0, 0, 0, .null), some (.iload_n 1, 0, 0, 0, .null), some (.putfield 150, 7, 7, 0, .null), none, none, some (.return_, 0, 0, 0, .null)]
/-- MixMachineModel.units(III)V -/
def nC115 : List (Option mI) := [some (.iload_n 2, 0, 0, 0, .null), some (.invokestatic 131, 71, 1, 0, .null), none, none, some (.istore 4, 5, 0, 0, .null), none, some (.aload_n 0, 0, 0, 0, .null), some (.iload 4, 0, 0, 0, .null), none, some (.ifCond .lt 7, 0, 0, 0, .null), none, none, some (.iconst 1, 0, 0, 0, .null), some (.goto 4, 0, 0, 0, .null), none, none, some (.iconst 0, 0, 0, 0, .null), some (.invokevirtual 120, 113, 2, 0, (.retAddr 7)), none, none, some (.aload_n 0, 0, 0, 0, .null), some (.getfield 110, 7, 4, 0, .null), none, none, some (.ifCond .eq 4, 0, 0, 0, .null), none, none, some (.return_, 0, 0, 0, .null), some (.iload_n 1, 0, 0, 0, .null), some (.bipush 35, 0, 0, 0, .null), none, some (.if_icmp .ne 10, 0, 0, 0, .null), none, none, some (.aload_n 0, 0, 0, 0, .null), some (.iload 4, 0, 0, 0, .null), none, some (.iload_n 3, 0, 0, 0, .null), some (.invokevirtual 134, 178, 3, 0, (.retAddr 7)), none, none, some (.iload_n 1, 0, 0, 0, .null), some (.bipush 36, 0, 0, 0, .null), none, some (.if_icmp .ne 10, 0, 0, 0, .null), none, none, some (.aload_n 0, 0, 0, 0, .null), some (.iload 4, 0, 0, 0, .null), none, some (.iload_n 3, 0, 0, 0, .null), some (.invokevirtual 138, 179, 3, 0, (.retAddr 7)), none, none, some (.iload_n 1, 0, 0, 0, .null), some (.bipush 37, 0, 0, 0, .null), none, some (.if_icmp .ne 10, 0, 0, 0, .null), none, none, some (.aload_n 0, 0, 0, 0, .null), some (.iload 4, 0, 0, 0, .null), none, some (.iload_n 3, 0, 0, 0, .null), some (.invokevirtual 141, 180, 3, 0, (.retAddr 7)), none, none, some (.aload_n 0, 0, 0, 0, .null), some (.getfield 110, 7, 4, 0, .null), none, none, some (.ifCond .ne 39, 0, 0, 0, .null), none, none, some (.aload_n 0, 0, 0, 0, .null), some (.getfield 29, 7, 17, 0, .null), none, none, some (.iload 4, 0, 0, 0, .null), none, some (.aload_n 0, 0, 0, 0, .null), some (.getfield 144, 7, 8, 0, .null), none, none, some (.iconst 1, 0, 0, 0, .null), some (.iadd, 0, 0, 0, .null), some (.iload 4, 0, 0, 0, .null), none, some (.ifCond .ne 7, 0, 0, 0, .null), none, none, some (.iconst 4, 0, 0, 0, .null), some (.goto 16, 0, 0, 0, .null), none, none, some (.iload 4, 0, 0, 0, .null), none, some (.iconst 1, 0, 0, 0, .null), some (.if_icmp .ne 8, 0, 0, 0, .null), none, none, some (.bipush 8, 0, 0, 0, .null), none, some (.goto 5, 0, 0, 0, .null), none, none, some (.bipush 6, 0, 0, 0, .null), none, some (.iadd, 0, 0, 0, .null), some (.iastore, 0, 0, 0, .null), some (.return_, 0, 0, 0, .null)]
/-- MixMachineModel.jumps(II)V -/
def nC116 : List (Option mI) := [some (.aload_n 0, 0, 0, 0, .null), some (.iload_n 1, 0, 0, 0, .null), some (.bipush 10, 0, 0, 0, .null), none, some (.if_icmp .ge 7, 0, 0, 0, .null), none, none, some (.iconst 1, 0, 0, 0, .null), some (.goto 4, 0, 0, 0, .null), none, none, some (.iconst 0, 0, 0, 0, .null), some (.invokevirtual 120, 113, 2, 0, (.retAddr 7)), none, none, some (.aload_n 0, 0, 0, 0, .null), some (.getfield 110, 7, 4, 0, .null), none, none, some (.ifCond .eq 4, 0, 0, 0, .null), none, none, some (.return_, 0, 0, 0, .null), some (.iload_n 1, 0, 0, 0, .null), some (.iconst 2, 0, 0, 0, .null), some (.if_icmp .lt 27, 0, 0, 0, .null), none, none, some (.iload_n 1, 0, 0, 0, .null), some (.iconst 2, 0, 0, 0, .null), some (.if_icmp .ne 10, 0, 0, 0, .null), none, none, some (.aload_n 0, 0, 0, 0, .null), some (.getfield 157, 7, 3, 0, .null), none, none, some (.ifCond .ne 15, 0, 0, 0, .null), none, none, some (.iload_n 1, 0, 0, 0, .null), some (.iconst 3, 0, 0, 0, .null), some (.if_icmp .ne 14, 0, 0, 0, .null), none, none, some (.aload_n 0, 0, 0, 0, .null), some (.getfield 157, 7, 3, 0, .null), none, none, some (.ifCond .ne 7, 0, 0, 0, .null), none, none, some (.iconst 1, 0, 0, 0, .null), some (.goto 4, 0, 0, 0, .null), none, none, some (.iconst 0, 0, 0, 0, .null), some (.istore_n 3, 4, 0, 0, .null), some (.iload_n 1, 0, 0, 0, .null), some (.iconst 3, 0, 0, 0, .null), some (.if_icmp .le 119, 0, 0, 0, .null), none, none, some (.iload_n 1, 0, 0, 0, .null), some (.iconst 4, 0, 0, 0, .null), some (.if_icmp .ne 18, 0, 0, 0, .null), none, none, some (.aload_n 0, 0, 0, 0, .null), some (.getfield 189, 7, 5, 0, .null), none, none, some (.ifCond .ge 7, 0, 0, 0, .null), none, none, some (.iconst 1, 0, 0, 0, .null), some (.goto 102, 0, 0, 0, .null), none, none, some (.iconst 0, 0, 0, 0, .null), some (.goto 98, 0, 0, 0, .null), none, none, some (.iload_n 1, 0, 0, 0, .null), some (.iconst 5, 0, 0, 0, .null), some (.if_icmp .ne 18, 0, 0, 0, .null), none, none, some (.aload_n 0, 0, 0, 0, .null), some (.getfield 189, 7, 5, 0, .null), none, none, some (.ifCond .ne 7, 0, 0, 0, .null), none, none, some (.iconst 1, 0, 0, 0, .null), some (.goto 82, 0, 0, 0, .null), none, none, some (.iconst 0, 0, 0, 0, .null), some (.goto 78, 0, 0, 0, .null), none, none, some (.iload_n 1, 0, 0, 0, .null), some (.bipush 6, 0, 0, 0, .null), none, some (.if_icmp .ne 18, 0, 0, 0, .null), none, none, some (.aload_n 0, 0, 0, 0, .null), some (.getfield 189, 7, 5, 0, .null), none, none, some (.ifCond .le 7, 0, 0, 0, .null), none, none, some (.iconst 1, 0, 0, 0, .null), some (.goto 61, 0, 0, 0, .null), none, none, some (.iconst 0, 0, 0, 0, .null), some (.goto 57, 0, 0, 0, .null), none, none, some (.iload_n 1, 0, 0, 0, .null), some (.bipush 7, 0, 0, 0, .null), none, some (.if_icmp .ne 18, 0, 0, 0, .null), none, none, some (.aload_n 0, 0, 0, 0, .null), some (.getfield 189, 7, 5, 0, .null), none, none, some (.ifCond .lt 7, 0, 0, 0, .null), none, none, some (.iconst 1, 0, 0, 0, .null), some (.goto 40, 0, 0, 0, .null), none, none, some (.iconst 0, 0, 0, 0, .null), some (.goto 36, 0, 0, 0, .null), none, none, some (.iload_n 1, 0, 0, 0, .null), some (.bipush 8, 0, 0, 0, .null), none, some (.if_icmp .ne 18, 0, 0, 0, .null), none, none, some (.aload_n 0, 0, 0, 0, .null), some (.getfield 189, 7, 5, 0, .null), none, none, some (.ifCond .eq 7, 0, 0, 0, .null), none, none, some (.iconst 1, 0, 0, 0, .null), some (.goto 19, 0, 0, 0, .null), none, none, some (.iconst 0, 0, 0, 0, .null), some (.goto 15, 0, 0, 0, .null), none, none, some (.aload_n 0, 0, 0, 0, .null), some (.getfield 189, 7, 5, 0, .null), none, none, some (.ifCond .gt 7, 0, 0, 0, .null), none, none, some (.iconst 1, 0, 0, 0, .null), some (.goto 4, 0, 0, 0, .null), none, none, some (.iconst 0, 0, 0, 0, .null), some (.istore_n 3, 4, 0, 0, .null), some (.iload_n 3, 0, 0, 0, .null), some (.ifCond .eq 18, 0, 0, 0, .null), none, none, some (.aload_n 0, 0, 0, 0, .null), some (.iload_n 2, 0, 0, 0, .null), some (.iload_n 1, 0, 0, 0, .null), some (.iconst 1, 0, 0, 0, .null), some (.if_icmp .eq 7, 0, 0, 0, .null), none, none, some (.iconst 1, 0, 0, 0, .null), some (.goto 4, 0, 0, 0, .null), none, none, some (.iconst 0, 0, 0, 0, .null), some (.invokevirtual 192, 114, 3, 0, (.retAddr 7)), none, none, some (.iload_n 1, 0, 0, 0, .null), some (.iconst 2, 0, 0, 0, .null), some (.if_icmp .eq 8, 0, 0, 0, .null), none, none, some (.iload_n 1, 0, 0, 0, .null), some (.iconst 3, 0, 0, 0, .null), some (.if_icmp .ne 15, 0, 0, 0, .null), none, none, some (.aload_n 0, 0, 0, 0, .null), some (.getfield 110, 7, 4, 0, .null), none, none, some (.ifCond .ne 8, 0, 0, 0, .null), none, none, some (.aload_n 0, 0, 0, 0, .null), some (.iconst 0, 0, 0, 0, .null), some (.putfield 157, 7, 3, 1, .null), none, none, some (.return_, 0, 0, 0, .null)]
/-- MixMachineModel.moves(IIIZ)V -/
def nC117 : List (Option mI) := [some (.iload_n 1, 0, 0, 0, .null), some (.bipush 8, 0, 0, 0, .null), none, some (.irem, 0, 0, 0, .null), some (.istore 5, 6, 0, 0, .null), none, some (.iload_n 1, 0, 0, 0, .null), some (.bipush 48, 0, 0, 0, .null), none, some (.if_icmp .ge 50, 0, 0, 0, .null), none, none, some (.aload_n 0, 0, 0, 0, .null), some (.iload_n 2, 0, 0, 0, .null), some (.bipush 6, 0, 0, 0, .null), none, some (.if_icmp .ge 7, 0, 0, 0, .null), none, none, some (.iconst 1, 0, 0, 0, .null), some (.goto 4, 0, 0, 0, .null), none, none, some (.iconst 0, 0, 0, 0, .null), some (.invokevirtual 120, 113, 2, 0, (.retAddr 7)), none, none, some (.aload_n 0, 0, 0, 0, .null), some (.getfield 110, 7, 4, 0, .null), none, none, some (.ifCond .ne 27, 0, 0, 0, .null), none, none, some (.aload_n 0, 0, 0, 0, .null), some (.iload_n 2, 0, 0, 0, .null), some (.aload_n 0, 0, 0, 0, .null), some (.getfield 13, 7, 2, 0, .null), none, none, some (.iload 5, 0, 0, 0, .null), none, some (.iaload, 0, 0, 0, .null), some (.invokestatic 154, 74, 1, 0, .null), none, none, some (.invokevirtual 196, 181, 3, 0, (.retAddr 7)), none, none, some (.ifCond .eq 9, 0, 0, 0, .null), none, none, some (.aload_n 0, 0, 0, 0, .null), some (.iload_n 3, 0, 0, 0, .null), some (.iconst 1, 0, 0, 0, .null), some (.invokevirtual 192, 114, 3, 0, (.retAddr 7)), none, none, some (.return_, 0, 0, 0, .null), some (.aload_n 0, 0, 0, 0, .null), some (.iload_n 2, 0, 0, 0, .null), some (.iconst 4, 0, 0, 0, .null), some (.if_icmp .ge 7, 0, 0, 0, .null), none, none, some (.iconst 1, 0, 0, 0, .null), some (.goto 4, 0, 0, 0, .null), none, none, some (.iconst 0, 0, 0, 0, .null), some (.invokevirtual 120, 113, 2, 0, (.retAddr 7)), none, none, some (.aload_n 0, 0, 0, 0, .null), some (.getfield 110, 7, 4, 0, .null), none, none, some (.ifCond .eq 4, 0, 0, 0, .null), none, none, some (.return_, 0, 0, 0, .null), some (.iload_n 2, 0, 0, 0, .null), some (.iconst 2, 0, 0, 0, .null), some (.if_icmp .ge 22, 0, 0, 0, .null), none, none, some (.aload_n 0, 0, 0, 0, .null), some (.iload 5, 0, 0, 0, .null), none, some (.iload_n 2, 0, 0, 0, .null), some (.ifCond .ne 7, 0, 0, 0, .null), none, none, some (.iload_n 3, 0, 0, 0, .null), some (.goto 5, 0, 0, 0, .null), none, none, some (.iload_n 3, 0, 0, 0, .null), some (.ineg, 0, 0, 0, .null), some (.invokevirtual 162, 177, 3, 0, (.retAddr 7)), none, none, some (.goto 42, 0, 0, 0, .null), none, none, some (.aload_n 0, 0, 0, 0, .null), some (.iload 5, 0, 0, 0, .null), none, some (.iload_n 3, 0, 0, 0, .null), some (.ifCond .ge 8, 0, 0, 0, .null), none, none, some (.iload_n 3, 0, 0, 0, .null), some (.ineg, 0, 0, 0, .null), some (.goto 4, 0, 0, 0, .null), none, none, some (.iload_n 3, 0, 0, 0, .null), some (.iload 4, 0, 0, 0, .null), none, some (.iload_n 2, 0, 0, 0, .null), some (.iconst 3, 0, 0, 0, .null), some (.if_icmp .ne 7, 0, 0, 0, .null), none, none, some (.iconst 1, 0, 0, 0, .null), some (.goto 4, 0, 0, 0, .null), none, none, some (.iconst 0, 0, 0, 0, .null), some (.if_icmp .eq 7, 0, 0, 0, .null), none, none, some (.iconst 1, 0, 0, 0, .null), some (.goto 4, 0, 0, 0, .null), none, none, some (.iconst 0, 0, 0, 0, .null), some (.invokestatic 93, 146, 2, 0, .null), none, none, some (.invokevirtual 199, 171, 3, 0, (.retAddr 7)), none, none, some (.return_, 0, 0, 0, .null)]
/-- MixMachine$Text.openPart()V -/
def nC118 : List (Option mI) := [some (.aload_n 0, 0, 0, 0, .null), some (.aload_n 0, 0, 0, 0, .null), some (.getfield 30, 3, 2, 0, .null), none, none, some (.putfield 36, 3, 5, 0, .null), none, none, some (.aload_n 0, 0, 0, 0, .null), some (.getfield 36, 3, 5, 0, .null), none, none, some (.aload_n 0, 0, 0, 0, .null), some (.getfield 33, 3, 4, 0, .null), none, none, some (.if_icmp .ge 30, 0, 0, 0, .null), none, none, some (.aload_n 0, 0, 0, 0, .null), some (.getfield 9, 3, 0, 0, .null), none, none, some (.aload_n 0, 0, 0, 0, .null), some (.getfield 36, 3, 5, 0, .null), none, none, some (.caload, 0, 0, 0, .null), some (.bipush 32, 0, 0, 0, .null), none, some (.if_icmp .eq 16, 0, 0, 0, .null), none, none, some (.aload_n 0, 0, 0, 0, .null), some (.dup, 0, 0, 0, .null), some (.getfield 36, 3, 5, 0, .null), none, none, some (.iconst 1, 0, 0, 0, .null), some (.iadd, 0, 0, 0, .null), some (.putfield 36, 3, 5, 0, .null), none, none, some (.goto (-35), 0, 0, 0, .null), none, none, some (.return_, 0, 0, 0, .null)]
/-- MixMachine$Text.isPartRead()Z -/
def nC119 : List (Option mI) := [some (.aload_n 0, 0, 0, 0, .null), some (.getfield 30, 3, 2, 0, .null), none, none, some (.aload_n 0, 0, 0, 0, .null), some (.getfield 36, 3, 5, 0, .null), none, none, some (.if_icmp .lt 7, 0, 0, 0, .null), none, none, some (.iconst 1, 0, 0, 0, .null), some (.goto 4, 0, 0, 0, .null), none, none, some (.iconst 0, 0, 0, 0, .null), some (.ireturn, 1, 0, 0, .null)]
/-- MixMachine$Text.readName()V -/
def nC120 : List (Option mI) := [some (.aload_n 0, 0, 0, 0, .null), some (.lconst 0, 0, 0, 0, .null), some (.putfield 39, 3, 6, 2, .null), none, none, some (.aload_n 0, 0, 0, 0, .null), some (.iconst 0, 0, 0, 0, .null), some (.putfield 43, 3, 7, 0, .null), none, none, some (.aload_n 0, 0, 0, 0, .null), some (.iconst 0, 0, 0, 0, .null), some (.putfield 46, 3, 8, 0, .null), none, none, some (.aload_n 0, 0, 0, 0, .null), some (.iconst 0, 0, 0, 0, .null), some (.putfield 49, 3, 9, 0, .null), none, none, some (.aload_n 0, 0, 0, 0, .null), some (.getfield 30, 3, 2, 0, .null), none, none, some (.aload_n 0, 0, 0, 0, .null), some (.getfield 36, 3, 5, 0, .null), none, none, some (.if_icmp .ge 133, 0, 0, 0, .null), none, none, some (.aload_n 0, 0, 0, 0, .null), some (.getfield 9, 3, 0, 0, .null), none, none, some (.aload_n 0, 0, 0, 0, .null), some (.getfield 30, 3, 2, 0, .null), none, none, some (.caload, 0, 0, 0, .null), some (.istore_n 1, 3, 0, 0, .null), some (.iload_n 1, 0, 0, 0, .null), some (.bipush 65, 0, 0, 0, .null), none, some (.if_icmp .lt 13, 0, 0, 0, .null), none, none, some (.iload_n 1, 0, 0, 0, .null), some (.bipush 90, 0, 0, 0, .null), none, some (.if_icmp .gt 7, 0, 0, 0, .null), none, none, some (.iconst 1, 0, 0, 0, .null), some (.goto 4, 0, 0, 0, .null), none, none, some (.iconst 0, 0, 0, 0, .null), some (.istore_n 2, 3, 0, 0, .null), some (.iload_n 2, 0, 0, 0, .null), some (.ifCond .ne 16, 0, 0, 0, .null), none, none, some (.iload_n 1, 0, 0, 0, .null), some (.bipush 48, 0, 0, 0, .null), none, some (.if_icmp .lt 9, 0, 0, 0, .null), none, none, some (.iload_n 1, 0, 0, 0, .null), some (.bipush 57, 0, 0, 0, .null), none, some (.if_icmp .le 4, 0, 0, 0, .null), none, none, some (.return_, 0, 0, 0, .null), some (.aload_n 0, 0, 0, 0, .null), some (.getfield 43, 3, 7, 0, .null), none, none, some (.bipush 6, 0, 0, 0, .null), none, some (.if_icmp .ge 22, 0, 0, 0, .null), none, none, some (.aload_n 0, 0, 0, 0, .null), some (.dup, 0, 0, 0, .null), some (.getfield 39, 3, 6, 0, .null), none, none, some (.iload_n 1, 0, 0, 0, .null), some (.i2l, 0, 0, 0, .null), some (.bipush 8, 0, 0, 0, .null), none, some (.aload_n 0, 0, 0, 0, .null), some (.getfield 43, 3, 7, 0, .null), none, none, some (.imul, 0, 0, 0, .null), some (.lshl, 0, 0, 0, .null), some (.lor, 0, 0, 0, .null), some (.putfield 39, 3, 6, 2, .null), none, none, some (.aload_n 0, 0, 0, 0, .null), some (.dup, 0, 0, 0, .null), some (.getfield 46, 3, 8, 0, .null), none, none, some (.iload_n 2, 0, 0, 0, .null), some (.ifCond .eq 7, 0, 0, 0, .null), none, none, some (.iconst 1, 0, 0, 0, .null), some (.goto 4, 0, 0, 0, .null), none, none, some (.iconst 0, 0, 0, 0, .null), some (.iadd, 0, 0, 0, .null), some (.putfield 46, 3, 8, 0, .null), none, none, some (.aload_n 0, 0, 0, 0, .null), some (.aload_n 0, 0, 0, 0, .null), some (.getfield 49, 3, 9, 0, .null), none, none, some (.bipush 10, 0, 0, 0, .null), none, some (.imul, 0, 0, 0, .null), some (.iload_n 1, 0, 0, 0, .null), some (.bipush 48, 0, 0, 0, .null), none, some (.isub, 0, 0, 0, .null), some (.iadd, 0, 0, 0, .null), some (.putfield 49, 3, 9, 0, .null), none, none, some (.aload_n 0, 0, 0, 0, .null), some (.dup, 0, 0, 0, .null), some (.getfield 43, 3, 7, 0, .null), none, none, some (.iconst 1, 0, 0, 0, .null), some (.iadd, 0, 0, 0, .null), some (.putfield 43, 3, 7, 0, .null), none, none, some (.aload_n 0, 0, 0, 0, .null), some (.dup, 0, 0, 0, .null), some (.getfield 30, 3, 2, 0, .null), none, none, some (.iconst 1, 0, 0, 0, .null), some (.iadd, 0, 0, 0, .null), some (.putfield 30, 3, 2, 0, .null), none, none, some (.goto (-138), 0, 0, 0, .null), none, none, some (.return_, 0, 0, 0, .null)]
/-- MixMachine$Text.kindOfName()I -/
def nC121 : List (Option mI) := [some (.aload_n 0, 0, 0, 0, .null), some (.getfield 46, 3, 8, 0, .null), none, none, some (.ifCond .ne 26, 0, 0, 0, .null), none, none, some (.aload_n 0, 0, 0, 0, .null), some (.getfield 43, 3, 7, 0, .null), none, none, some (.iconst 1, 0, 0, 0, .null), some (.if_icmp .lt 16, 0, 0, 0, .null), none, none, some (.aload_n 0, 0, 0, 0, .null), some (.getfield 43, 3, 7, 0, .null), none, none, some (.bipush 9, 0, 0, 0, .null), none, some (.if_icmp .gt 7, 0, 0, 0, .null), none, none, some (.iconst 1, 0, 0, 0, .null), some (.goto 4, 0, 0, 0, .null), none, none, some (.iconst 0, 0, 0, 0, .null), some (.ireturn, 0, 0, 0, .null), some (.aload_n 0, 0, 0, 0, .null), some (.getfield 43, 3, 7, 0, .null), none, none, some (.iconst 2, 0, 0, 0, .null), some (.if_icmp .ne 61, 0, 0, 0, .null), none, none, some (.aload_n 0, 0, 0, 0, .null), some (.getfield 46, 3, 8, 0, .null), none, none, some (.iconst 1, 0, 0, 0, .null), some (.if_icmp .ne 53, 0, 0, 0, .null), none, none, some (.aload_n 0, 0, 0, 0, .null), some (.getfield 39, 3, 6, 0, .null), none, none, some (.bipush 8, 0, 0, 0, .null), none, some (.lshr, 0, 0, 0, .null), some (.l2i, 0, 0, 0, .null), some (.lookupswitch 40 #[(66, 36), (70, 38), (72, 34)], 34, 0, 0, .null), none, none, none, none, none, none, none, none, none, none, none, none, none, none, none, none, none, none, none, none, none, none, none, none, none, none, none, none, none, none, none, none, none, some (.iconst 3, 0, 0, 0, .null), some (.ireturn, 0, 0, 0, .null), some (.iconst 4, 0, 0, 0, .null), some (.ireturn, 0, 0, 0, .null), some (.iconst 5, 0, 0, 0, .null), some (.ireturn, 0, 0, 0, .null), some (.iconst 2, 0, 0, 0, .null), some (.ireturn, 0, 0, 0, .null), some (.aload_n 0, 0, 0, 0, .null), some (.getfield 43, 3, 7, 0, .null), none, none, some (.bipush 6, 0, 0, 0, .null), none, some (.if_icmp .gt 7, 0, 0, 0, .null), none, none, some (.iconst 2, 0, 0, 0, .null), some (.goto 4, 0, 0, 0, .null), none, none, some (.iconst 0, 0, 0, 0, .null), some (.ireturn, 0, 0, 0, .null)]
/-- MixMachine$Text.digitOfName()I -/
def nC122 : List (Option mI) := [some (.aload_n 0, 0, 0, 0, .null), some (.getfield 39, 3, 6, 0, .null), none, none, some (.ldc2_w 15, 0, 0, 0, (.long 255)), none, none, some (.land, 0, 0, 0, .null), some (.l2i, 0, 0, 0, .null), some (.bipush 48, 0, 0, 0, .null), none, some (.isub, 0, 0, 0, .null), some (.ireturn, 0, 0, 0, .null)]
/-- MixMachine$Assembler.symbolAtHand()I -/
def nC123 : List (Option mI) := [some (.aload_n 0, 0, 0, 0, .null), some (.getfield 20, 4, 1, 0, .null), none, none, some (.aload_n 0, 0, 0, 0, .null), some (.getfield 11, 4, 0, 0, .null), none, none, some (.getfield 164, 3, 6, 0, .null), none, none, some (.invokevirtual 168, 182, 2, 0, (.retAddr 5)), none, none, some (.istore_n 1, 2, 0, 0, .null), some (.iload_n 1, 0, 0, 0, .null), some (.iconst (-1), 0, 0, 0, .null), some (.if_icmp .ne 13, 0, 0, 0, .null), none, none, some (.new 146, 171, 150, 1, .null), none, none, none, none, none, none, none, none, none, some (.iload_n 1, 0, 0, 0, .null), some (.ireturn, 0, 0, 0, .null)]
/-- MixMachine$Text.skipSpaces()V -/
def nC124 : List (Option mI) := [some (.aload_n 0, 0, 0, 0, .null), some (.getfield 30, 3, 2, 0, .null), none, none, some (.aload_n 0, 0, 0, 0, .null), some (.getfield 33, 3, 4, 0, .null), none, none, some (.if_icmp .ge 30, 0, 0, 0, .null), none, none, some (.aload_n 0, 0, 0, 0, .null), some (.getfield 9, 3, 0, 0, .null), none, none, some (.aload_n 0, 0, 0, 0, .null), some (.getfield 30, 3, 2, 0, .null), none, none, some (.caload, 0, 0, 0, .null), some (.bipush 32, 0, 0, 0, .null), none, some (.if_icmp .ne 16, 0, 0, 0, .null), none, none, some (.aload_n 0, 0, 0, 0, .null), some (.dup, 0, 0, 0, .null), some (.getfield 30, 3, 2, 0, .null), none, none, some (.iconst 1, 0, 0, 0, .null), some (.iadd, 0, 0, 0, .null), some (.putfield 30, 3, 2, 0, .null), none, none, some (.goto (-35), 0, 0, 0, .null), none, none, some (.return_, 0, 0, 0, .null)]
/-- MixMachine$Operation.codeOf(J)I -/
def nC125 : List (Option mI) := [some (.iconst 0, 0, 0, 0, .null), some (.istore_n 3, 7, 0, 0, .null), some (.iconst 0, 0, 0, 0, .null), some (.istore 4, 7, 0, 0, .null), none, some (.iload 4, 0, 0, 0, .null), none, some (.aload_n 0, 0, 0, 0, .null), some (.getfield 175, 13, 0, 0, .null), none, none, some (.invokevirtual 186, 183, 1, 0, (.retAddr 14)), none, none, some (.if_icmp .ge 62, 0, 0, 0, .null), none, none, some (.aload_n 0, 0, 0, 0, .null), some (.getfield 175, 13, 0, 0, .null), none, none, some (.iload 4, 0, 0, 0, .null), none, some (.invokevirtual 192, 184, 2, 0, (.retAddr 14)), none, none, some (.istore 5, 7, 0, 0, .null), none, some (.lload_n 1, 0, 0, 0, .null), some (.bipush 8, 0, 0, 0, .null), none, some (.iload 4, 0, 0, 0, .null), none, some (.imul, 0, 0, 0, .null), some (.lshr, 0, 0, 0, .null), some (.ldc2_w 196, 0, 0, 0, (.long 255)), none, none, some (.land, 0, 0, 0, .null), some (.l2i, 0, 0, 0, .null), some (.i2c, 0, 0, 0, .null), some (.istore 6, 7, 0, 0, .null), none, some (.iload 5, 0, 0, 0, .null), none, some (.bipush 63, 0, 0, 0, .null), none, some (.if_icmp .ne 14, 0, 0, 0, .null), none, none, some (.ldc 198, 0, 0, 0, (.ref 53)), none, some (.iload 6, 0, 0, 0, .null), none, some (.invokevirtual 200, 185, 2, 0, (.retAddr 14)), none, none, some (.istore_n 3, 7, 0, 0, .null), some (.goto 12, 0, 0, 0, .null), none, none, some (.iload 6, 0, 0, 0, .null), none, some (.iload 5, 0, 0, 0, .null), none, some (.if_icmp .eq 5, 0, 0, 0, .null), none, none, some (.iconst (-1), 0, 0, 0, .null), some (.ireturn, 0, 0, 0, .null), some (.iinc 4 1, 7, 0, 0, .null), none, none, some (.goto (-68), 0, 0, 0, .null), none, none, some (.lload_n 1, 0, 0, 0, .null), some (.bipush 8, 0, 0, 0, .null), none, some (.aload_n 0, 0, 0, 0, .null), some (.getfield 175, 13, 0, 0, .null), none, none, some (.invokevirtual 186, 183, 1, 0, (.retAddr 14)), none, none, some (.imul, 0, 0, 0, .null), some (.lshr, 0, 0, 0, .null), some (.lconst 0, 0, 0, 0, .null), some (.lcmp, 0, 0, 0, .null), some (.ifCond .ne 7, 0, 0, 0, .null), none, none, some (.iconst 1, 0, 0, 0, .null), some (.goto 4, 0, 0, 0, .null), none, none, some (.iconst 0, 0, 0, 0, .null), some (.istore 4, 7, 0, 0, .null), none, some (.iload 4, 0, 0, 0, .null), none, some (.ifCond .eq 16, 0, 0, 0, .null), none, none, some (.iload_n 3, 0, 0, 0, .null), some (.ifCond .lt 12, 0, 0, 0, .null), none, none, some (.aload_n 0, 0, 0, 0, .null), some (.getfield 179, 13, 1, 0, .null), none, none, some (.iload_n 3, 0, 0, 0, .null), some (.iadd, 0, 0, 0, .null), some (.goto 4, 0, 0, 0, .null), none, none, some (.iconst (-1), 0, 0, 0, .null), some (.ireturn, 0, 0, 0, .null)]
/-- MixMachine$Assembler.readAPart()I -/
def nC126 : List (Option mI) := [some (.aload_n 0, 0, 0, 0, .null), some (.iconst (-1), 0, 0, 0, .null), some (.putfield 255, 4, 17, 0, .null), none, none, some (.aload_n 0, 0, 0, 0, .null), some (.getfield 11, 4, 0, 0, .null), none, none, some (.invokevirtual 270, 186, 1, 0, (.retAddr 3)), none, none, some (.ifCond .eq 5, 0, 0, 0, .null), none, none, some (.iconst 0, 0, 0, 0, .null), some (.ireturn, 0, 0, 0, .null), some (.aload_n 0, 0, 0, 0, .null), some (.getfield 11, 4, 0, 0, .null), none, none, some (.bipush 61, 0, 0, 0, .null), none, some (.invokevirtual 230, 127, 2, 0, (.retAddr 3)), none, none, some (.ifCond .eq 13, 0, 0, 0, .null), none, none, some (.aload_n 0, 0, 0, 0, .null), some (.aload_n 0, 0, 0, 0, .null), some (.invokevirtual 193, 134, 1, 0, (.retAddr 4)), none, none, some (.invokevirtual 273, 187, 2, 0, (.retAddr 4)), none, none, some (.iconst 0, 0, 0, 0, .null), some (.ireturn, 0, 0, 0, .null), some (.aload_n 0, 0, 0, 0, .null), some (.getfield 11, 4, 0, 0, .null), none, none, some (.getfield 276, 3, 2, 0, .null), none, none, some (.istore_n 1, 4, 0, 0, .null), some (.aload_n 0, 0, 0, 0, .null), some (.getfield 11, 4, 0, 0, .null), none, none, some (.invokevirtual 140, 120, 1, 0, (.retAddr 3)), none, none, some (.aload_n 0, 0, 0, 0, .null), some (.getfield 11, 4, 0, 0, .null), none, none, some (.invokevirtual 270, 186, 1, 0, (.retAddr 3)), none, none, some (.ifCond .eq 12, 0, 0, 0, .null), none, none, some (.aload_n 0, 0, 0, 0, .null), some (.invokevirtual 279, 188, 1, 0, (.retAddr 4)), none, none, some (.ifCond .eq 5, 0, 0, 0, .null), none, none, some (.iconst 0, 0, 0, 0, .null), some (.ireturn, 0, 0, 0, .null), some (.aload_n 0, 0, 0, 0, .null), some (.getfield 11, 4, 0, 0, .null), none, none, some (.iload_n 1, 0, 0, 0, .null), some (.putfield 276, 3, 2, 0, .null), none, none, some (.aload_n 0, 0, 0, 0, .null), some (.invokevirtual 264, 189, 1, 0, (.retAddr 4)), none, none, some (.lstore_n 2, 4, 0, 0, .null), some (.lload_n 2, 0, 0, 0, .null), some (.ldc2_w 282, 0, 0, 0, (.long (-4096))), none, none, some (.lcmp, 0, 0, 0, .null), some (.ifCond .le 11, 0, 0, 0, .null), none, none, some (.lload_n 2, 0, 0, 0, .null), some (.ldc2_w 284, 0, 0, 0, (.long 4096)), none, none, some (.lcmp, 0, 0, 0, .null), some (.ifCond .lt 14, 0, 0, 0, .null), none, none, some (.new 146, 286, 150, 1, (.retAddr 1)), none, none, none, none, none, none, none, none, none, none, some (.lload_n 2, 0, 0, 0, .null), some (.invokestatic 99, 86, 1, 0, .null), none, none, some (.ireturn, 0, 0, 0, .null)]
/-- MixMachine$Text.take(C)Z -/
def nC127 : List (Option mI) := [some (.aload_n 0, 0, 0, 0, .null), some (.getfield 30, 3, 2, 0, .null), none, none, some (.aload_n 0, 0, 0, 0, .null), some (.getfield 36, 3, 5, 0, .null), none, none, some (.if_icmp .ge 16, 0, 0, 0, .null), none, none, some (.aload_n 0, 0, 0, 0, .null), some (.getfield 9, 3, 0, 0, .null), none, none, some (.aload_n 0, 0, 0, 0, .null), some (.getfield 30, 3, 2, 0, .null), none, none, some (.caload, 0, 0, 0, .null), some (.iload_n 1, 0, 0, 0, .null), some (.if_icmp .eq 5, 0, 0, 0, .null), none, none, some (.iconst 0, 0, 0, 0, .null), some (.ireturn, 1, 0, 0, .null), some (.aload_n 0, 0, 0, 0, .null), some (.dup, 0, 0, 0, .null), some (.getfield 30, 3, 2, 0, .null), none, none, some (.iconst 1, 0, 0, 0, .null), some (.iadd, 0, 0, 0, .null), some (.putfield 30, 3, 2, 0, .null), none, none, some (.iconst 1, 0, 0, 0, .null), some (.ireturn, 1, 0, 0, .null)]
/-- MixMachine$Assembler.readUpTo(I)I -/
def nC128 : List (Option mI) := [some (.aload_n 0, 0, 0, 0, .null), some (.invokevirtual 264, 189, 1, 0, (.retAddr 4)), none, none, some (.lstore_n 2, 4, 0, 0, .null), some (.lload_n 2, 0, 0, 0, .null), some (.lconst 0, 0, 0, 0, .null), some (.lcmp, 0, 0, 0, .null), some (.ifCond .lt 10, 0, 0, 0, .null), none, none, some (.lload_n 2, 0, 0, 0, .null), some (.iload_n 1, 0, 0, 0, .null), some (.i2l, 0, 0, 0, .null), some (.lcmp, 0, 0, 0, .null), some (.ifCond .le 14, 0, 0, 0, .null), none, none, some (.new 146, 268, 150, 1, (.retAddr 1)), none, none, none, none, none, none, none, none, none, none, some (.lload_n 2, 0, 0, 0, .null), some (.l2i, 0, 0, 0, .null), some (.ireturn, 0, 0, 0, .null)]
/-- MixMachine$Operation.tellsF()Z -/
def nC129 : List (Option mI) := [some (.aload_n 0, 0, 0, 0, .null), some (.getfield 179, 13, 1, 0, .null), none, none, some (.iconst 5, 0, 0, 0, .null), some (.if_icmp .eq 30, 0, 0, 0, .null), none, none, some (.aload_n 0, 0, 0, 0, .null), some (.getfield 179, 13, 1, 0, .null), none, none, some (.bipush 6, 0, 0, 0, .null), none, some (.if_icmp .eq 21, 0, 0, 0, .null), none, none, some (.aload_n 0, 0, 0, 0, .null), some (.getfield 179, 13, 1, 0, .null), none, none, some (.bipush 39, 0, 0, 0, .null), none, some (.if_icmp .lt 16, 0, 0, 0, .null), none, none, some (.aload_n 0, 0, 0, 0, .null), some (.getfield 179, 13, 1, 0, .null), none, none, some (.bipush 55, 0, 0, 0, .null), none, some (.if_icmp .gt 7, 0, 0, 0, .null), none, none, some (.iconst 1, 0, 0, 0, .null), some (.goto 4, 0, 0, 0, .null), none, none, some (.iconst 0, 0, 0, 0, .null), some (.ireturn, 1, 0, 0, .null)]
/-- MixMachine$Words.signed(II)I -/
def nC130 : List (Option mI) := [some (.iload_n 0, 0, 0, 0, .null), some (.iconst 2, 0, 0, 0, .null), some (.imul, 0, 0, 0, .null), some (.iload_n 1, 0, 0, 0, .null), some (.iadd, 0, 0, 0, .null), some (.ireturn, 0, 0, 0, .null)]
/-- MixMachine$Words.stored(III)I -/
def nC131 : List (Option mI) := [some (.bipush 6, 0, 0, 0, .null), none, some (.iconst 5, 0, 0, 0, .null), some (.iload_n 1, 0, 0, 0, .null), some (.bipush 7, 0, 0, 0, .null), none, some (.iand, 0, 0, 0, .null), some (.isub, 0, 0, 0, .null), some (.imul, 0, 0, 0, .null), some (.istore_n 3, 6, 0, 0, .null), some (.iload_n 1, 0, 0, 0, .null), some (.invokestatic 17, 190, 1, 0, .null), none, none, some (.istore 4, 6, 0, 0, .null), none, some (.iload_n 0, 0, 0, 0, .null), some (.invokestatic 13, 138, 1, 0, .null), none, none, some (.iload 4, 0, 0, 0, .null), none, some (.iload_n 3, 0, 0, 0, .null), some (.ishl, 0, 0, 0, .null), some (.iconst (-1), 0, 0, 0, .null), some (.ixor, 0, 0, 0, .null), some (.iand, 0, 0, 0, .null), some (.istore 5, 6, 0, 0, .null), none, some (.iload 5, 0, 0, 0, .null), none, some (.iload_n 2, 0, 0, 0, .null), some (.invokestatic 13, 138, 1, 0, .null), none, none, some (.iload 4, 0, 0, 0, .null), none, some (.iand, 0, 0, 0, .null), some (.iload_n 3, 0, 0, 0, .null), some (.ishl, 0, 0, 0, .null), some (.ior, 0, 0, 0, .null), some (.iload_n 1, 0, 0, 0, .null), some (.bipush 8, 0, 0, 0, .null), none, some (.if_icmp .ge 7, 0, 0, 0, .null), none, none, some (.iload_n 2, 0, 0, 0, .null), some (.goto 4, 0, 0, 0, .null), none, none, some (.iload_n 0, 0, 0, 0, .null), some (.invokestatic 20, 191, 1, 0, .null), none, none, some (.invokestatic 23, 130, 2, 0, .null), none, none, some (.ireturn, 0, 0, 0, .null)]
/-- MixMachine$Assembler.put(I)V -/
def nC132 : List (Option mI) := [some (.aload_n 0, 0, 0, 0, .null), some (.getfield 67, 4, 8, 0, .null), none, none, some (.invokestatic 221, 76, 1, 0, .null), none, none, some (.ifCond .ne 14, 0, 0, 0, .null), none, none, some (.new 146, 327, 150, 1, (.retAddr 1)), none, none, none, none, none, none, none, none, none, none, some (.aload_n 0, 0, 0, 0, .null), some (.getfield 34, 4, 4, 0, .null), none, none, some (.aload_n 0, 0, 0, 0, .null), some (.getfield 67, 4, 8, 0, .null), none, none, some (.iload_n 1, 0, 0, 0, .null), some (.iastore, 0, 0, 0, .null), some (.aload_n 0, 0, 0, 0, .null), some (.dup, 0, 0, 0, .null), some (.getfield 67, 4, 8, 0, .null), none, none, some (.iconst 1, 0, 0, 0, .null), some (.iadd, 0, 0, 0, .null), some (.putfield 67, 4, 8, 0, .null), none, none, some (.return_, 0, 0, 0, .null)]
/-- MixMachine$Waits.add(III)Z -/
def nC133 : List (Option mI) := [some (.aload_n 0, 0, 0, 0, .null), some (.getfield 19, 6, 3, 0, .null), none, none, some (.bipush 60, 0, 0, 0, .null), none, some (.if_icmp .lt 5, 0, 0, 0, .null), none, none, some (.iconst 0, 0, 0, 0, .null), some (.ireturn, 1, 0, 0, .null), some (.aload_n 0, 0, 0, 0, .null), some (.getfield 9, 6, 0, 0, .null), none, none, some (.aload_n 0, 0, 0, 0, .null), some (.getfield 19, 6, 3, 0, .null), none, none, some (.iload_n 1, 0, 0, 0, .null), some (.iastore, 0, 0, 0, .null), some (.aload_n 0, 0, 0, 0, .null), some (.getfield 13, 6, 1, 0, .null), none, none, some (.aload_n 0, 0, 0, 0, .null), some (.getfield 19, 6, 3, 0, .null), none, none, some (.iload_n 2, 0, 0, 0, .null), some (.iastore, 0, 0, 0, .null), some (.aload_n 0, 0, 0, 0, .null), some (.getfield 16, 6, 2, 0, .null), none, none, some (.aload_n 0, 0, 0, 0, .null), some (.getfield 19, 6, 3, 0, .null), none, none, some (.iload_n 3, 0, 0, 0, .null), some (.iastore, 0, 0, 0, .null), some (.aload_n 0, 0, 0, 0, .null), some (.dup, 0, 0, 0, .null), some (.getfield 19, 6, 3, 0, .null), none, none, some (.iconst 1, 0, 0, 0, .null), some (.iadd, 0, 0, 0, .null), some (.putfield 19, 6, 3, 0, .null), none, none, some (.iconst 1, 0, 0, 0, .null), some (.ireturn, 1, 0, 0, .null)]
/-- MixMachine$Assembler.readW()I -/
def nC134 : List (Option mI) := [some (.iconst 0, 0, 0, 0, .null), some (.istore_n 1, 7, 0, 0, .null), some (.iconst 1, 0, 0, 0, .null), some (.istore_n 2, 7, 0, 0, .null), some (.iconst 0, 0, 0, 0, .null), some (.istore_n 3, 7, 0, 0, .null), some (.iload_n 3, 0, 0, 0, .null), some (.sipush 240, 0, 0, 0, .null), none, none, some (.if_icmp .ge 96, 0, 0, 0, .null), none, none, some (.iload_n 2, 0, 0, 0, .null), some (.ifCond .eq 92, 0, 0, 0, .null), none, none, some (.aload_n 0, 0, 0, 0, .null), some (.invokevirtual 264, 189, 1, 0, (.retAddr 4)), none, none, some (.invokestatic 99, 86, 1, 0, .null), none, none, some (.istore 4, 7, 0, 0, .null), none, some (.ldc2_w 293, 0, 0, 0, (.long 5)), none, none, some (.lstore 5, 7, 0, 0, .null), none, some (.aload_n 0, 0, 0, 0, .null), some (.getfield 11, 4, 0, 0, .null), none, none, some (.bipush 40, 0, 0, 0, .null), none, some (.invokevirtual 230, 127, 2, 0, (.retAddr 3)), none, none, some (.ifCond .eq 40, 0, 0, 0, .null), none, none, some (.aload_n 0, 0, 0, 0, .null), some (.invokevirtual 264, 189, 1, 0, (.retAddr 4)), none, none, some (.lstore 5, 7, 0, 0, .null), none, some (.lload 5, 0, 0, 0, .null), none, some (.invokestatic 295, 192, 1, 0, .null), none, none, some (.ifCond .eq 15, 0, 0, 0, .null), none, none, some (.aload_n 0, 0, 0, 0, .null), some (.getfield 11, 4, 0, 0, .null), none, none, some (.bipush 41, 0, 0, 0, .null), none, some (.invokevirtual 230, 127, 2, 0, (.retAddr 3)), none, none, some (.ifCond .ne 14, 0, 0, 0, .null), none, none, some (.new 146, 299, 150, 1, (.retAddr 1)), none, none, none, none, none, none, none, none, none, none, some (.iload_n 1, 0, 0, 0, .null), some (.lload 5, 0, 0, 0, .null), none, some (.l2i, 0, 0, 0, .null), some (.iload 4, 0, 0, 0, .null), none, some (.invokestatic 251, 131, 3, 0, .null), none, none, some (.istore_n 1, 7, 0, 0, .null), some (.aload_n 0, 0, 0, 0, .null), some (.getfield 11, 4, 0, 0, .null), none, none, some (.bipush 44, 0, 0, 0, .null), none, some (.invokevirtual 230, 127, 2, 0, (.retAddr 3)), none, none, some (.istore_n 2, 7, 0, 0, .null), some (.iinc 3 1, 7, 0, 0, .null), none, none, some (.goto (-97), 0, 0, 0, .null), none, none, some (.iload_n 1, 0, 0, 0, .null), some (.ireturn, 0, 0, 0, .null)]
/-- MixMachine$Assembler.equate(I)V -/
def nC135 : List (Option mI) := [some (.aload_n 0, 0, 0, 0, .null), some (.getfield 105, 4, 12, 0, .null), none, none, some (.iconst 2, 0, 0, 0, .null), some (.if_icmp .ne 12, 0, 0, 0, .null), none, none, some (.aload_n 0, 0, 0, 0, .null), some (.aload_n 0, 0, 0, 0, .null), some (.getfield 111, 4, 13, 0, .null), none, none, some (.iload_n 1, 0, 0, 0, .null), some (.invokevirtual 114, 87, 3, 0, (.retAddr 4)), none, none, some (.return_, 0, 0, 0, .null)]
/-- MixMachine$Words.value(I)I -/
def nC136 : List (Option mI) := [some (.iload_n 0, 0, 0, 0, .null), some (.iconst 1, 0, 0, 0, .null), some (.iand, 0, 0, 0, .null), some (.iconst 1, 0, 0, 0, .null), some (.if_icmp .ne 10, 0, 0, 0, .null), none, none, some (.iload_n 0, 0, 0, 0, .null), some (.iconst 1, 0, 0, 0, .null), some (.iushr, 0, 0, 0, .null), some (.ineg, 0, 0, 0, .null), some (.goto 6, 0, 0, 0, .null), none, none, some (.iload_n 0, 0, 0, 0, .null), some (.iconst 1, 0, 0, 0, .null), some (.iushr, 0, 0, 0, .null), some (.ireturn, 0, 0, 0, .null)]
/-- MixMachine$Assembler.end(I)V -/
def nC137 : List (Option mI) := [some (.aload_n 0, 0, 0, 0, .null), some (.iload_n 1, 0, 0, 0, .null), some (.invokestatic 205, 136, 1, 0, .null), none, none, some (.putfield 218, 4, 9, 0, .null), none, none, some (.aload_n 0, 0, 0, 0, .null), some (.getfield 218, 4, 9, 0, .null), none, none, some (.invokestatic 221, 76, 1, 0, .null), none, none, some (.ifCond .ne 13, 0, 0, 0, .null), none, none, some (.new 146, 225, 150, 1, .null), none, none, none, none, none, none, none, none, none, some (.aload_n 0, 0, 0, 0, .null), some (.iconst 1, 0, 0, 0, .null), some (.putfield 70, 4, 10, 1, .null), none, none, some (.return_, 0, 0, 0, .null)]
/-- MixMachine$Words.magnitude(I)I -/
def nC138 : List (Option mI) := [some (.iload_n 0, 0, 0, 0, .null), some (.iconst 1, 0, 0, 0, .null), some (.iushr, 0, 0, 0, .null), some (.ireturn, 0, 0, 0, .null)]
/-- MixMachineModel.digit(I)Z -/
def nC139 : List (Option mI) := [some (.iload_n 0, 0, 0, 0, .null), some (.bipush 48, 0, 0, 0, .null), none, some (.bipush 57, 0, 0, 0, .null), none, some (.invokestatic 103, 36, 3, 0, .null), none, none, some (.ireturn, 1, 0, 0, .null)]
/-- MixMachineModel.packed(II)J -/
def nC140 : List (Option mI) := [some (.lconst 0, 0, 0, 0, .null), some (.lstore_n 3, 6, 0, 0, .null), some (.iload_n 1, 0, 0, 0, .null), some (.istore 5, 6, 0, 0, .null), none, some (.iload 5, 0, 0, 0, .null), none, some (.iload_n 2, 0, 0, 0, .null), some (.if_icmp .ge 37, 0, 0, 0, .null), none, none, some (.iload 5, 0, 0, 0, .null), none, some (.iload_n 1, 0, 0, 0, .null), some (.bipush 8, 0, 0, 0, .null), none, some (.iadd, 0, 0, 0, .null), some (.if_icmp .ge 28, 0, 0, 0, .null), none, none, some (.lload_n 3, 0, 0, 0, .null), some (.aload_n 0, 0, 0, 0, .null), some (.getfield 32, 7, 19, 0, .null), none, none, some (.iload 5, 0, 0, 0, .null), none, some (.iaload, 0, 0, 0, .null), some (.i2l, 0, 0, 0, .null), some (.bipush 8, 0, 0, 0, .null), none, some (.iload 5, 0, 0, 0, .null), none, some (.iload_n 1, 0, 0, 0, .null), some (.isub, 0, 0, 0, .null), some (.imul, 0, 0, 0, .null), some (.lshl, 0, 0, 0, .null), some (.lor, 0, 0, 0, .null), some (.lstore_n 3, 6, 0, 0, .null), some (.iinc 5 1, 6, 0, 0, .null), none, none, some (.goto (-37), 0, 0, 0, .null), none, none, some (.lload_n 3, 0, 0, 0, .null), some (.lreturn, 0, 0, 0, .null)]
/-- MixMachineModel.first(J)I -/
def nC141 : List (Option mI) := [some (.lload_n 0, 0, 0, 0, .null), some (.ldc2_w 337, 0, 0, 0, (.long 5263182)), none, none, some (.lcmp, 0, 0, 0, .null), some (.ifCond .ne 5, 0, 0, 0, .null), none, none, some (.iconst 0, 0, 0, 0, .null), some (.ireturn, 0, 0, 0, .null), some (.lload_n 0, 0, 0, 0, .null), some (.ldc2_w 339, 0, 0, 0, (.long 4473921)), none, none, some (.lcmp, 0, 0, 0, .null), some (.ifCond .ne 7, 0, 0, 0, .null), none, none, some (.sipush 641, 0, 0, 0, .null), none, none, some (.ireturn, 0, 0, 0, .null), some (.lload_n 0, 0, 0, 0, .null), some (.ldc2_w 341, 0, 0, 0, (.long 4347219)), none, none, some (.lcmp, 0, 0, 0, .null), some (.ifCond .ne 7, 0, 0, 0, .null), none, none, some (.sipush 642, 0, 0, 0, .null), none, none, some (.ireturn, 0, 0, 0, .null), some (.lload_n 0, 0, 0, 0, .null), some (.ldc2_w 343, 0, 0, 0, (.long 5002573)), none, none, some (.lcmp, 0, 0, 0, .null), some (.ifCond .ne 7, 0, 0, 0, .null), none, none, some (.sipush 643, 0, 0, 0, .null), none, none, some (.ireturn, 0, 0, 0, .null), some (.lload_n 0, 0, 0, 0, .null), some (.ldc2_w 345, 0, 0, 0, (.long 5654852)), none, none, some (.lcmp, 0, 0, 0, .null), some (.ifCond .ne 7, 0, 0, 0, .null), none, none, some (.sipush 644, 0, 0, 0, .null), none, none, some (.ireturn, 0, 0, 0, .null), some (.lload_n 0, 0, 0, 0, .null), some (.ldc2_w 347, 0, 0, 0, (.long 5068110)), none, none, some (.lcmp, 0, 0, 0, .null), some (.ifCond .ne 7, 0, 0, 0, .null), none, none, some (.sipush 8197, 0, 0, 0, .null), none, none, some (.ireturn, 0, 0, 0, .null), some (.lload_n 0, 0, 0, 0, .null), some (.ldc2_w 349, 0, 0, 0, (.long 1380010051)), none, none, some (.lcmp, 0, 0, 0, .null), some (.ifCond .ne 7, 0, 0, 0, .null), none, none, some (.sipush 8325, 0, 0, 0, .null), none, none, some (.ireturn, 0, 0, 0, .null), some (.lload_n 0, 0, 0, 0, .null), some (.ldc2_w 351, 0, 0, 0, (.long 5524552)), none, none, some (.lcmp, 0, 0, 0, .null), some (.ifCond .ne 7, 0, 0, 0, .null), none, none, some (.sipush 8453, 0, 0, 0, .null), none, none, some (.ireturn, 0, 0, 0, .null), some (.lload_n 0, 0, 0, 0, .null), some (.ldc2_w 353, 0, 0, 0, (.long 4279379)), none, none, some (.lcmp, 0, 0, 0, .null), some (.ifCond .ne 7, 0, 0, 0, .null), none, none, some (.sipush 8198, 0, 0, 0, .null), none, none, some (.ireturn, 0, 0, 0, .null), some (.lload_n 0, 0, 0, 0, .null), some (.ldc2_w 355, 0, 0, 0, (.long 4280915)), none, none, some (.lcmp, 0, 0, 0, .null), some (.ifCond .ne 7, 0, 0, 0, .null), none, none, some (.sipush 8326, 0, 0, 0, .null), none, none, some (.ireturn, 0, 0, 0, .null), some (.lload_n 0, 0, 0, 0, .null), some (.ldc2_w 357, 0, 0, 0, (.long 1480674387)), none, none, some (.lcmp, 0, 0, 0, .null), some (.ifCond .ne 7, 0, 0, 0, .null), none, none, some (.sipush 8454, 0, 0, 0, .null), none, none, some (.ireturn, 0, 0, 0, .null), some (.lload_n 0, 0, 0, 0, .null), some (.ldc2_w 359, 0, 0, 0, (.long 1480675923)), none, none, some (.lcmp, 0, 0, 0, .null), some (.ifCond .ne 7, 0, 0, 0, .null), none, none, some (.sipush 8582, 0, 0, 0, .null), none, none, some (.ireturn, 0, 0, 0, .null), some (.lload_n 0, 0, 0, 0, .null), some (.ldc2_w 361, 0, 0, 0, (.long 4410451)), none, none, some (.lcmp, 0, 0, 0, .null), some (.ifCond .ne 7, 0, 0, 0, .null), none, none, some (.sipush 8710, 0, 0, 0, .null), none, none, some (.ireturn, 0, 0, 0, .null), some (.lload_n 0, 0, 0, 0, .null), some (.ldc2_w 363, 0, 0, 0, (.long 4411987)), none, none, some (.lcmp, 0, 0, 0, .null), some (.ifCond .ne 7, 0, 0, 0, .null), none, none, some (.sipush 8838, 0, 0, 0, .null), none, none, some (.ireturn, 0, 0, 0, .null), some (.lload_n 0, 0, 0, 0, .null), some (.ldc2_w 365, 0, 0, 0, (.long 1163284301)), none, none, some (.lcmp, 0, 0, 0, .null), some (.ifCond .ne 7, 0, 0, 0, .null), none, none, some (.sipush 135, 0, 0, 0, .null), none, none, some (.ireturn, 0, 0, 0, .null), some (.lload_n 0, 0, 0, 0, .null), some (.ldc2_w 367, 0, 0, 0, (.long 4871251)), none, none, some (.lcmp, 0, 0, 0, .null), some (.ifCond .ne 7, 0, 0, 0, .null), none, none, some (.sipush 288, 0, 0, 0, .null), none, none, some (.ireturn, 0, 0, 0, .null), some (.iconst (-1), 0, 0, 0, .null), some (.ireturn, 0, 0, 0, .null)]
/-- MixMachineModel.second(J)I -/
def nC142 : List (Option mI) := [some (.lload_n 0, 0, 0, 0, .null), some (.ldc2_w 369, 0, 0, 0, (.long 5919827)), none, none, some (.lcmp, 0, 0, 0, .null), some (.ifCond .ne 7, 0, 0, 0, .null), none, none, some (.sipush 673, 0, 0, 0, .null), none, none, some (.ireturn, 0, 0, 0, .null), some (.lload_n 0, 0, 0, 0, .null), some (.ldc2_w 371, 0, 0, 0, (.long 1398096458)), none, none, some (.lcmp, 0, 0, 0, .null), some (.ifCond .ne 6, 0, 0, 0, .null), none, none, some (.bipush 34, 0, 0, 0, .null), none, some (.ireturn, 0, 0, 0, .null), some (.lload_n 0, 0, 0, 0, .null), some (.ldc2_w 373, 0, 0, 0, (.long 4411209)), none, none, some (.lcmp, 0, 0, 0, .null), some (.ifCond .ne 6, 0, 0, 0, .null), none, none, some (.bipush 35, 0, 0, 0, .null), none, some (.ireturn, 0, 0, 0, .null), some (.lload_n 0, 0, 0, 0, .null), some (.ldc2_w 375, 0, 0, 0, (.long 20041)), none, none, some (.lcmp, 0, 0, 0, .null), some (.ifCond .ne 6, 0, 0, 0, .null), none, none, some (.bipush 36, 0, 0, 0, .null), none, some (.ireturn, 0, 0, 0, .null), some (.lload_n 0, 0, 0, 0, .null), some (.ldc2_w 377, 0, 0, 0, (.long 5526863)), none, none, some (.lcmp, 0, 0, 0, .null), some (.ifCond .ne 6, 0, 0, 0, .null), none, none, some (.bipush 37, 0, 0, 0, .null), none, some (.ireturn, 0, 0, 0, .null), some (.lload_n 0, 0, 0, 0, .null), some (.ldc2_w 379, 0, 0, 0, (.long 1145393738)), none, none, some (.lcmp, 0, 0, 0, .null), some (.ifCond .ne 6, 0, 0, 0, .null), none, none, some (.bipush 38, 0, 0, 0, .null), none, some (.ireturn, 0, 0, 0, .null), some (.lload_n 0, 0, 0, 0, .null), some (.ldc2_w 381, 0, 0, 0, (.long 5262666)), none, none, some (.lcmp, 0, 0, 0, .null), some (.ifCond .ne 7, 0, 0, 0, .null), none, none, some (.sipush 8231, 0, 0, 0, .null), none, none, some (.ireturn, 0, 0, 0, .null), some (.lload_n 0, 0, 0, 0, .null), some (.ldc2_w 383, 0, 0, 0, (.long 4870986)), none, none, some (.lcmp, 0, 0, 0, .null), some (.ifCond .ne 7, 0, 0, 0, .null), none, none, some (.sipush 8359, 0, 0, 0, .null), none, none, some (.ireturn, 0, 0, 0, .null), some (.lload_n 0, 0, 0, 0, .null), some (.ldc2_w 385, 0, 0, 0, (.long 5656394)), none, none, some (.lcmp, 0, 0, 0, .null), some (.ifCond .ne 7, 0, 0, 0, .null), none, none, some (.sipush 8487, 0, 0, 0, .null), none, none, some (.ireturn, 0, 0, 0, .null), some (.lload_n 0, 0, 0, 0, .null), some (.ldc2_w 387, 0, 0, 0, (.long 1448037962)), none, none, some (.lcmp, 0, 0, 0, .null), some (.ifCond .ne 7, 0, 0, 0, .null), none, none, some (.sipush 8615, 0, 0, 0, .null), none, none, some (.ireturn, 0, 0, 0, .null), some (.lload_n 0, 0, 0, 0, .null), some (.ldc2_w 389, 0, 0, 0, (.long 19530)), none, none, some (.lcmp, 0, 0, 0, .null), some (.ifCond .ne 7, 0, 0, 0, .null), none, none, some (.sipush 8743, 0, 0, 0, .null), none, none, some (.ireturn, 0, 0, 0, .null), some (.lload_n 0, 0, 0, 0, .null), some (.ldc2_w 391, 0, 0, 0, (.long 17738)), none, none, some (.lcmp, 0, 0, 0, .null), some (.ifCond .ne 7, 0, 0, 0, .null), none, none, some (.sipush 8871, 0, 0, 0, .null), none, none, some (.ireturn, 0, 0, 0, .null), some (.lload_n 0, 0, 0, 0, .null), some (.ldc2_w 393, 0, 0, 0, (.long 18250)), none, none, some (.lcmp, 0, 0, 0, .null), some (.ifCond .ne 7, 0, 0, 0, .null), none, none, some (.sipush 8999, 0, 0, 0, .null), none, none, some (.ireturn, 0, 0, 0, .null), some (.lload_n 0, 0, 0, 0, .null), some (.ldc2_w 395, 0, 0, 0, (.long 4540234)), none, none, some (.lcmp, 0, 0, 0, .null), some (.ifCond .ne 7, 0, 0, 0, .null), none, none, some (.sipush 9127, 0, 0, 0, .null), none, none, some (.ireturn, 0, 0, 0, .null), some (.lload_n 0, 0, 0, 0, .null), some (.ldc2_w 397, 0, 0, 0, (.long 4542026)), none, none, some (.lcmp, 0, 0, 0, .null), some (.ifCond .ne 7, 0, 0, 0, .null), none, none, some (.sipush 9255, 0, 0, 0, .null), none, none, some (.ireturn, 0, 0, 0, .null), some (.lload_n 0, 0, 0, 0, .null), some (.ldc2_w 399, 0, 0, 0, (.long 4541514)), none, none, some (.lcmp, 0, 0, 0, .null), some (.ifCond .ne 7, 0, 0, 0, .null), none, none, some (.sipush 9383, 0, 0, 0, .null), none, none, some (.ireturn, 0, 0, 0, .null), some (.lload_n 0, 0, 0, 0, .null), some (.ldc2_w 401, 0, 0, 0, (.long 5591365)), none, none, some (.lcmp, 0, 0, 0, .null), some (.ifCond .ne 6, 0, 0, 0, .null), none, none, some (.bipush 100, 0, 0, 0, .null), none, some (.ireturn, 0, 0, 0, .null), some (.lload_n 0, 0, 0, 0, .null), some (.ldc2_w 403, 0, 0, 0, (.long 1195987535)), none, none, some (.lcmp, 0, 0, 0, .null), some (.ifCond .ne 6, 0, 0, 0, .null), none, none, some (.bipush 101, 0, 0, 0, .null), none, some (.ireturn, 0, 0, 0, .null), some (.lload_n 0, 0, 0, 0, .null), some (.ldc2_w 405, 0, 0, 0, (.long 5132099)), none, none, some (.lcmp, 0, 0, 0, .null), some (.ifCond .ne 6, 0, 0, 0, .null), none, none, some (.bipush 102, 0, 0, 0, .null), none, some (.ireturn, 0, 0, 0, .null), some (.lload_n 0, 0, 0, 0, .null), some (.ldc2_w 407, 0, 0, 0, (.long 4476485)), none, none, some (.lcmp, 0, 0, 0, .null), some (.ifCond .ne 6, 0, 0, 0, .null), none, none, some (.bipush 103, 0, 0, 0, .null), none, some (.ireturn, 0, 0, 0, .null), some (.iconst (-1), 0, 0, 0, .null), some (.ireturn, 0, 0, 0, .null)]
/-- MixMachineModel.letterOf(I)I -/
def nC143 : List (Option mI) := [some (.iload_n 0, 0, 0, 0, .null), some (.bipush 65, 0, 0, 0, .null), none, some (.if_icmp .ne 7, 0, 0, 0, .null), none, none, some (.iconst 0, 0, 0, 0, .null), some (.goto 33, 0, 0, 0, .null), none, none, some (.iload_n 0, 0, 0, 0, .null), some (.bipush 88, 0, 0, 0, .null), none, some (.if_icmp .ne 8, 0, 0, 0, .null), none, none, some (.bipush 7, 0, 0, 0, .null), none, some (.goto 22, 0, 0, 0, .null), none, none, some (.iload_n 0, 0, 0, 0, .null), some (.bipush 49, 0, 0, 0, .null), none, some (.bipush 54, 0, 0, 0, .null), none, some (.invokestatic 103, 36, 3, 0, .null), none, none, some (.ifCond .eq 10, 0, 0, 0, .null), none, none, some (.iload_n 0, 0, 0, 0, .null), some (.bipush 48, 0, 0, 0, .null), none, some (.isub, 0, 0, 0, .null), some (.goto 4, 0, 0, 0, .null), none, none, some (.iconst (-1), 0, 0, 0, .null), some (.ireturn, 0, 0, 0, .null)]
/-- MixMachineModel.condition(J)I -/
def nC144 : List (Option mI) := [some (.lload_n 0, 0, 0, 0, .null), some (.ldc2_w 409, 0, 0, 0, (.long 78)), none, none, some (.lcmp, 0, 0, 0, .null), some (.ifCond .ne 7, 0, 0, 0, .null), none, none, some (.iconst 0, 0, 0, 0, .null), some (.goto 64, 0, 0, 0, .null), none, none, some (.lload_n 0, 0, 0, 0, .null), some (.ldc2_w 411, 0, 0, 0, (.long 90)), none, none, some (.lcmp, 0, 0, 0, .null), some (.ifCond .ne 7, 0, 0, 0, .null), none, none, some (.iconst 1, 0, 0, 0, .null), some (.goto 52, 0, 0, 0, .null), none, none, some (.lload_n 0, 0, 0, 0, .null), some (.ldc2_w 413, 0, 0, 0, (.long 80)), none, none, some (.lcmp, 0, 0, 0, .null), some (.ifCond .ne 7, 0, 0, 0, .null), none, none, some (.iconst 2, 0, 0, 0, .null), some (.goto 40, 0, 0, 0, .null), none, none, some (.lload_n 0, 0, 0, 0, .null), some (.ldc2_w 415, 0, 0, 0, (.long 20046)), none, none, some (.lcmp, 0, 0, 0, .null), some (.ifCond .ne 7, 0, 0, 0, .null), none, none, some (.iconst 3, 0, 0, 0, .null), some (.goto 28, 0, 0, 0, .null), none, none, some (.lload_n 0, 0, 0, 0, .null), some (.ldc2_w 417, 0, 0, 0, (.long 23118)), none, none, some (.lcmp, 0, 0, 0, .null), some (.ifCond .ne 7, 0, 0, 0, .null), none, none, some (.iconst 4, 0, 0, 0, .null), some (.goto 16, 0, 0, 0, .null), none, none, some (.lload_n 0, 0, 0, 0, .null), some (.ldc2_w 419, 0, 0, 0, (.long 20558)), none, none, some (.lcmp, 0, 0, 0, .null), some (.ifCond .ne 7, 0, 0, 0, .null), none, none, some (.iconst 5, 0, 0, 0, .null), some (.goto 4, 0, 0, 0, .null), none, none, some (.iconst (-1), 0, 0, 0, .null), some (.ireturn, 0, 0, 0, .null)]
/-- MixMachineModel.find(J)I -/
def nC145 : List (Option mI) := [some (.iconst (-1), 0, 0, 0, .null), some (.istore_n 3, 5, 0, 0, .null), some (.iconst 0, 0, 0, 0, .null), some (.istore 4, 5, 0, 0, .null), none, some (.iload 4, 0, 0, 0, .null), none, some (.aload_n 0, 0, 0, 0, .null), some (.getfield 280, 7, 29, 0, .null), none, none, some (.if_icmp .ge 28, 0, 0, 0, .null), none, none, some (.aload_n 0, 0, 0, 0, .null), some (.getfield 45, 7, 30, 0, .null), none, none, some (.iload 4, 0, 0, 0, .null), none, some (.laload, 0, 0, 0, .null), some (.lload_n 1, 0, 0, 0, .null), some (.lcmp, 0, 0, 0, .null), some (.ifCond .ne 8, 0, 0, 0, .null), none, none, some (.iload 4, 0, 0, 0, .null), none, some (.goto 4, 0, 0, 0, .null), none, none, some (.iload_n 3, 0, 0, 0, .null), some (.istore_n 3, 5, 0, 0, .null), some (.iinc 4 1, 5, 0, 0, .null), none, none, some (.goto (-31), 0, 0, 0, .null), none, none, some (.iload_n 3, 0, 0, 0, .null), some (.ireturn, 0, 0, 0, .null)]
/-- MixMachineModel.made(IZ)I -/
def nC146 : List (Option mI) := [some (.iconst 2, 0, 0, 0, .null), some (.iload_n 0, 0, 0, 0, .null), some (.imul, 0, 0, 0, .null), some (.iload_n 1, 0, 0, 0, .null), some (.ifCond .eq 7, 0, 0, 0, .null), none, none, some (.iconst 1, 0, 0, 0, .null), some (.goto 4, 0, 0, 0, .null), none, none, some (.iconst 0, 0, 0, 0, .null), some (.iadd, 0, 0, 0, .null), some (.ireturn, 0, 0, 0, .null)]
/-- MixMachineModel.apart()I -/
def nC147_0 : List (Option mI) := [some (.aload_n 0, 0, 0, 0, .null), some (.invokevirtual 296, 148, 1, 0, (.retAddr 7)), none, none, some (.bipush 61, 0, 0, 0, .null), none, some (.if_icmp .ne 84, 0, 0, 0, .null), none, none, some (.aload_n 0, 0, 0, 0, .null), some (.dup, 0, 0, 0, .null), some (.getfield 268, 7, 21, 0, .null), none, none, some (.iconst 1, 0, 0, 0, .null), some (.iadd, 0, 0, 0, .null), some (.putfield 268, 7, 21, 0, .null), none, none, some (.aload_n 0, 0, 0, 0, .null), some (.invokevirtual 444, 152, 1, 0, (.retAddr 7)), none, none, some (.istore_n 1, 5, 0, 0, .null), some (.aload_n 0, 0, 0, 0, .null), some (.bipush 61, 0, 0, 0, .null), none, some (.invokevirtual 323, 150, 2, 0, (.retAddr 7)), none, none, some (.aload_n 0, 0, 0, 0, .null), some (.getfield 262, 7, 23, 0, .null), none, none, some (.ifCond .ne 16, 0, 0, 0, .null), none, none, some (.aload_n 0, 0, 0, 0, .null), some (.getfield 447, 7, 33, 0, .null), none, none, some (.bipush 20, 0, 0, 0, .null), none, some (.if_icmp .ne 7, 0, 0, 0, .null), none, none, some (.aload_n 0, 0, 0, 0, .null), some (.invokevirtual 291, 40, 1, 0, (.retAddr 7)), none, none, some (.aload_n 0, 0, 0, 0, .null), some (.getfield 262, 7, 23, 0, .null), none, none, some (.ifCond .eq 5, 0, 0, 0, .null), none, none, some (.iconst 0, 0, 0, 0, .null), some (.ireturn, 0, 0, 0, .null), some (.aload_n 0, 0, 0, 0, .null), some (.getfield 55, 7, 34, 0, .null), none, none, some (.aload_n 0, 0, 0, 0, .null), some (.getfield 447, 7, 33, 0, .null), none, none, some (.iload_n 1, 0, 0, 0, .null), some (.iastore, 0, 0, 0, .null), some (.aload_n 0, 0, 0, 0, .null), some (.iconst 2, 0, 0, 0, .null), some (.aload_n 0, 0, 0, 0, .null), some (.getfield 447, 7, 33, 0, .null), none, none, some (.invokevirtual 450, 193, 3, 0, (.retAddr 7)), none, none, some (.aload_n 0, 0, 0, 0, .null), some (.dup, 0, 0, 0, .null), some (.getfield 447, 7, 33, 0, .null), none, none, some (.iconst 1, 0, 0, 0, .null), some (.iadd, 0, 0, 0, .null), some (.putfield 447, 7, 33, 0, .null), none, none, some (.iconst 0, 0, 0, 0, .null), some (.ireturn, 0, 0, 0, .null), some (.aload_n 0, 0, 0, 0, .null), some (.invokevirtual 296, 148, 1, 0, (.retAddr 7)), none, none, some (.ifCond .lt 21, 0, 0, 0, .null), none, none, some (.aload_n 0, 0, 0, 0, .null), some (.invokevirtual 296, 148, 1, 0, (.retAddr 7)), none, none, some (.bipush 44, 0, 0, 0, .null), none, some (.if_icmp .eq 12, 0, 0, 0, .null), none, none, some (.aload_n 0, 0, 0, 0, .null), some (.invokevirtual 296, 148, 1, 0, (.retAddr 7)), none, none, some (.bipush 40, 0, 0, 0, .null), none, some (.if_icmp .ne 5, 0, 0, 0, .null), none, none, some (.iconst 0, 0, 0, 0, .null), some (.ireturn, 0, 0, 0, .null), some (.aload_n 0, 0, 0, 0, .null), some (.aload_n 0, 0, 0, 0, .null), some (.getfield 268, 7, 21, 0, .null), none, none, some (.invokevirtual 306, 66, 2, 0, (.retAddr 7)), none, none, some (.istore_n 1, 5, 0, 0, .null), some (.iload_n 1, 0, 0, 0, .null), some (.aload_n 0, 0, 0, 0, .null), some (.getfield 268, 7, 21, 0, .null), none, none, some (.if_icmp .le 37, 0, 0, 0, .null), none, none, some (.iload_n 1, 0, 0, 0, .null), some (.aload_n 0, 0, 0, 0, .null), some (.getfield 271, 7, 22, 0, .null), none, none, some (.if_icmp .eq 25, 0, 0, 0, .null), none, none, some (.aload_n 0, 0, 0, 0, .null), some (.getfield 32, 7, 19, 0, .null), none, none, some (.iload_n 1, 0, 0, 0, .null), some (.iaload, 0, 0, 0, .null), some (.bipush 44, 0, 0, 0, .null), none, some (.if_icmp .eq 14, 0, 0, 0, .null), none, none, some (.aload_n 0, 0, 0, 0, .null), some (.getfield 32, 7, 19, 0, .null), none, none, some (.iload_n 1, 0, 0, 0, .null), some (.iaload, 0, 0, 0, .null), some (.bipush 40, 0, 0, 0, .null), none, some (.if_icmp .ne 7, 0, 0, 0, .null), none, none, some (.iconst 1, 0, 0, 0, .null), some (.goto 4, 0, 0, 0, .null), none, none, some (.iconst 0, 0, 0, 0, .null), some (.istore_n 2, 5, 0, 0, .null), some (.iload_n 2, 0, 0, 0, .null), some (.ifCond .eq 41, 0, 0, 0, .null), none, none, some (.aload_n 0, 0, 0, 0, .null), some (.aload_n 0, 0, 0, 0, .null), some (.getfield 268, 7, 21, 0, .null), none, none, some (.iload_n 1, 0, 0, 0, .null), some (.bipush 70, 0, 0, 0, .null), none, some (.invokevirtual 277, 97, 4, 0, (.retAddr 7)), none, none, some (.ifCond .eq 27, 0, 0, 0, .null), none, none, some (.aload_n 0, 0, 0, 0, .null), some (.iconst 1, 0, 0, 0, .null), some (.aload_n 0, 0, 0, 0, .null), some (.getfield 32, 7, 19, 0, .null), none, none, some (.aload_n 0, 0, 0, 0, .null), some (.getfield 268, 7, 21, 0, .null), none, none, some (.iaload, 0, 0, 0, .null), some (.bipush 48, 0, 0, 0, .null)]
def nC147_1 : List (Option mI) := [none, some (.isub, 0, 0, 0, .null), some (.invokevirtual 450, 193, 3, 0, (.retAddr 7)), none, none, some (.aload_n 0, 0, 0, 0, .null), some (.iload_n 1, 0, 0, 0, .null), some (.putfield 268, 7, 21, 0, .null), none, none, some (.iconst 0, 0, 0, 0, .null), some (.ireturn, 0, 0, 0, .null), some (.iload_n 2, 0, 0, 0, .null), some (.ifCond .eq 31, 0, 0, 0, .null), none, none, some (.aload_n 0, 0, 0, 0, .null), some (.aload_n 0, 0, 0, 0, .null), some (.getfield 268, 7, 21, 0, .null), none, none, some (.iload_n 1, 0, 0, 0, .null), some (.invokevirtual 309, 99, 3, 0, (.retAddr 7)), none, none, some (.ifCond .eq 19, 0, 0, 0, .null), none, none, some (.aload_n 0, 0, 0, 0, .null), some (.aload_n 0, 0, 0, 0, .null), some (.aload_n 0, 0, 0, 0, .null), some (.getfield 268, 7, 21, 0, .null), none, none, some (.iload_n 1, 0, 0, 0, .null), some (.invokevirtual 283, 140, 3, 0, (.retAddr 7)), none, none, some (.invokevirtual 287, 145, 2, 0, (.retAddr 7)), none, none, some (.goto 4, 0, 0, 0, .null), none, none, some (.iconst (-1), 0, 0, 0, .null), some (.istore_n 3, 5, 0, 0, .null), some (.iload_n 2, 0, 0, 0, .null), some (.ifCond .eq 58, 0, 0, 0, .null), none, none, some (.aload_n 0, 0, 0, 0, .null), some (.aload_n 0, 0, 0, 0, .null), some (.getfield 268, 7, 21, 0, .null), none, none, some (.iload_n 1, 0, 0, 0, .null), some (.invokevirtual 309, 99, 3, 0, (.retAddr 7)), none, none, some (.ifCond .eq 46, 0, 0, 0, .null), none, none, some (.iload_n 3, 0, 0, 0, .null), some (.ifCond .lt 12, 0, 0, 0, .null), none, none, some (.aload_n 0, 0, 0, 0, .null), some (.getfield 49, 7, 31, 0, .null), none, none, some (.iload_n 3, 0, 0, 0, .null), some (.baload, 0, 0, 0, .null), some (.ifCond .ne 33, 0, 0, 0, .null), none, none, some (.aload_n 0, 0, 0, 0, .null), some (.aload_n 0, 0, 0, 0, .null), some (.getfield 268, 7, 21, 0, .null), none, none, some (.iload_n 1, 0, 0, 0, .null), some (.invokevirtual 453, 100, 3, 0, (.retAddr 7)), none, none, some (.istore_n 3, 5, 0, 0, .null), some (.aload_n 0, 0, 0, 0, .null), some (.getfield 262, 7, 23, 0, .null), none, none, some (.ifCond .ne 9, 0, 0, 0, .null), none, none, some (.aload_n 0, 0, 0, 0, .null), some (.iconst 0, 0, 0, 0, .null), some (.iload_n 3, 0, 0, 0, .null), some (.invokevirtual 450, 193, 3, 0, (.retAddr 7)), none, none, some (.aload_n 0, 0, 0, 0, .null), some (.iload_n 1, 0, 0, 0, .null), some (.putfield 268, 7, 21, 0, .null), none, none, some (.iconst 0, 0, 0, 0, .null), some (.ireturn, 0, 0, 0, .null), some (.aload_n 0, 0, 0, 0, .null), some (.invokevirtual 320, 149, 1, 0, (.retAddr 7)), none, none, some (.istore 4, 5, 0, 0, .null), none, some (.iload 4, 0, 0, 0, .null), none, some (.sipush 4096, 0, 0, 0, .null), none, none, some (.if_icmp .ge 11, 0, 0, 0, .null), none, none, some (.iload 4, 0, 0, 0, .null), none, some (.sipush (-4096), 0, 0, 0, .null), none, none, some (.if_icmp .gt 7, 0, 0, 0, .null), none, none, some (.aload_n 0, 0, 0, 0, .null), some (.invokevirtual 291, 40, 1, 0, (.retAddr 7)), none, none, some (.iload 4, 0, 0, 0, .null), none, some (.ireturn, 0, 0, 0, .null)]
def nC147 : List (Option mI) := nC147_0 ++ (nC147_1)
/-- MixMachineModel.here()I -/
def nC148 : List (Option mI) := [some (.aload_n 0, 0, 0, 0, .null), some (.getfield 268, 7, 21, 0, .null), none, none, some (.aload_n 0, 0, 0, 0, .null), some (.getfield 271, 7, 22, 0, .null), none, none, some (.if_icmp .ge 15, 0, 0, 0, .null), none, none, some (.aload_n 0, 0, 0, 0, .null), some (.getfield 32, 7, 19, 0, .null), none, none, some (.aload_n 0, 0, 0, 0, .null), some (.getfield 268, 7, 21, 0, .null), none, none, some (.iaload, 0, 0, 0, .null), some (.goto 4, 0, 0, 0, .null), none, none, some (.iconst (-1), 0, 0, 0, .null), some (.ireturn, 0, 0, 0, .null)]
/-- MixMachineModel.expression()I -/
def nC149 : List (Option mI) := [some (.aload_n 0, 0, 0, 0, .null), some (.invokevirtual 296, 148, 1, 0, (.retAddr 7)), none, none, some (.bipush 45, 0, 0, 0, .null), none, some (.if_icmp .ne 7, 0, 0, 0, .null), none, none, some (.iconst 1, 0, 0, 0, .null), some (.goto 4, 0, 0, 0, .null), none, none, some (.iconst 0, 0, 0, 0, .null), some (.istore_n 1, 5, 0, 0, .null), some (.iload_n 1, 0, 0, 0, .null), some (.ifCond .ne 12, 0, 0, 0, .null), none, none, some (.aload_n 0, 0, 0, 0, .null), some (.invokevirtual 296, 148, 1, 0, (.retAddr 7)), none, none, some (.bipush 43, 0, 0, 0, .null), none, some (.if_icmp .ne 13, 0, 0, 0, .null), none, none, some (.aload_n 0, 0, 0, 0, .null), some (.dup, 0, 0, 0, .null), some (.getfield 268, 7, 21, 0, .null), none, none, some (.iconst 1, 0, 0, 0, .null), some (.iadd, 0, 0, 0, .null), some (.putfield 268, 7, 21, 0, .null), none, none, some (.aload_n 0, 0, 0, 0, .null), some (.invokevirtual 312, 194, 1, 0, (.retAddr 7)), none, none, some (.istore_n 2, 5, 0, 0, .null), some (.iload_n 1, 0, 0, 0, .null), some (.ifCond .eq 6, 0, 0, 0, .null), none, none, some (.iload_n 2, 0, 0, 0, .null), some (.ineg, 0, 0, 0, .null), some (.istore_n 2, 5, 0, 0, .null), some (.aload_n 0, 0, 0, 0, .null), some (.getfield 262, 7, 23, 0, .null), none, none, some (.ifCond .ne 133, 0, 0, 0, .null), none, none, some (.aload_n 0, 0, 0, 0, .null), some (.invokevirtual 296, 148, 1, 0, (.retAddr 7)), none, none, some (.invokestatic 315, 195, 1, 0, .null), none, none, some (.ifCond .eq 123, 0, 0, 0, .null), none, none, some (.aload_n 0, 0, 0, 0, .null), some (.invokevirtual 296, 148, 1, 0, (.retAddr 7)), none, none, some (.istore_n 3, 5, 0, 0, .null), some (.aload_n 0, 0, 0, 0, .null), some (.dup, 0, 0, 0, .null), some (.getfield 268, 7, 21, 0, .null), none, none, some (.iconst 1, 0, 0, 0, .null), some (.iadd, 0, 0, 0, .null), some (.putfield 268, 7, 21, 0, .null), none, none, some (.aload_n 0, 0, 0, 0, .null), some (.invokevirtual 312, 194, 1, 0, (.retAddr 7)), none, none, some (.istore 4, 5, 0, 0, .null), none, some (.iload_n 3, 0, 0, 0, .null), some (.bipush 47, 0, 0, 0, .null), none, some (.if_icmp .ne 12, 0, 0, 0, .null), none, none, some (.iload 4, 0, 0, 0, .null), none, some (.ifCond .ne 7, 0, 0, 0, .null), none, none, some (.aload_n 0, 0, 0, 0, .null), some (.invokevirtual 291, 40, 1, 0, (.retAddr 7)), none, none, some (.aload_n 0, 0, 0, 0, .null), some (.getfield 262, 7, 23, 0, .null), none, none, some (.ifCond .ne 77, 0, 0, 0, .null), none, none, some (.aload_n 0, 0, 0, 0, .null), some (.iload_n 3, 0, 0, 0, .null), some (.bipush 43, 0, 0, 0, .null), none, some (.if_icmp .ne 12, 0, 0, 0, .null), none, none, some (.iload_n 2, 0, 0, 0, .null), some (.i2l, 0, 0, 0, .null), some (.iload 4, 0, 0, 0, .null), none, some (.i2l, 0, 0, 0, .null), some (.ladd, 0, 0, 0, .null), some (.goto 57, 0, 0, 0, .null), none, none, some (.iload_n 3, 0, 0, 0, .null), some (.bipush 45, 0, 0, 0, .null), none, some (.if_icmp .ne 12, 0, 0, 0, .null), none, none, some (.iload_n 2, 0, 0, 0, .null), some (.i2l, 0, 0, 0, .null), some (.iload 4, 0, 0, 0, .null), none, some (.i2l, 0, 0, 0, .null), some (.lsub, 0, 0, 0, .null), some (.goto 42, 0, 0, 0, .null), none, none, some (.iload_n 3, 0, 0, 0, .null), some (.bipush 42, 0, 0, 0, .null), none, some (.if_icmp .ne 12, 0, 0, 0, .null), none, none, some (.iload_n 2, 0, 0, 0, .null), some (.i2l, 0, 0, 0, .null), some (.iload 4, 0, 0, 0, .null), none, some (.i2l, 0, 0, 0, .null), some (.lmul, 0, 0, 0, .null), some (.goto 27, 0, 0, 0, .null), none, none, some (.iload_n 3, 0, 0, 0, .null), some (.bipush 47, 0, 0, 0, .null), none, some (.if_icmp .ne 11, 0, 0, 0, .null), none, none, some (.iload_n 2, 0, 0, 0, .null), some (.iload 4, 0, 0, 0, .null), none, some (.idiv, 0, 0, 0, .null), some (.i2l, 0, 0, 0, .null), some (.goto 13, 0, 0, 0, .null), none, none, some (.ldc2_w 318, 0, 0, 0, (.long 8)), none, none, some (.iload_n 2, 0, 0, 0, .null), some (.i2l, 0, 0, 0, .null), some (.lmul, 0, 0, 0, .null), some (.iload 4, 0, 0, 0, .null), none, some (.i2l, 0, 0, 0, .null), some (.ladd, 0, 0, 0, .null), some (.invokevirtual 303, 196, 2, 0, (.retAddr 7)), none, none, some (.istore_n 2, 5, 0, 0, .null), some (.goto (-134), 0, 0, 0, .null), none, none, some (.iload_n 2, 0, 0, 0, .null), some (.ireturn, 0, 0, 0, .null)]
/-- MixMachineModel.expect(I)V -/
def nC150 : List (Option mI) := [some (.aload_n 0, 0, 0, 0, .null), some (.invokevirtual 296, 148, 1, 0, (.retAddr 7)), none, none, some (.iload_n 1, 0, 0, 0, .null), some (.if_icmp .eq 7, 0, 0, 0, .null), none, none, some (.aload_n 0, 0, 0, 0, .null), some (.invokevirtual 291, 40, 1, 0, (.retAddr 7)), none, none, some (.aload_n 0, 0, 0, 0, .null), some (.dup, 0, 0, 0, .null), some (.getfield 268, 7, 21, 0, .null), none, none, some (.iconst 1, 0, 0, 0, .null), some (.iadd, 0, 0, 0, .null), some (.putfield 268, 7, 21, 0, .null), none, none, some (.return_, 0, 0, 0, .null)]
/-- MixMachineModel.stand(II)V -/
def nC151 : List (Option mI) := [some (.aload_n 0, 0, 0, 0, .null), some (.iload_n 1, 0, 0, 0, .null), some (.invokevirtual 107, 46, 2, 0, (.retAddr 7)), none, none, some (.ifCond .ne 8, 0, 0, 0, .null), none, none, some (.aload_n 0, 0, 0, 0, .null), some (.invokevirtual 291, 40, 1, 0, (.retAddr 7)), none, none, some (.return_, 0, 0, 0, .null), some (.aload_n 0, 0, 0, 0, .null), some (.getfield 38, 7, 27, 0, .null), none, none, some (.iload_n 1, 0, 0, 0, .null), some (.iload_n 2, 0, 0, 0, .null), some (.iastore, 0, 0, 0, .null), some (.aload_n 0, 0, 0, 0, .null), some (.getfield 41, 7, 28, 0, .null), none, none, some (.iload_n 1, 0, 0, 0, .null), some (.iconst 1, 0, 0, 0, .null), some (.bastore, 0, 0, 0, .null), some (.return_, 0, 0, 0, .null)]
/-- MixMachineModel.words()I -/
def nC152 : List (Option mI) := [some (.iconst 0, 0, 0, 0, .null), some (.istore_n 1, 5, 0, 0, .null), some (.iconst 1, 0, 0, 0, .null), some (.istore_n 2, 5, 0, 0, .null), some (.iload_n 2, 0, 0, 0, .null), some (.ifCond .eq 148, 0, 0, 0, .null), none, none, some (.aload_n 0, 0, 0, 0, .null), some (.getfield 262, 7, 23, 0, .null), none, none, some (.ifCond .ne 141, 0, 0, 0, .null), none, none, some (.aload_n 0, 0, 0, 0, .null), some (.invokevirtual 320, 149, 1, 0, (.retAddr 7)), none, none, some (.istore_n 3, 5, 0, 0, .null), some (.iconst 5, 0, 0, 0, .null), some (.istore 4, 5, 0, 0, .null), none, some (.aload_n 0, 0, 0, 0, .null), some (.getfield 262, 7, 23, 0, .null), none, none, some (.ifCond .ne 34, 0, 0, 0, .null), none, none, some (.aload_n 0, 0, 0, 0, .null), some (.invokevirtual 296, 148, 1, 0, (.retAddr 7)), none, none, some (.bipush 40, 0, 0, 0, .null), none, some (.if_icmp .ne 25, 0, 0, 0, .null), none, none, some (.aload_n 0, 0, 0, 0, .null), some (.dup, 0, 0, 0, .null), some (.getfield 268, 7, 21, 0, .null), none, none, some (.iconst 1, 0, 0, 0, .null), some (.iadd, 0, 0, 0, .null), some (.putfield 268, 7, 21, 0, .null), none, none, some (.aload_n 0, 0, 0, 0, .null), some (.invokevirtual 320, 149, 1, 0, (.retAddr 7)), none, none, some (.istore 4, 5, 0, 0, .null), none, some (.aload_n 0, 0, 0, 0, .null), some (.bipush 41, 0, 0, 0, .null), none, some (.invokevirtual 323, 150, 2, 0, (.retAddr 7)), none, none, some (.aload_n 0, 0, 0, 0, .null), some (.getfield 262, 7, 23, 0, .null), none, none, some (.ifCond .ne 27, 0, 0, 0, .null), none, none, some (.iload 4, 0, 0, 0, .null), none, some (.ifCond .lt 18, 0, 0, 0, .null), none, none, some (.iload 4, 0, 0, 0, .null), none, some (.bipush 63, 0, 0, 0, .null), none, some (.if_icmp .gt 11, 0, 0, 0, .null), none, none, some (.iload 4, 0, 0, 0, .null), none, some (.invokestatic 205, 168, 1, 0, .null), none, none, some (.ifCond .ne 7, 0, 0, 0, .null), none, none, some (.aload_n 0, 0, 0, 0, .null), some (.invokevirtual 291, 40, 1, 0, (.retAddr 7)), none, none, some (.aload_n 0, 0, 0, 0, .null), some (.getfield 262, 7, 23, 0, .null), none, none, some (.ifCond .ne 14, 0, 0, 0, .null), none, none, some (.iload_n 1, 0, 0, 0, .null), some (.iload 4, 0, 0, 0, .null), none, some (.iload_n 3, 0, 0, 0, .null), some (.invokestatic 326, 101, 1, 0, .null), none, none, some (.invokestatic 211, 172, 3, 0, .null), none, none, some (.istore_n 1, 5, 0, 0, .null), some (.aload_n 0, 0, 0, 0, .null), some (.getfield 262, 7, 23, 0, .null), none, none, some (.ifCond .ne 16, 0, 0, 0, .null), none, none, some (.aload_n 0, 0, 0, 0, .null), some (.invokevirtual 296, 148, 1, 0, (.retAddr 7)), none, none, some (.bipush 44, 0, 0, 0, .null), none, some (.if_icmp .ne 7, 0, 0, 0, .null), none, none, some (.iconst 1, 0, 0, 0, .null), some (.goto 4, 0, 0, 0, .null), none, none, some (.iconst 0, 0, 0, 0, .null), some (.istore_n 2, 5, 0, 0, .null), some (.aload_n 0, 0, 0, 0, .null), some (.dup, 0, 0, 0, .null), some (.getfield 268, 7, 21, 0, .null), none, none, some (.iload_n 2, 0, 0, 0, .null), some (.ifCond .eq 7, 0, 0, 0, .null), none, none, some (.iconst 1, 0, 0, 0, .null), some (.goto 4, 0, 0, 0, .null), none, none, some (.iconst 0, 0, 0, 0, .null), some (.iadd, 0, 0, 0, .null), some (.putfield 268, 7, 21, 0, .null), none, none, some (.goto (-146), 0, 0, 0, .null), none, none, some (.iload_n 1, 0, 0, 0, .null), some (.ireturn, 0, 0, 0, .null)]
/-- MixMachineModel.finish()V -/
def nC153 : List (Option mI) := [some (.iconst 0, 0, 0, 0, .null), some (.istore_n 1, 2, 0, 0, .null), some (.iload_n 1, 0, 0, 0, .null), some (.aload_n 0, 0, 0, 0, .null), some (.getfield 280, 7, 29, 0, .null), none, none, some (.if_icmp .ge 56, 0, 0, 0, .null), none, none, some (.aload_n 0, 0, 0, 0, .null), some (.getfield 262, 7, 23, 0, .null), none, none, some (.ifCond .ne 49, 0, 0, 0, .null), none, none, some (.aload_n 0, 0, 0, 0, .null), some (.getfield 49, 7, 31, 0, .null), none, none, some (.iload_n 1, 0, 0, 0, .null), some (.baload, 0, 0, 0, .null), some (.ifCond .ne 34, 0, 0, 0, .null), none, none, some (.aload_n 0, 0, 0, 0, .null), some (.iload_n 1, 0, 0, 0, .null), some (.aload_n 0, 0, 0, 0, .null), some (.getfield 300, 7, 24, 0, .null), none, none, some (.invokestatic 326, 101, 1, 0, .null), none, none, some (.invokevirtual 462, 102, 3, 0, (.retAddr 7)), none, none, some (.aload_n 0, 0, 0, 0, .null), some (.aload_n 0, 0, 0, 0, .null), some (.getfield 300, 7, 24, 0, .null), none, none, some (.iconst 0, 0, 0, 0, .null), some (.invokevirtual 459, 151, 3, 0, (.retAddr 7)), none, none, some (.aload_n 0, 0, 0, 0, .null), some (.dup, 0, 0, 0, .null), some (.getfield 300, 7, 24, 0, .null), none, none, some (.iconst 1, 0, 0, 0, .null), some (.iadd, 0, 0, 0, .null), some (.putfield 300, 7, 24, 0, .null), none, none, some (.iinc 1 1, 2, 0, 0, .null), none, none, some (.goto (-58), 0, 0, 0, .null), none, none, some (.iconst 0, 0, 0, 0, .null), some (.istore_n 1, 2, 0, 0, .null), some (.iload_n 1, 0, 0, 0, .null), some (.aload_n 0, 0, 0, 0, .null), some (.getfield 447, 7, 33, 0, .null), none, none, some (.if_icmp .ge 57, 0, 0, 0, .null), none, none, some (.aload_n 0, 0, 0, 0, .null), some (.getfield 262, 7, 23, 0, .null), none, none, some (.ifCond .ne 50, 0, 0, 0, .null), none, none, some (.aload_n 0, 0, 0, 0, .null), some (.iconst 2, 0, 0, 0, .null), some (.iload_n 1, 0, 0, 0, .null), some (.aload_n 0, 0, 0, 0, .null), some (.getfield 300, 7, 24, 0, .null), none, none, some (.invokestatic 326, 101, 1, 0, .null), none, none, some (.aload_n 0, 0, 0, 0, .null), some (.getfield 329, 7, 37, 0, .null), none, none, some (.invokevirtual 333, 105, 5, 0, (.retAddr 7)), none, none, some (.aload_n 0, 0, 0, 0, .null), some (.aload_n 0, 0, 0, 0, .null), some (.getfield 300, 7, 24, 0, .null), none, none, some (.aload_n 0, 0, 0, 0, .null), some (.getfield 55, 7, 34, 0, .null), none, none, some (.iload_n 1, 0, 0, 0, .null), some (.iaload, 0, 0, 0, .null), some (.invokevirtual 459, 151, 3, 0, (.retAddr 7)), none, none, some (.aload_n 0, 0, 0, 0, .null), some (.dup, 0, 0, 0, .null), some (.getfield 300, 7, 24, 0, .null), none, none, some (.iconst 1, 0, 0, 0, .null), some (.iadd, 0, 0, 0, .null), some (.putfield 300, 7, 24, 0, .null), none, none, some (.iinc 1 1, 2, 0, 0, .null), none, none, some (.goto (-59), 0, 0, 0, .null), none, none, some (.iconst 0, 0, 0, 0, .null), some (.istore_n 1, 2, 0, 0, .null), some (.iload_n 1, 0, 0, 0, .null), some (.aload_n 0, 0, 0, 0, .null), some (.getfield 329, 7, 37, 0, .null), none, none, some (.if_icmp .ge 34, 0, 0, 0, .null), none, none, some (.aload_n 0, 0, 0, 0, .null), some (.aload_n 0, 0, 0, 0, .null), some (.getfield 262, 7, 23, 0, .null), none, none, some (.ifCond .ne 12, 0, 0, 0, .null), none, none, some (.aload_n 0, 0, 0, 0, .null), some (.getfield 73, 7, 41, 0, .null), none, none, some (.iload_n 1, 0, 0, 0, .null), some (.baload, 0, 0, 0, .null), some (.ifCond .eq 7, 0, 0, 0, .null), none, none, some (.iconst 1, 0, 0, 0, .null), some (.goto 4, 0, 0, 0, .null), none, none, some (.iconst 0, 0, 0, 0, .null), some (.putfield 262, 7, 23, 1, .null), none, none, some (.iinc 1 1, 2, 0, 0, .null), none, none, some (.goto (-36), 0, 0, 0, .null), none, none, some (.aload_n 0, 0, 0, 0, .null), some (.iconst 1, 0, 0, 0, .null), some (.putfield 465, 7, 26, 1, .null), none, none, some (.return_, 0, 0, 0, .null)]
/-- MixMachine$Words.fieldOf(II)I -/
def nC154 : List (Option mI) := [some (.bipush 6, 0, 0, 0, .null), none, some (.iconst 5, 0, 0, 0, .null), some (.iload_n 1, 0, 0, 0, .null), some (.bipush 7, 0, 0, 0, .null), none, some (.iand, 0, 0, 0, .null), some (.isub, 0, 0, 0, .null), some (.imul, 0, 0, 0, .null), some (.istore_n 2, 3, 0, 0, .null), some (.iload_n 0, 0, 0, 0, .null), some (.invokestatic 13, 138, 1, 0, .null), none, none, some (.iload_n 2, 0, 0, 0, .null), some (.iushr, 0, 0, 0, .null), some (.iload_n 1, 0, 0, 0, .null), some (.invokestatic 17, 190, 1, 0, .null), none, none, some (.iand, 0, 0, 0, .null), some (.iload_n 1, 0, 0, 0, .null), some (.bipush 8, 0, 0, 0, .null), none, some (.if_icmp .ge 10, 0, 0, 0, .null), none, none, some (.iload_n 0, 0, 0, 0, .null), some (.invokestatic 20, 191, 1, 0, .null), none, none, some (.goto 4, 0, 0, 0, .null), none, none, some (.iconst 0, 0, 0, 0, .null), some (.invokestatic 23, 130, 2, 0, .null), none, none, some (.ireturn, 0, 0, 0, .null)]
/-- MixMachine$Units.slotOf(I)I -/
def nC155 : List (Option mI) := [some (.iload_n 0, 0, 0, 0, .null), some (.lookupswitch 41 #[(0, 35), (16, 37), (18, 39)], 35, 0, 0, .null), none, none, none, none, none, none, none, none, none, none, none, none, none, none, none, none, none, none, none, none, none, none, none, none, none, none, none, none, none, none, none, none, none, none, some (.iconst 0, 0, 0, 0, .null), some (.ireturn, 0, 0, 0, .null), some (.iconst 1, 0, 0, 0, .null), some (.ireturn, 0, 0, 0, .null), some (.iconst 2, 0, 0, 0, .null), some (.ireturn, 0, 0, 0, .null), some (.iconst (-1), 0, 0, 0, .null), some (.ireturn, 0, 0, 0, .null)]
/-- MixMachine$Units.isBusy(II)Z -/
def nC156 : List (Option mI) := [some (.iload_n 1, 0, 0, 0, .null), some (.iconst (-1), 0, 0, 0, .null), some (.if_icmp .eq 17, 0, 0, 0, .null), none, none, some (.iload_n 2, 0, 0, 0, .null), some (.aload_n 0, 0, 0, 0, .null), some (.getfield 27, 1, 4, 0, .null), none, none, some (.iload_n 1, 0, 0, 0, .null), some (.iaload, 0, 0, 0, .null), some (.if_icmp .gt 7, 0, 0, 0, .null), none, none, some (.iconst 1, 0, 0, 0, .null), some (.goto 4, 0, 0, 0, .null), none, none, some (.iconst 0, 0, 0, 0, .null), some (.ireturn, 1, 0, 0, .null)]
/-- MixMachine$Processor.calculate()Z -/
def nC157 : List (Option mI) := [some (.aload_n 0, 0, 0, 0, .null), some (.invokevirtual 131, 197, 1, 0, (.retAddr 2)), none, none, some (.ifCond .ne 5, 0, 0, 0, .null), none, none, some (.iconst 0, 0, 0, 0, .null), some (.ireturn, 1, 0, 0, .null), some (.aload_n 0, 0, 0, 0, .null), some (.getfield 9, 2, 0, 0, .null), none, none, some (.aload_n 0, 0, 0, 0, .null), some (.getfield 75, 2, 13, 0, .null), none, none, some (.iaload, 0, 0, 0, .null), some (.aload_n 0, 0, 0, 0, .null), some (.getfield 65, 2, 11, 0, .null), none, none, some (.invokestatic 68, 154, 2, 0, .null), none, none, some (.istore_n 1, 2, 0, 0, .null), some (.aload_n 0, 0, 0, 0, .null), some (.getfield 62, 2, 10, 0, .null), none, none, some (.tableswitch 59 1 3 #[26, 38, 51], 26, 0, 0, .null), none, none, none, none, none, none, none, none, none, none, none, none, none, none, none, none, none, none, none, none, none, none, none, none, none, some (.aload_n 0, 0, 0, 0, .null), some (.iconst 0, 0, 0, 0, .null), some (.iload_n 1, 0, 0, 0, .null), some (.invokestatic 72, 136, 1, 0, .null), none, none, some (.invokevirtual 134, 198, 3, 0, (.retAddr 2)), none, none, some (.goto 29, 0, 0, 0, .null), none, none, some (.aload_n 0, 0, 0, 0, .null), some (.iconst 0, 0, 0, 0, .null), some (.iload_n 1, 0, 0, 0, .null), some (.invokestatic 72, 136, 1, 0, .null), none, none, some (.ineg, 0, 0, 0, .null), some (.invokevirtual 134, 198, 3, 0, (.retAddr 2)), none, none, some (.goto 16, 0, 0, 0, .null), none, none, some (.aload_n 0, 0, 0, 0, .null), some (.iload_n 1, 0, 0, 0, .null), some (.invokevirtual 138, 199, 2, 0, (.retAddr 2)), none, none, some (.goto 8, 0, 0, 0, .null), none, none, some (.aload_n 0, 0, 0, 0, .null), some (.iload_n 1, 0, 0, 0, .null), some (.invokevirtual 141, 200, 2, 0, (.retAddr 2)), none, none, some (.iconst 1, 0, 0, 0, .null), some (.ireturn, 1, 0, 0, .null)]
/-- MixMachine$Processor.convertOrHalt()Z -/
def nC158 : List (Option mI) := [some (.aload_n 0, 0, 0, 0, .null), some (.getfield 65, 2, 11, 0, .null), none, none, some (.tableswitch 47 0 2 #[28, 34, 40], 28, 0, 0, .null), none, none, none, none, none, none, none, none, none, none, none, none, none, none, none, none, none, none, none, none, none, none, none, none, none, none, none, some (.aload_n 0, 0, 0, 0, .null), some (.invokevirtual 164, 201, 1, 0, (.retAddr 2)), none, none, some (.iconst 1, 0, 0, 0, .null), some (.ireturn, 1, 0, 0, .null), some (.aload_n 0, 0, 0, 0, .null), some (.invokevirtual 167, 202, 1, 0, (.retAddr 2)), none, none, some (.iconst 1, 0, 0, 0, .null), some (.ireturn, 1, 0, 0, .null), some (.aload_n 0, 0, 0, 0, .null), some (.iconst 1, 0, 0, 0, .null), some (.putfield 22, 2, 6, 0, .null), none, none, some (.iconst 1, 0, 0, 0, .null), some (.ireturn, 1, 0, 0, .null), some (.iconst 0, 0, 0, 0, .null), some (.ireturn, 1, 0, 0, .null)]
/-- MixMachine$Processor.shift()Z -/
def nC159 : List (Option mI) := [some (.aload_n 0, 0, 0, 0, .null), some (.getfield 75, 2, 13, 0, .null), none, none, some (.ifCond .lt 11, 0, 0, 0, .null), none, none, some (.aload_n 0, 0, 0, 0, .null), some (.getfield 65, 2, 11, 0, .null), none, none, some (.iconst 5, 0, 0, 0, .null), some (.if_icmp .le 5, 0, 0, 0, .null), none, none, some (.iconst 0, 0, 0, 0, .null), some (.ireturn, 1, 0, 0, .null), some (.bipush 6, 0, 0, 0, .null), none, some (.aload_n 0, 0, 0, 0, .null), some (.getfield 75, 2, 13, 0, .null), none, none, some (.iconst 5, 0, 0, 0, .null), some (.invokestatic 178, 0, 0, 2, .null), none, none, some (.imul, 0, 0, 0, .null), some (.istore_n 1, 8, 0, 0, .null), some (.bipush 6, 0, 0, 0, .null), none, some (.aload_n 0, 0, 0, 0, .null), some (.getfield 75, 2, 13, 0, .null), none, none, some (.bipush 10, 0, 0, 0, .null), none, some (.invokestatic 178, 0, 0, 2, .null), none, none, some (.imul, 0, 0, 0, .null), some (.istore_n 2, 8, 0, 0, .null), some (.bipush 6, 0, 0, 0, .null), none, some (.aload_n 0, 0, 0, 0, .null), some (.getfield 75, 2, 13, 0, .null), none, none, some (.bipush 10, 0, 0, 0, .null), none, some (.irem, 0, 0, 0, .null), some (.imul, 0, 0, 0, .null), some (.istore_n 3, 8, 0, 0, .null), some (.aload_n 0, 0, 0, 0, .null), some (.getfield 19, 2, 2, 0, .null), none, none, some (.iconst 0, 0, 0, 0, .null), some (.iaload, 0, 0, 0, .null), some (.invokestatic 56, 138, 1, 0, .null), none, none, some (.i2l, 0, 0, 0, .null), some (.lstore 4, 8, 0, 0, .null), none, some (.aload_n 0, 0, 0, 0, .null), some (.invokevirtual 157, 203, 1, 0, (.retAddr 2)), none, none, some (.lstore 6, 8, 0, 0, .null), none, some (.aload_n 0, 0, 0, 0, .null), some (.getfield 65, 2, 11, 0, .null), none, none, some (.tableswitch 112 0 4 #[33, 50, 63, 78, 89], 33, 0, 0, .null), none, none, none, none, none, none, none, none, none, none, none, none, none, none, none, none, none, none, none, none, none, none, none, none, none, none, none, none, none, none, none, none, some (.aload_n 0, 0, 0, 0, .null), some (.iconst 0, 0, 0, 0, .null), some (.lload 4, 0, 0, 0, .null), none, some (.iload_n 1, 0, 0, 0, .null), some (.lshl, 0, 0, 0, .null), some (.ldc2_w 155, 0, 0, 0, (.long 1073741823)), none, none, some (.land, 0, 0, 0, .null), some (.l2i, 0, 0, 0, .null), some (.invokevirtual 161, 204, 3, 0, (.retAddr 2)), none, none, some (.goto 85, 0, 0, 0, .null), none, none, some (.aload_n 0, 0, 0, 0, .null), some (.iconst 0, 0, 0, 0, .null), some (.lload 4, 0, 0, 0, .null), none, some (.iload_n 1, 0, 0, 0, .null), some (.lshr, 0, 0, 0, .null), some (.l2i, 0, 0, 0, .null), some (.invokevirtual 161, 204, 3, 0, (.retAddr 2)), none, none, some (.goto 72, 0, 0, 0, .null), none, none, some (.aload_n 0, 0, 0, 0, .null), some (.lload 6, 0, 0, 0, .null), none, some (.iload_n 2, 0, 0, 0, .null), some (.lshl, 0, 0, 0, .null), some (.ldc2_w 183, 0, 0, 0, (.long 1152921504606846975)), none, none, some (.land, 0, 0, 0, .null), some (.invokevirtual 174, 205, 2, 0, (.retAddr 2)), none, none, some (.goto 57, 0, 0, 0, .null), none, none, some (.aload_n 0, 0, 0, 0, .null), some (.lload 6, 0, 0, 0, .null), none, some (.iload_n 2, 0, 0, 0, .null), some (.lshr, 0, 0, 0, .null), some (.invokevirtual 174, 205, 2, 0, (.retAddr 2)), none, none, some (.goto 46, 0, 0, 0, .null), none, none, some (.aload_n 0, 0, 0, 0, .null), some (.lload 6, 0, 0, 0, .null), none, some (.iload_n 3, 0, 0, 0, .null), some (.lshl, 0, 0, 0, .null), some (.lload 6, 0, 0, 0, .null), none, some (.bipush 60, 0, 0, 0, .null), none, some (.iload_n 3, 0, 0, 0, .null), some (.isub, 0, 0, 0, .null), some (.lshr, 0, 0, 0, .null), some (.lor, 0, 0, 0, .null), some (.ldc2_w 183, 0, 0, 0, (.long 1152921504606846975)), none, none, some (.land, 0, 0, 0, .null), some (.invokevirtual 174, 205, 2, 0, (.retAddr 2)), none, none, some (.goto 23, 0, 0, 0, .null), none, none, some (.aload_n 0, 0, 0, 0, .null), some (.lload 6, 0, 0, 0, .null), none, some (.iload_n 3, 0, 0, 0, .null), some (.lshr, 0, 0, 0, .null), some (.lload 6, 0, 0, 0, .null), none, some (.bipush 60, 0, 0, 0, .null), none, some (.iload_n 3, 0, 0, 0, .null), some (.isub, 0, 0, 0, .null), some (.lshl, 0, 0, 0, .null), some (.lor, 0, 0, 0, .null), some (.ldc2_w 183, 0, 0, 0, (.long 1152921504606846975)), none, none, some (.land, 0, 0, 0, .null), some (.invokevirtual 174, 205, 2, 0, (.retAddr 2)), none, none, some (.iconst 1, 0, 0, 0, .null), some (.ireturn, 1, 0, 0, .null)]
/-- MixMachine$Processor.moveWords()Z -/
def nC160 : List (Option mI) := [some (.aload_n 0, 0, 0, 0, .null), some (.getfield 65, 2, 11, 0, .null), none, none, some (.ifCond .ne 5, 0, 0, 0, .null), none, none, some (.iconst 1, 0, 0, 0, .null), some (.ireturn, 1, 0, 0, .null), some (.aload_n 0, 0, 0, 0, .null), some (.getfield 19, 2, 2, 0, .null), none, none, some (.iconst 1, 0, 0, 0, .null), some (.iaload, 0, 0, 0, .null), some (.invokestatic 72, 136, 1, 0, .null), none, none, some (.istore_n 1, 3, 0, 0, .null), some (.aload_n 0, 0, 0, 0, .null), some (.getfield 75, 2, 13, 0, .null), none, none, some (.aload_n 0, 0, 0, 0, .null), some (.getfield 65, 2, 11, 0, .null), none, none, some (.invokestatic 185, 206, 2, 0, .null), none, none, some (.ifCond .eq 14, 0, 0, 0, .null), none, none, some (.iload_n 1, 0, 0, 0, .null), some (.aload_n 0, 0, 0, 0, .null), some (.getfield 65, 2, 11, 0, .null), none, none, some (.invokestatic 185, 206, 2, 0, .null), none, none, some (.ifCond .ne 5, 0, 0, 0, .null), none, none, some (.iconst 0, 0, 0, 0, .null), some (.ireturn, 1, 0, 0, .null), some (.iconst 0, 0, 0, 0, .null), some (.istore_n 2, 3, 0, 0, .null), some (.iload_n 2, 0, 0, 0, .null), some (.aload_n 0, 0, 0, 0, .null), some (.getfield 65, 2, 11, 0, .null), none, none, some (.if_icmp .ge 28, 0, 0, 0, .null), none, none, some (.aload_n 0, 0, 0, 0, .null), some (.getfield 9, 2, 0, 0, .null), none, none, some (.iload_n 1, 0, 0, 0, .null), some (.iload_n 2, 0, 0, 0, .null), some (.iadd, 0, 0, 0, .null), some (.aload_n 0, 0, 0, 0, .null), some (.getfield 9, 2, 0, 0, .null), none, none, some (.aload_n 0, 0, 0, 0, .null), some (.getfield 75, 2, 13, 0, .null), none, none, some (.iload_n 2, 0, 0, 0, .null), some (.iadd, 0, 0, 0, .null), some (.iaload, 0, 0, 0, .null), some (.iastore, 0, 0, 0, .null), some (.iinc 2 1, 3, 0, 0, .null), none, none, some (.goto (-30), 0, 0, 0, .null), none, none, some (.aload_n 0, 0, 0, 0, .null), some (.iconst 1, 0, 0, 0, .null), some (.aload_n 0, 0, 0, 0, .null), some (.getfield 65, 2, 11, 0, .null), none, none, some (.invokevirtual 134, 198, 3, 0, (.retAddr 2)), none, none, some (.iconst 1, 0, 0, 0, .null), some (.ireturn, 1, 0, 0, .null)]
/-- MixMachine$Processor.load()Z -/
def nC161 : List (Option mI) := [some (.aload_n 0, 0, 0, 0, .null), some (.invokevirtual 131, 197, 1, 0, (.retAddr 2)), none, none, some (.ifCond .ne 5, 0, 0, 0, .null), none, none, some (.iconst 0, 0, 0, 0, .null), some (.ireturn, 1, 0, 0, .null), some (.aload_n 0, 0, 0, 0, .null), some (.getfield 9, 2, 0, 0, .null), none, none, some (.aload_n 0, 0, 0, 0, .null), some (.getfield 75, 2, 13, 0, .null), none, none, some (.iaload, 0, 0, 0, .null), some (.aload_n 0, 0, 0, 0, .null), some (.getfield 65, 2, 11, 0, .null), none, none, some (.invokestatic 68, 154, 2, 0, .null), none, none, some (.istore_n 1, 2, 0, 0, .null), some (.aload_n 0, 0, 0, 0, .null), some (.aload_n 0, 0, 0, 0, .null), some (.getfield 62, 2, 10, 0, .null), none, none, some (.bipush 7, 0, 0, 0, .null), none, some (.iand, 0, 0, 0, .null), some (.aload_n 0, 0, 0, 0, .null), some (.getfield 62, 2, 10, 0, .null), none, none, some (.bipush 16, 0, 0, 0, .null), none, some (.if_icmp .ge 7, 0, 0, 0, .null), none, none, some (.iload_n 1, 0, 0, 0, .null), some (.goto 6, 0, 0, 0, .null), none, none, some (.iload_n 1, 0, 0, 0, .null), some (.iconst 1, 0, 0, 0, .null), some (.ixor, 0, 0, 0, .null), some (.invokevirtual 188, 207, 3, 0, (.retAddr 2)), none, none, some (.iconst 1, 0, 0, 0, .null), some (.ireturn, 1, 0, 0, .null)]
/-- MixMachine$Processor.store()Z -/
def nC162 : List (Option mI) := [some (.aload_n 0, 0, 0, 0, .null), some (.invokevirtual 131, 197, 1, 0, (.retAddr 2)), none, none, some (.ifCond .ne 5, 0, 0, 0, .null), none, none, some (.iconst 0, 0, 0, 0, .null), some (.ireturn, 1, 0, 0, .null), some (.aload_n 0, 0, 0, 0, .null), some (.getfield 62, 2, 10, 0, .null), none, none, some (.bipush 24, 0, 0, 0, .null), none, some (.isub, 0, 0, 0, .null), some (.istore_n 1, 2, 0, 0, .null), some (.aload_n 0, 0, 0, 0, .null), some (.getfield 9, 2, 0, 0, .null), none, none, some (.aload_n 0, 0, 0, 0, .null), some (.getfield 75, 2, 13, 0, .null), none, none, some (.aload_n 0, 0, 0, 0, .null), some (.getfield 9, 2, 0, 0, .null), none, none, some (.aload_n 0, 0, 0, 0, .null), some (.getfield 75, 2, 13, 0, .null), none, none, some (.iaload, 0, 0, 0, .null), some (.aload_n 0, 0, 0, 0, .null), some (.getfield 65, 2, 11, 0, .null), none, none, some (.iload_n 1, 0, 0, 0, .null), some (.bipush 8, 0, 0, 0, .null), none, some (.if_icmp .gt 12, 0, 0, 0, .null), none, none, some (.aload_n 0, 0, 0, 0, .null), some (.getfield 19, 2, 2, 0, .null), none, none, some (.iload_n 1, 0, 0, 0, .null), some (.iaload, 0, 0, 0, .null), some (.goto 4, 0, 0, 0, .null), none, none, some (.iconst 0, 0, 0, 0, .null), some (.invokestatic 191, 131, 3, 0, .null), none, none, some (.iastore, 0, 0, 0, .null), some (.iconst 1, 0, 0, 0, .null), some (.ireturn, 1, 0, 0, .null)]
/-- MixMachine$Processor.useUnit()Z -/
def nC163 : List (Option mI) := [some (.aload_n 0, 0, 0, 0, .null), some (.getfield 65, 2, 11, 0, .null), none, none, some (.invokestatic 85, 155, 1, 0, .null), none, none, some (.istore_n 1, 3, 0, 0, .null), some (.aload_n 0, 0, 0, 0, .null), some (.getfield 62, 2, 10, 0, .null), none, none, some (.bipush 35, 0, 0, 0, .null), none, some (.if_icmp .lt 35, 0, 0, 0, .null), none, none, some (.aload_n 0, 0, 0, 0, .null), some (.getfield 62, 2, 10, 0, .null), none, none, some (.bipush 37, 0, 0, 0, .null), none, some (.if_icmp .gt 26, 0, 0, 0, .null), none, none, some (.aload_n 0, 0, 0, 0, .null), some (.getfield 15, 2, 1, 0, .null), none, none, some (.aload_n 0, 0, 0, 0, .null), some (.getfield 62, 2, 10, 0, .null), none, none, some (.iload_n 1, 0, 0, 0, .null), some (.aload_n 0, 0, 0, 0, .null), some (.getfield 75, 2, 13, 0, .null), none, none, some (.aload_n 0, 0, 0, 0, .null), some (.getfield 44, 2, 7, 0, .null), none, none, some (.iconst 1, 0, 0, 0, .null), some (.iadd, 0, 0, 0, .null), some (.invokevirtual 195, 208, 5, 0, (.retAddr 1)), none, none, some (.ireturn, 1, 0, 0, .null), some (.aload_n 0, 0, 0, 0, .null), some (.getfield 62, 2, 10, 0, .null), none, none, some (.bipush 34, 0, 0, 0, .null), none, some (.if_icmp .ne 7, 0, 0, 0, .null), none, none, some (.iconst 1, 0, 0, 0, .null), some (.goto 4, 0, 0, 0, .null), none, none, some (.iconst 0, 0, 0, 0, .null), some (.istore_n 2, 3, 0, 0, .null), some (.iload_n 1, 0, 0, 0, .null), some (.iconst (-1), 0, 0, 0, .null), some (.if_icmp .eq 37, 0, 0, 0, .null), none, none, some (.aload_n 0, 0, 0, 0, .null), some (.aload_n 0, 0, 0, 0, .null), some (.getfield 15, 2, 1, 0, .null), none, none, some (.iload_n 1, 0, 0, 0, .null), some (.aload_n 0, 0, 0, 0, .null), some (.getfield 44, 2, 7, 0, .null), none, none, some (.iconst 1, 0, 0, 0, .null), some (.iadd, 0, 0, 0, .null), some (.invokevirtual 90, 156, 3, 0, (.retAddr 1)), none, none, some (.iload_n 2, 0, 0, 0, .null), some (.if_icmp .ne 7, 0, 0, 0, .null), none, none, some (.iconst 1, 0, 0, 0, .null), some (.goto 4, 0, 0, 0, .null), none, none, some (.iconst 0, 0, 0, 0, .null), some (.invokevirtual 199, 209, 2, 0, (.retAddr 2)), none, none, some (.ifCond .eq 7, 0, 0, 0, .null), none, none, some (.iconst 1, 0, 0, 0, .null), some (.goto 4, 0, 0, 0, .null), none, none, some (.iconst 0, 0, 0, 0, .null), some (.ireturn, 1, 0, 0, .null)]
/-- MixMachine$Processor.jump()Z -/
def nC164 : List (Option mI) := [some (.aload_n 0, 0, 0, 0, .null), some (.getfield 65, 2, 11, 0, .null), none, none, some (.tableswitch 55 0 3 #[32, 38, 43, 49], 32, 0, 0, .null), none, none, none, none, none, none, none, none, none, none, none, none, none, none, none, none, none, none, none, none, none, none, none, none, none, none, none, none, none, none, none, some (.aload_n 0, 0, 0, 0, .null), some (.iconst 1, 0, 0, 0, .null), some (.invokevirtual 199, 209, 2, 0, (.retAddr 2)), none, none, some (.ireturn, 1, 0, 0, .null), some (.aload_n 0, 0, 0, 0, .null), some (.invokevirtual 203, 210, 1, 0, (.retAddr 2)), none, none, some (.ireturn, 1, 0, 0, .null), some (.aload_n 0, 0, 0, 0, .null), some (.iconst 1, 0, 0, 0, .null), some (.invokevirtual 206, 211, 2, 0, (.retAddr 2)), none, none, some (.ireturn, 1, 0, 0, .null), some (.aload_n 0, 0, 0, 0, .null), some (.iconst 0, 0, 0, 0, .null), some (.invokevirtual 206, 211, 2, 0, (.retAddr 2)), none, none, some (.ireturn, 1, 0, 0, .null), some (.aload_n 0, 0, 0, 0, .null), some (.getfield 65, 2, 11, 0, .null), none, none, some (.bipush 9, 0, 0, 0, .null), none, some (.if_icmp .gt 27, 0, 0, 0, .null), none, none, some (.aload_n 0, 0, 0, 0, .null), some (.aload_n 0, 0, 0, 0, .null), some (.getfield 65, 2, 11, 0, .null), none, none, some (.iconst 4, 0, 0, 0, .null), some (.isub, 0, 0, 0, .null), some (.aload_n 0, 0, 0, 0, .null), some (.getfield 209, 2, 4, 0, .null), none, none, some (.invokestatic 212, 212, 2, 0, .null), none, none, some (.invokevirtual 199, 209, 2, 0, (.retAddr 2)), none, none, some (.ifCond .eq 7, 0, 0, 0, .null), none, none, some (.iconst 1, 0, 0, 0, .null), some (.goto 4, 0, 0, 0, .null), none, none, some (.iconst 0, 0, 0, 0, .null), some (.ireturn, 1, 0, 0, .null)]
/-- MixMachine$Processor.jumpByRegister()Z -/
def nC165 : List (Option mI) := [some (.aload_n 0, 0, 0, 0, .null), some (.getfield 65, 2, 11, 0, .null), none, none, some (.iconst 5, 0, 0, 0, .null), some (.if_icmp .gt 36, 0, 0, 0, .null), none, none, some (.aload_n 0, 0, 0, 0, .null), some (.aload_n 0, 0, 0, 0, .null), some (.getfield 65, 2, 11, 0, .null), none, none, some (.aload_n 0, 0, 0, 0, .null), some (.getfield 19, 2, 2, 0, .null), none, none, some (.aload_n 0, 0, 0, 0, .null), some (.getfield 62, 2, 10, 0, .null), none, none, some (.bipush 40, 0, 0, 0, .null), none, some (.isub, 0, 0, 0, .null), some (.iaload, 0, 0, 0, .null), some (.invokestatic 72, 136, 1, 0, .null), none, none, some (.invokestatic 212, 212, 2, 0, .null), none, none, some (.invokevirtual 199, 209, 2, 0, (.retAddr 2)), none, none, some (.ifCond .eq 7, 0, 0, 0, .null), none, none, some (.iconst 1, 0, 0, 0, .null), some (.goto 4, 0, 0, 0, .null), none, none, some (.iconst 0, 0, 0, 0, .null), some (.ireturn, 1, 0, 0, .null)]
/-- MixMachine$Processor.changeRegister()Z -/
def nC166 : List (Option mI) := [some (.aload_n 0, 0, 0, 0, .null), some (.getfield 62, 2, 10, 0, .null), none, none, some (.bipush 48, 0, 0, 0, .null), none, some (.isub, 0, 0, 0, .null), some (.istore_n 1, 2, 0, 0, .null), some (.aload_n 0, 0, 0, 0, .null), some (.getfield 65, 2, 11, 0, .null), none, none, some (.tableswitch 79 0 3 #[32, 43, 55, 66], 32, 0, 0, .null), none, none, none, none, none, none, none, none, none, none, none, none, none, none, none, none, none, none, none, none, none, none, none, none, none, none, none, none, none, none, none, some (.aload_n 0, 0, 0, 0, .null), some (.iload_n 1, 0, 0, 0, .null), some (.aload_n 0, 0, 0, 0, .null), some (.getfield 75, 2, 13, 0, .null), none, none, some (.invokevirtual 134, 198, 3, 0, (.retAddr 2)), none, none, some (.iconst 1, 0, 0, 0, .null), some (.ireturn, 1, 0, 0, .null), some (.aload_n 0, 0, 0, 0, .null), some (.iload_n 1, 0, 0, 0, .null), some (.aload_n 0, 0, 0, 0, .null), some (.getfield 75, 2, 13, 0, .null), none, none, some (.ineg, 0, 0, 0, .null), some (.invokevirtual 134, 198, 3, 0, (.retAddr 2)), none, none, some (.iconst 1, 0, 0, 0, .null), some (.ireturn, 1, 0, 0, .null), some (.aload_n 0, 0, 0, 0, .null), some (.iload_n 1, 0, 0, 0, .null), some (.aload_n 0, 0, 0, 0, .null), some (.getfield 78, 2, 14, 0, .null), none, none, some (.invokevirtual 188, 207, 3, 0, (.retAddr 2)), none, none, some (.iconst 1, 0, 0, 0, .null), some (.ireturn, 1, 0, 0, .null), some (.aload_n 0, 0, 0, 0, .null), some (.iload_n 1, 0, 0, 0, .null), some (.aload_n 0, 0, 0, 0, .null), some (.getfield 78, 2, 14, 0, .null), none, none, some (.iconst 1, 0, 0, 0, .null), some (.ixor, 0, 0, 0, .null), some (.invokevirtual 188, 207, 3, 0, (.retAddr 2)), none, none, some (.iconst 1, 0, 0, 0, .null), some (.ireturn, 1, 0, 0, .null), some (.iconst 0, 0, 0, 0, .null), some (.ireturn, 1, 0, 0, .null)]
/-- MixMachine$Processor.compare()Z -/
def nC167 : List (Option mI) := [some (.aload_n 0, 0, 0, 0, .null), some (.invokevirtual 131, 197, 1, 0, (.retAddr 2)), none, none, some (.ifCond .ne 5, 0, 0, 0, .null), none, none, some (.iconst 0, 0, 0, 0, .null), some (.ireturn, 1, 0, 0, .null), some (.aload_n 0, 0, 0, 0, .null), some (.getfield 19, 2, 2, 0, .null), none, none, some (.aload_n 0, 0, 0, 0, .null), some (.getfield 62, 2, 10, 0, .null), none, none, some (.bipush 56, 0, 0, 0, .null), none, some (.isub, 0, 0, 0, .null), some (.iaload, 0, 0, 0, .null), some (.aload_n 0, 0, 0, 0, .null), some (.getfield 65, 2, 11, 0, .null), none, none, some (.invokestatic 68, 154, 2, 0, .null), none, none, some (.invokestatic 72, 136, 1, 0, .null), none, none, some (.istore_n 1, 2, 0, 0, .null), some (.aload_n 0, 0, 0, 0, .null), some (.iload_n 1, 0, 0, 0, .null), some (.aload_n 0, 0, 0, 0, .null), some (.getfield 9, 2, 0, 0, .null), none, none, some (.aload_n 0, 0, 0, 0, .null), some (.getfield 75, 2, 13, 0, .null), none, none, some (.iaload, 0, 0, 0, .null), some (.aload_n 0, 0, 0, 0, .null), some (.getfield 65, 2, 11, 0, .null), none, none, some (.invokestatic 68, 154, 2, 0, .null), none, none, some (.invokestatic 72, 136, 1, 0, .null), none, none, some (.invokestatic 215, 213, 2, 0, .null), none, none, some (.putfield 209, 2, 4, 0, .null), none, none, some (.iconst 1, 0, 0, 0, .null), some (.ireturn, 1, 0, 0, .null)]
/-- MixMachineModel.isField(I)Z -/
def nC168 : List (Option mI) := [some (.iload_n 0, 0, 0, 0, .null), some (.bipush 8, 0, 0, 0, .null), none, some (.idiv, 0, 0, 0, .null), some (.iload_n 0, 0, 0, 0, .null), some (.bipush 8, 0, 0, 0, .null), none, some (.irem, 0, 0, 0, .null), some (.if_icmp .gt 15, 0, 0, 0, .null), none, none, some (.iload_n 0, 0, 0, 0, .null), some (.bipush 8, 0, 0, 0, .null), none, some (.irem, 0, 0, 0, .null), some (.iconst 5, 0, 0, 0, .null), some (.if_icmp .gt 7, 0, 0, 0, .null), none, none, some (.iconst 1, 0, 0, 0, .null), some (.goto 4, 0, 0, 0, .null), none, none, some (.iconst 0, 0, 0, 0, .null), some (.ireturn, 1, 0, 0, .null)]
/-- MixMachineModel.part(II)I -/
def nC169 : List (Option mI) := [some (.iload_n 0, 0, 0, 0, .null), some (.invokestatic 89, 70, 1, 0, .null), none, none, some (.bipush 6, 0, 0, 0, .null), none, some (.iconst 5, 0, 0, 0, .null), some (.iload_n 1, 0, 0, 0, .null), some (.bipush 8, 0, 0, 0, .null), none, some (.irem, 0, 0, 0, .null), some (.isub, 0, 0, 0, .null), some (.iconst 4, 0, 0, 0, .null), some (.if_icmp .le 7, 0, 0, 0, .null), none, none, some (.iconst 4, 0, 0, 0, .null), some (.goto 9, 0, 0, 0, .null), none, none, some (.iconst 5, 0, 0, 0, .null), some (.iload_n 1, 0, 0, 0, .null), some (.bipush 8, 0, 0, 0, .null), none, some (.irem, 0, 0, 0, .null), some (.isub, 0, 0, 0, .null), some (.imul, 0, 0, 0, .null), some (.ishr, 0, 0, 0, .null), some (.iload_n 1, 0, 0, 0, .null), some (.invokestatic 100, 214, 1, 0, .null), none, none, some (.iand, 0, 0, 0, .null), some (.iload_n 1, 0, 0, 0, .null), some (.bipush 8, 0, 0, 0, .null), none, some (.if_icmp .ge 14, 0, 0, 0, .null), none, none, some (.iload_n 0, 0, 0, 0, .null), some (.invokestatic 85, 73, 1, 0, .null), none, none, some (.ifCond .eq 7, 0, 0, 0, .null), none, none, some (.iconst 1, 0, 0, 0, .null), some (.goto 4, 0, 0, 0, .null), none, none, some (.iconst 0, 0, 0, 0, .null), some (.invokestatic 93, 146, 2, 0, .null), none, none, some (.ireturn, 0, 0, 0, .null)]
/-- MixMachineModel.arithmetic(II)V -/
def nC170 : List (Option mI) := [some (.iload_n 1, 0, 0, 0, .null), some (.iconst 1, 0, 0, 0, .null), some (.if_icmp .ne 12, 0, 0, 0, .null), none, none, some (.aload_n 0, 0, 0, 0, .null), some (.iconst 0, 0, 0, 0, .null), some (.iload_n 2, 0, 0, 0, .null), some (.invokestatic 154, 74, 1, 0, .null), none, none, some (.invokevirtual 162, 177, 3, 0, (.retAddr 7)), none, none, some (.iload_n 1, 0, 0, 0, .null), some (.iconst 2, 0, 0, 0, .null), some (.if_icmp .ne 13, 0, 0, 0, .null), none, none, some (.aload_n 0, 0, 0, 0, .null), some (.iconst 0, 0, 0, 0, .null), some (.iload_n 2, 0, 0, 0, .null), some (.invokestatic 154, 74, 1, 0, .null), none, none, some (.ineg, 0, 0, 0, .null), some (.invokevirtual 162, 177, 3, 0, (.retAddr 7)), none, none, some (.iload_n 1, 0, 0, 0, .null), some (.iconst 3, 0, 0, 0, .null), some (.if_icmp .ne 8, 0, 0, 0, .null), none, none, some (.aload_n 0, 0, 0, 0, .null), some (.iload_n 2, 0, 0, 0, .null), some (.invokevirtual 165, 215, 2, 0, (.retAddr 7)), none, none, some (.iload_n 1, 0, 0, 0, .null), some (.iconst 4, 0, 0, 0, .null), some (.if_icmp .ne 8, 0, 0, 0, .null), none, none, some (.aload_n 0, 0, 0, 0, .null), some (.iload_n 2, 0, 0, 0, .null), some (.invokevirtual 169, 216, 2, 0, (.retAddr 7)), none, none, some (.return_, 0, 0, 0, .null)]
/-- MixMachineModel.set(II)V -/
def nC171 : List (Option mI) := [some (.aload_n 0, 0, 0, 0, .null), some (.getfield 13, 7, 2, 0, .null), none, none, some (.iload_n 1, 0, 0, 0, .null), some (.iload_n 1, 0, 0, 0, .null), some (.ifCond .eq 9, 0, 0, 0, .null), none, none, some (.iload_n 1, 0, 0, 0, .null), some (.bipush 7, 0, 0, 0, .null), none, some (.if_icmp .ne 7, 0, 0, 0, .null), none, none, some (.iload_n 2, 0, 0, 0, .null), some (.goto 18, 0, 0, 0, .null), none, none, some (.iload_n 2, 0, 0, 0, .null), some (.invokestatic 89, 70, 1, 0, .null), none, none, some (.sipush 4096, 0, 0, 0, .null), none, none, some (.irem, 0, 0, 0, .null), some (.iload_n 2, 0, 0, 0, .null), some (.invokestatic 85, 73, 1, 0, .null), none, none, some (.invokestatic 93, 146, 2, 0, .null), none, none, some (.iastore, 0, 0, 0, .null), some (.return_, 0, 0, 0, .null)]
/-- MixMachineModel.put(III)I -/
def nC172 : List (Option mI) := [some (.bipush 6, 0, 0, 0, .null), none, some (.iload_n 1, 0, 0, 0, .null), some (.bipush 8, 0, 0, 0, .null), none, some (.irem, 0, 0, 0, .null), some (.ifCond .le 12, 0, 0, 0, .null), none, none, some (.iconst 5, 0, 0, 0, .null), some (.iload_n 1, 0, 0, 0, .null), some (.bipush 8, 0, 0, 0, .null), none, some (.irem, 0, 0, 0, .null), some (.isub, 0, 0, 0, .null), some (.goto 4, 0, 0, 0, .null), none, none, some (.iconst 0, 0, 0, 0, .null), some (.imul, 0, 0, 0, .null), some (.istore_n 3, 5, 0, 0, .null), some (.iload_n 0, 0, 0, 0, .null), some (.invokestatic 89, 70, 1, 0, .null), none, none, some (.iload_n 1, 0, 0, 0, .null), some (.invokestatic 100, 214, 1, 0, .null), none, none, some (.iload_n 3, 0, 0, 0, .null), some (.ishl, 0, 0, 0, .null), some (.iconst (-1), 0, 0, 0, .null), some (.ixor, 0, 0, 0, .null), some (.iand, 0, 0, 0, .null), some (.iload_n 2, 0, 0, 0, .null), some (.invokestatic 89, 70, 1, 0, .null), none, none, some (.iload_n 1, 0, 0, 0, .null), some (.invokestatic 100, 214, 1, 0, .null), none, none, some (.iand, 0, 0, 0, .null), some (.iload_n 3, 0, 0, 0, .null), some (.ishl, 0, 0, 0, .null), some (.ior, 0, 0, 0, .null), some (.istore 4, 5, 0, 0, .null), none, some (.iload 4, 0, 0, 0, .null), none, some (.iload_n 1, 0, 0, 0, .null), some (.bipush 8, 0, 0, 0, .null), none, some (.if_icmp .ge 10, 0, 0, 0, .null), none, none, some (.iload_n 2, 0, 0, 0, .null), some (.invokestatic 85, 73, 1, 0, .null), none, none, some (.goto 7, 0, 0, 0, .null), none, none, some (.iload_n 0, 0, 0, 0, .null), some (.invokestatic 85, 73, 1, 0, .null), none, none, some (.invokestatic 93, 146, 2, 0, .null), none, none, some (.ireturn, 0, 0, 0, .null)]
/-- MixMachineModel.compare(III)V -/
def nC173 : List (Option mI) := [some (.aload_n 0, 0, 0, 0, .null), some (.getfield 13, 7, 2, 0, .null), none, none, some (.iload_n 1, 0, 0, 0, .null), some (.iaload, 0, 0, 0, .null), some (.iload_n 2, 0, 0, 0, .null), some (.invokestatic 202, 169, 2, 0, .null), none, none, some (.invokestatic 154, 74, 1, 0, .null), none, none, some (.istore 4, 6, 0, 0, .null), none, some (.iload_n 3, 0, 0, 0, .null), some (.iload_n 2, 0, 0, 0, .null), some (.invokestatic 202, 169, 2, 0, .null), none, none, some (.invokestatic 154, 74, 1, 0, .null), none, none, some (.istore 5, 6, 0, 0, .null), none, some (.aload_n 0, 0, 0, 0, .null), some (.iload 4, 0, 0, 0, .null), none, some (.iload 5, 0, 0, 0, .null), none, some (.if_icmp .ge 7, 0, 0, 0, .null), none, none, some (.iconst (-1), 0, 0, 0, .null), some (.goto 15, 0, 0, 0, .null), none, none, some (.iload 4, 0, 0, 0, .null), none, some (.iload 5, 0, 0, 0, .null), none, some (.if_icmp .le 7, 0, 0, 0, .null), none, none, some (.iconst 1, 0, 0, 0, .null), some (.goto 4, 0, 0, 0, .null), none, none, some (.iconst 0, 0, 0, 0, .null), some (.putfield 189, 7, 5, 0, .null), none, none, some (.return_, 0, 0, 0, .null)]
/-- MixMachineModel.byteOf(II)I -/
def nC174 : List (Option mI) := [some (.iload_n 0, 0, 0, 0, .null), some (.invokestatic 89, 70, 1, 0, .null), none, none, some (.bipush 6, 0, 0, 0, .null), none, some (.iconst 4, 0, 0, 0, .null), some (.iload_n 1, 0, 0, 0, .null), some (.isub, 0, 0, 0, .null), some (.imul, 0, 0, 0, .null), some (.ishr, 0, 0, 0, .null), some (.bipush 63, 0, 0, 0, .null), none, some (.iand, 0, 0, 0, .null), some (.ireturn, 0, 0, 0, .null)]
/-- MixMachineModel.characters()V -/
def nC175 : List (Option mI) := [some (.aload_n 0, 0, 0, 0, .null), some (.getfield 13, 7, 2, 0, .null), none, none, some (.iconst 0, 0, 0, 0, .null), some (.iaload, 0, 0, 0, .null), some (.invokestatic 89, 70, 1, 0, .null), none, none, some (.i2l, 0, 0, 0, .null), some (.lstore_n 1, 6, 0, 0, .null), some (.lconst 0, 0, 0, 0, .null), some (.lstore_n 3, 6, 0, 0, .null), some (.iconst 0, 0, 0, 0, .null), some (.istore 5, 6, 0, 0, .null), none, some (.iload 5, 0, 0, 0, .null), none, some (.bipush 10, 0, 0, 0, .null), none, some (.if_icmp .ge 33, 0, 0, 0, .null), none, none, some (.lload_n 3, 0, 0, 0, .null), some (.lload_n 1, 0, 0, 0, .null), some (.ldc2_w 172, 0, 0, 0, (.long 10)), none, none, some (.lrem, 0, 0, 0, .null), some (.ldc2_w 174, 0, 0, 0, (.long 30)), none, none, some (.ladd, 0, 0, 0, .null), some (.bipush 6, 0, 0, 0, .null), none, some (.iload 5, 0, 0, 0, .null), none, some (.imul, 0, 0, 0, .null), some (.lshl, 0, 0, 0, .null), some (.lor, 0, 0, 0, .null), some (.lstore_n 3, 6, 0, 0, .null), some (.lload_n 1, 0, 0, 0, .null), some (.ldc2_w 172, 0, 0, 0, (.long 10)), none, none, some (.ldiv, 0, 0, 0, .null), some (.lstore_n 1, 6, 0, 0, .null), some (.iinc 5 1, 6, 0, 0, .null), none, none, some (.goto (-34), 0, 0, 0, .null), none, none, some (.aload_n 0, 0, 0, 0, .null), some (.getfield 13, 7, 2, 0, .null), none, none, some (.iconst 0, 0, 0, 0, .null), some (.lload_n 3, 0, 0, 0, .null), some (.bipush 30, 0, 0, 0, .null), none, some (.lshr, 0, 0, 0, .null), some (.l2i, 0, 0, 0, .null), some (.aload_n 0, 0, 0, 0, .null), some (.getfield 13, 7, 2, 0, .null), none, none, some (.iconst 0, 0, 0, 0, .null), some (.iaload, 0, 0, 0, .null), some (.invokestatic 85, 73, 1, 0, .null), none, none, some (.invokestatic 93, 146, 2, 0, .null), none, none, some (.iastore, 0, 0, 0, .null), some (.aload_n 0, 0, 0, 0, .null), some (.getfield 13, 7, 2, 0, .null), none, none, some (.bipush 7, 0, 0, 0, .null), none, some (.lload_n 3, 0, 0, 0, .null), some (.ldc2_w 160, 0, 0, 0, (.long 1073741823)), none, none, some (.land, 0, 0, 0, .null), some (.l2i, 0, 0, 0, .null), some (.aload_n 0, 0, 0, 0, .null), some (.getfield 13, 7, 2, 0, .null), none, none, some (.bipush 7, 0, 0, 0, .null), none, some (.iaload, 0, 0, 0, .null), some (.invokestatic 85, 73, 1, 0, .null), none, none, some (.invokestatic 93, 146, 2, 0, .null), none, none, some (.iastore, 0, 0, 0, .null), some (.return_, 0, 0, 0, .null)]
/-- MixMachineModel.row(II)Z -/
def nC176 : List (Option mI) := [some (.aload_n 0, 0, 0, 0, .null), some (.iload_n 1, 0, 0, 0, .null), some (.invokevirtual 107, 46, 2, 0, (.retAddr 7)), none, none, some (.ifCond .eq 19, 0, 0, 0, .null), none, none, some (.aload_n 0, 0, 0, 0, .null), some (.iload_n 1, 0, 0, 0, .null), some (.iload_n 2, 0, 0, 0, .null), some (.iadd, 0, 0, 0, .null), some (.iconst 1, 0, 0, 0, .null), some (.isub, 0, 0, 0, .null), some (.invokevirtual 107, 46, 2, 0, (.retAddr 7)), none, none, some (.ifCond .eq 7, 0, 0, 0, .null), none, none, some (.iconst 1, 0, 0, 0, .null), some (.goto 4, 0, 0, 0, .null), none, none, some (.iconst 0, 0, 0, 0, .null), some (.istore_n 3, 4, 0, 0, .null), some (.aload_n 0, 0, 0, 0, .null), some (.aload_n 0, 0, 0, 0, .null), some (.getfield 110, 7, 4, 0, .null), none, none, some (.ifCond .ne 7, 0, 0, 0, .null), none, none, some (.iload_n 3, 0, 0, 0, .null), some (.ifCond .ne 7, 0, 0, 0, .null), none, none, some (.iconst 1, 0, 0, 0, .null), some (.goto 4, 0, 0, 0, .null), none, none, some (.iconst 0, 0, 0, 0, .null), some (.putfield 110, 7, 4, 1, .null), none, none, some (.iload_n 3, 0, 0, 0, .null), some (.ireturn, 1, 0, 0, .null)]
/-- MixMachineModel.add(II)V -/
def nC177 : List (Option mI) := [some (.iload_n 1, 0, 0, 0, .null), some (.ifCond .eq 9, 0, 0, 0, .null), none, none, some (.iload_n 1, 0, 0, 0, .null), some (.bipush 7, 0, 0, 0, .null), none, some (.if_icmp .ne 8, 0, 0, 0, .null), none, none, some (.ldc 153, 0, 0, 0, (.int 1073741824)), none, some (.goto 6, 0, 0, 0, .null), none, none, some (.sipush 4096, 0, 0, 0, .null), none, none, some (.istore_n 3, 9, 0, 0, .null), some (.aload_n 0, 0, 0, 0, .null), some (.getfield 13, 7, 2, 0, .null), none, none, some (.iload_n 1, 0, 0, 0, .null), some (.iaload, 0, 0, 0, .null), some (.invokestatic 154, 74, 1, 0, .null), none, none, some (.i2l, 0, 0, 0, .null), some (.iload_n 2, 0, 0, 0, .null), some (.i2l, 0, 0, 0, .null), some (.ladd, 0, 0, 0, .null), some (.lstore 4, 9, 0, 0, .null), none, some (.lload 4, 0, 0, 0, .null), none, some (.lconst 0, 0, 0, 0, .null), some (.lcmp, 0, 0, 0, .null), some (.ifCond .ge 9, 0, 0, 0, .null), none, none, some (.lload 4, 0, 0, 0, .null), none, some (.lneg, 0, 0, 0, .null), some (.goto 5, 0, 0, 0, .null), none, none, some (.lload 4, 0, 0, 0, .null), none, some (.lstore 6, 9, 0, 0, .null), none, some (.lload 6, 0, 0, 0, .null), none, some (.iload_n 3, 0, 0, 0, .null), some (.i2l, 0, 0, 0, .null), some (.lcmp, 0, 0, 0, .null), some (.ifCond .lt 14, 0, 0, 0, .null), none, none, some (.iload_n 3, 0, 0, 0, .null), some (.ldc 153, 0, 0, 0, (.int 1073741824)), none, some (.if_icmp .ne 8, 0, 0, 0, .null), none, none, some (.aload_n 0, 0, 0, 0, .null), some (.iconst 1, 0, 0, 0, .null), some (.putfield 157, 7, 3, 1, .null), none, none, some (.lload 6, 0, 0, 0, .null), none, some (.iload_n 3, 0, 0, 0, .null), some (.i2l, 0, 0, 0, .null), some (.lrem, 0, 0, 0, .null), some (.l2i, 0, 0, 0, .null), some (.istore 8, 9, 0, 0, .null), none, some (.aload_n 0, 0, 0, 0, .null), some (.getfield 13, 7, 2, 0, .null), none, none, some (.iload_n 1, 0, 0, 0, .null), some (.iload 8, 0, 0, 0, .null), none, some (.iload 8, 0, 0, 0, .null), none, some (.ifCond .ne 15, 0, 0, 0, .null), none, none, some (.aload_n 0, 0, 0, 0, .null), some (.getfield 13, 7, 2, 0, .null), none, none, some (.iload_n 1, 0, 0, 0, .null), some (.iaload, 0, 0, 0, .null), some (.invokestatic 85, 73, 1, 0, .null), none, none, some (.goto 15, 0, 0, 0, .null), none, none, some (.lload 4, 0, 0, 0, .null), none, some (.lconst 0, 0, 0, 0, .null), some (.lcmp, 0, 0, 0, .null), some (.ifCond .ge 7, 0, 0, 0, .null), none, none, some (.iconst 1, 0, 0, 0, .null), some (.goto 4, 0, 0, 0, .null), none, none, some (.iconst 0, 0, 0, 0, .null), some (.invokestatic 93, 146, 2, 0, .null), none, none, some (.iastore, 0, 0, 0, .null), some (.return_, 0, 0, 0, .null)]
/-- MixMachineModel.control(II)V -/
def nC178 : List (Option mI) := [some (.aload_n 0, 0, 0, 0, .null), some (.iload_n 1, 0, 0, 0, .null), some (.ifCond .eq 8, 0, 0, 0, .null), none, none, some (.iload_n 1, 0, 0, 0, .null), some (.iconst 2, 0, 0, 0, .null), some (.if_icmp .ne 7, 0, 0, 0, .null), none, none, some (.iconst 1, 0, 0, 0, .null), some (.goto 4, 0, 0, 0, .null), none, none, some (.iconst 0, 0, 0, 0, .null), some (.invokevirtual 120, 113, 2, 0, (.retAddr 7)), none, none, some (.aload_n 0, 0, 0, 0, .null), some (.getfield 110, 7, 4, 0, .null), none, none, some (.ifCond .ne 8, 0, 0, 0, .null), none, none, some (.iload_n 1, 0, 0, 0, .null), some (.iconst 2, 0, 0, 0, .null), some (.if_icmp .ne 4, 0, 0, 0, .null), none, none, some (.return_, 0, 0, 0, .null), some (.iload_n 2, 0, 0, 0, .null), some (.ifCond .ne 7, 0, 0, 0, .null), none, none, some (.iconst 0, 0, 0, 0, .null), some (.goto 9, 0, 0, 0, .null), none, none, some (.aload_n 0, 0, 0, 0, .null), some (.getfield 114, 7, 12, 0, .null), none, none, some (.iload_n 2, 0, 0, 0, .null), some (.iadd, 0, 0, 0, .null), some (.istore_n 3, 4, 0, 0, .null), some (.aload_n 0, 0, 0, 0, .null), some (.iload_n 3, 0, 0, 0, .null), some (.ifCond .ge 7, 0, 0, 0, .null), none, none, some (.iconst 0, 0, 0, 0, .null), some (.goto 15, 0, 0, 0, .null), none, none, some (.iload_n 3, 0, 0, 0, .null), some (.bipush 6, 0, 0, 0, .null), none, some (.if_icmp .le 8, 0, 0, 0, .null), none, none, some (.bipush 6, 0, 0, 0, .null), none, some (.goto 4, 0, 0, 0, .null), none, none, some (.iload_n 3, 0, 0, 0, .null), some (.putfield 114, 7, 12, 0, .null), none, none, some (.return_, 0, 0, 0, .null)]
/-- MixMachineModel.reads(II)V -/
def nC179 : List (Option mI) := [some (.aload_n 0, 0, 0, 0, .null), some (.iload_n 1, 0, 0, 0, .null), some (.ifCond .ne 12, 0, 0, 0, .null), none, none, some (.aload_n 0, 0, 0, 0, .null), some (.getfield 114, 7, 12, 0, .null), none, none, some (.bipush 6, 0, 0, 0, .null), none, some (.if_icmp .lt 15, 0, 0, 0, .null), none, none, some (.iload_n 1, 0, 0, 0, .null), some (.iconst 1, 0, 0, 0, .null), some (.if_icmp .ne 14, 0, 0, 0, .null), none, none, some (.aload_n 0, 0, 0, 0, .null), some (.getfield 117, 7, 13, 0, .null), none, none, some (.ifCond .le 7, 0, 0, 0, .null), none, none, some (.iconst 1, 0, 0, 0, .null), some (.goto 4, 0, 0, 0, .null), none, none, some (.iconst 0, 0, 0, 0, .null), some (.invokevirtual 120, 113, 2, 0, (.retAddr 7)), none, none, some (.aload_n 0, 0, 0, 0, .null), some (.iload_n 2, 0, 0, 0, .null), some (.iload_n 1, 0, 0, 0, .null), some (.ifCond .ne 8, 0, 0, 0, .null), none, none, some (.bipush 10, 0, 0, 0, .null), none, some (.goto 4, 0, 0, 0, .null), none, none, some (.iconst 4, 0, 0, 0, .null), some (.invokevirtual 124, 176, 3, 0, (.retAddr 7)), none, none, some (.ifCond .eq 10, 0, 0, 0, .null), none, none, some (.aload_n 0, 0, 0, 0, .null), some (.getfield 110, 7, 4, 0, .null), none, none, some (.ifCond .eq 4, 0, 0, 0, .null), none, none, some (.return_, 0, 0, 0, .null), some (.iload_n 1, 0, 0, 0, .null), some (.ifCond .ne 52, 0, 0, 0, .null), none, none, some (.iconst 0, 0, 0, 0, .null), some (.istore_n 3, 4, 0, 0, .null), some (.iload_n 3, 0, 0, 0, .null), some (.bipush 10, 0, 0, 0, .null), none, some (.if_icmp .ge 31, 0, 0, 0, .null), none, none, some (.aload_n 0, 0, 0, 0, .null), some (.getfield 7, 7, 1, 0, .null), none, none, some (.iload_n 2, 0, 0, 0, .null), some (.iload_n 3, 0, 0, 0, .null), some (.iadd, 0, 0, 0, .null), some (.aload_n 0, 0, 0, 0, .null), some (.getfield 20, 7, 11, 0, .null), none, none, some (.bipush 10, 0, 0, 0, .null), none, some (.aload_n 0, 0, 0, 0, .null), some (.getfield 114, 7, 12, 0, .null), none, none, some (.imul, 0, 0, 0, .null), some (.iload_n 3, 0, 0, 0, .null), some (.iadd, 0, 0, 0, .null), some (.iaload, 0, 0, 0, .null), some (.iastore, 0, 0, 0, .null), some (.iinc 3 1, 4, 0, 0, .null), none, none, some (.goto (-31), 0, 0, 0, .null), none, none, some (.aload_n 0, 0, 0, 0, .null), some (.dup, 0, 0, 0, .null), some (.getfield 114, 7, 12, 0, .null), none, none, some (.iconst 1, 0, 0, 0, .null), some (.iadd, 0, 0, 0, .null), some (.putfield 114, 7, 12, 0, .null), none, none, some (.goto 72, 0, 0, 0, .null), none, none, some (.iconst 0, 0, 0, 0, .null), some (.istore_n 3, 4, 0, 0, .null), some (.iload_n 3, 0, 0, 0, .null), some (.iconst 4, 0, 0, 0, .null), some (.if_icmp .ge 23, 0, 0, 0, .null), none, none, some (.aload_n 0, 0, 0, 0, .null), some (.getfield 7, 7, 1, 0, .null), none, none, some (.iload_n 2, 0, 0, 0, .null), some (.iload_n 3, 0, 0, 0, .null), some (.iadd, 0, 0, 0, .null), some (.aload_n 0, 0, 0, 0, .null), some (.getfield 23, 7, 14, 0, .null), none, none, some (.iload_n 3, 0, 0, 0, .null), some (.iaload, 0, 0, 0, .null), some (.iastore, 0, 0, 0, .null), some (.iinc 3 1, 4, 0, 0, .null), none, none, some (.goto (-22), 0, 0, 0, .null), none, none, some (.aload_n 0, 0, 0, 0, .null), some (.dup, 0, 0, 0, .null), some (.getfield 117, 7, 13, 0, .null), none, none, some (.iconst 1, 0, 0, 0, .null), some (.isub, 0, 0, 0, .null), some (.putfield 117, 7, 13, 0, .null), none, none, some (.iconst 0, 0, 0, 0, .null), some (.istore_n 3, 4, 0, 0, .null), some (.iload_n 3, 0, 0, 0, .null), some (.iconst 4, 0, 0, 0, .null), some (.aload_n 0, 0, 0, 0, .null), some (.getfield 117, 7, 13, 0, .null), none, none, some (.imul, 0, 0, 0, .null), some (.if_icmp .ge 23, 0, 0, 0, .null), none, none, some (.aload_n 0, 0, 0, 0, .null), some (.getfield 23, 7, 14, 0, .null), none, none, some (.iload_n 3, 0, 0, 0, .null), some (.aload_n 0, 0, 0, 0, .null), some (.getfield 23, 7, 14, 0, .null), none, none, some (.iload_n 3, 0, 0, 0, .null), some (.iconst 4, 0, 0, 0, .null), some (.iadd, 0, 0, 0, .null), some (.iaload, 0, 0, 0, .null), some (.iastore, 0, 0, 0, .null), some (.iinc 3 1, 4, 0, 0, .null), none, none, some (.goto (-27), 0, 0, 0, .null), none, none, some (.return_, 0, 0, 0, .null)]
/-- MixMachineModel.writes(II)V -/
def nC180 : List (Option mI) := [some (.aload_n 0, 0, 0, 0, .null), some (.iload_n 1, 0, 0, 0, .null), some (.ifCond .ne 12, 0, 0, 0, .null), none, none, some (.aload_n 0, 0, 0, 0, .null), some (.getfield 114, 7, 12, 0, .null), none, none, some (.bipush 6, 0, 0, 0, .null), none, some (.if_icmp .lt 8, 0, 0, 0, .null), none, none, some (.iload_n 1, 0, 0, 0, .null), some (.iconst 2, 0, 0, 0, .null), some (.if_icmp .ne 7, 0, 0, 0, .null), none, none, some (.iconst 1, 0, 0, 0, .null), some (.goto 4, 0, 0, 0, .null), none, none, some (.iconst 0, 0, 0, 0, .null), some (.invokevirtual 120, 113, 2, 0, (.retAddr 7)), none, none, some (.aload_n 0, 0, 0, 0, .null), some (.iload_n 2, 0, 0, 0, .null), some (.iload_n 1, 0, 0, 0, .null), some (.ifCond .ne 8, 0, 0, 0, .null), none, none, some (.bipush 10, 0, 0, 0, .null), none, some (.goto 5, 0, 0, 0, .null), none, none, some (.bipush 6, 0, 0, 0, .null), none, some (.invokevirtual 124, 176, 3, 0, (.retAddr 7)), none, none, some (.ifCond .eq 10, 0, 0, 0, .null), none, none, some (.aload_n 0, 0, 0, 0, .null), some (.getfield 110, 7, 4, 0, .null), none, none, some (.ifCond .eq 4, 0, 0, 0, .null), none, none, some (.return_, 0, 0, 0, .null), some (.iload_n 1, 0, 0, 0, .null), some (.ifCond .ne 52, 0, 0, 0, .null), none, none, some (.iconst 0, 0, 0, 0, .null), some (.istore_n 3, 4, 0, 0, .null), some (.iload_n 3, 0, 0, 0, .null), some (.bipush 10, 0, 0, 0, .null), none, some (.if_icmp .ge 31, 0, 0, 0, .null), none, none, some (.aload_n 0, 0, 0, 0, .null), some (.getfield 20, 7, 11, 0, .null), none, none, some (.bipush 10, 0, 0, 0, .null), none, some (.aload_n 0, 0, 0, 0, .null), some (.getfield 114, 7, 12, 0, .null), none, none, some (.imul, 0, 0, 0, .null), some (.iload_n 3, 0, 0, 0, .null), some (.iadd, 0, 0, 0, .null), some (.aload_n 0, 0, 0, 0, .null), some (.getfield 7, 7, 1, 0, .null), none, none, some (.iload_n 2, 0, 0, 0, .null), some (.iload_n 3, 0, 0, 0, .null), some (.iadd, 0, 0, 0, .null), some (.iaload, 0, 0, 0, .null), some (.iastore, 0, 0, 0, .null), some (.iinc 3 1, 4, 0, 0, .null), none, none, some (.goto (-31), 0, 0, 0, .null), none, none, some (.aload_n 0, 0, 0, 0, .null), some (.dup, 0, 0, 0, .null), some (.getfield 114, 7, 12, 0, .null), none, none, some (.iconst 1, 0, 0, 0, .null), some (.iadd, 0, 0, 0, .null), some (.putfield 114, 7, 12, 0, .null), none, none, some (.goto 70, 0, 0, 0, .null), none, none, some (.bipush 47, 0, 0, 0, .null), none, some (.istore_n 3, 4, 0, 0, .null), some (.iload_n 3, 0, 0, 0, .null), some (.iconst 5, 0, 0, 0, .null), some (.if_icmp .le 24, 0, 0, 0, .null), none, none, some (.aload_n 0, 0, 0, 0, .null), some (.getfield 26, 7, 16, 0, .null), none, none, some (.iload_n 3, 0, 0, 0, .null), some (.aload_n 0, 0, 0, 0, .null), some (.getfield 26, 7, 16, 0, .null), none, none, some (.iload_n 3, 0, 0, 0, .null), some (.bipush 6, 0, 0, 0, .null), none, some (.isub, 0, 0, 0, .null), some (.iaload, 0, 0, 0, .null), some (.iastore, 0, 0, 0, .null), some (.iinc 3 (-1), 4, 0, 0, .null), none, none, some (.goto (-23), 0, 0, 0, .null), none, none, some (.iconst 0, 0, 0, 0, .null), some (.istore_n 3, 4, 0, 0, .null), some (.iload_n 3, 0, 0, 0, .null), some (.bipush 6, 0, 0, 0, .null), none, some (.if_icmp .ge 23, 0, 0, 0, .null), none, none, some (.aload_n 0, 0, 0, 0, .null), some (.getfield 26, 7, 16, 0, .null), none, none, some (.iload_n 3, 0, 0, 0, .null), some (.aload_n 0, 0, 0, 0, .null), some (.getfield 7, 7, 1, 0, .null), none, none, some (.iload_n 2, 0, 0, 0, .null), some (.iload_n 3, 0, 0, 0, .null), some (.iadd, 0, 0, 0, .null), some (.iaload, 0, 0, 0, .null), some (.iastore, 0, 0, 0, .null), some (.iinc 3 1, 4, 0, 0, .null), none, none, some (.goto (-23), 0, 0, 0, .null), none, none, some (.aload_n 0, 0, 0, 0, .null), some (.dup, 0, 0, 0, .null), some (.getfield 128, 7, 15, 0, .null), none, none, some (.iconst 1, 0, 0, 0, .null), some (.iadd, 0, 0, 0, .null), some (.putfield 128, 7, 15, 0, .null), none, none, some (.return_, 0, 0, 0, .null)]
/-- MixMachineModel.sign(II)Z -/
def nC181 : List (Option mI) := [some (.iload_n 1, 0, 0, 0, .null), some (.ifCond .ne 15, 0, 0, 0, .null), none, none, some (.iload_n 2, 0, 0, 0, .null), some (.ifCond .ge 7, 0, 0, 0, .null), none, none, some (.iconst 1, 0, 0, 0, .null), some (.goto 84, 0, 0, 0, .null), none, none, some (.iconst 0, 0, 0, 0, .null), some (.goto 80, 0, 0, 0, .null), none, none, some (.iload_n 1, 0, 0, 0, .null), some (.iconst 1, 0, 0, 0, .null), some (.if_icmp .ne 15, 0, 0, 0, .null), none, none, some (.iload_n 2, 0, 0, 0, .null), some (.ifCond .ne 7, 0, 0, 0, .null), none, none, some (.iconst 1, 0, 0, 0, .null), some (.goto 67, 0, 0, 0, .null), none, none, some (.iconst 0, 0, 0, 0, .null), some (.goto 63, 0, 0, 0, .null), none, none, some (.iload_n 1, 0, 0, 0, .null), some (.iconst 2, 0, 0, 0, .null), some (.if_icmp .ne 15, 0, 0, 0, .null), none, none, some (.iload_n 2, 0, 0, 0, .null), some (.ifCond .le 7, 0, 0, 0, .null), none, none, some (.iconst 1, 0, 0, 0, .null), some (.goto 50, 0, 0, 0, .null), none, none, some (.iconst 0, 0, 0, 0, .null), some (.goto 46, 0, 0, 0, .null), none, none, some (.iload_n 1, 0, 0, 0, .null), some (.iconst 3, 0, 0, 0, .null), some (.if_icmp .ne 15, 0, 0, 0, .null), none, none, some (.iload_n 2, 0, 0, 0, .null), some (.ifCond .lt 7, 0, 0, 0, .null), none, none, some (.iconst 1, 0, 0, 0, .null), some (.goto 33, 0, 0, 0, .null), none, none, some (.iconst 0, 0, 0, 0, .null), some (.goto 29, 0, 0, 0, .null), none, none, some (.iload_n 1, 0, 0, 0, .null), some (.iconst 4, 0, 0, 0, .null), some (.if_icmp .ne 15, 0, 0, 0, .null), none, none, some (.iload_n 2, 0, 0, 0, .null), some (.ifCond .eq 7, 0, 0, 0, .null), none, none, some (.iconst 1, 0, 0, 0, .null), some (.goto 16, 0, 0, 0, .null), none, none, some (.iconst 0, 0, 0, 0, .null), some (.goto 12, 0, 0, 0, .null), none, none, some (.iload_n 2, 0, 0, 0, .null), some (.ifCond .gt 7, 0, 0, 0, .null), none, none, some (.iconst 1, 0, 0, 0, .null), some (.goto 4, 0, 0, 0, .null), none, none, some (.iconst 0, 0, 0, 0, .null), some (.ireturn, 1, 0, 0, .null)]
/-- MixMachine$Symbols.indexOf(J)I -/
def nC182 : List (Option mI) := [some (.iconst 0, 0, 0, 0, .null), some (.istore_n 3, 4, 0, 0, .null), some (.iload_n 3, 0, 0, 0, .null), some (.aload_n 0, 0, 0, 0, .null), some (.getfield 19, 5, 2, 0, .null), none, none, some (.if_icmp .ge 22, 0, 0, 0, .null), none, none, some (.aload_n 0, 0, 0, 0, .null), some (.getfield 11, 5, 0, 0, .null), none, none, some (.iload_n 3, 0, 0, 0, .null), some (.laload, 0, 0, 0, .null), some (.lload_n 1, 0, 0, 0, .null), some (.lcmp, 0, 0, 0, .null), some (.ifCond .ne 5, 0, 0, 0, .null), none, none, some (.iload_n 3, 0, 0, 0, .null), some (.ireturn, 0, 0, 0, .null), some (.iinc 3 1, 4, 0, 0, .null), none, none, some (.goto (-24), 0, 0, 0, .null), none, none, some (.aload_n 0, 0, 0, 0, .null), some (.getfield 19, 5, 2, 0, .null), none, none, some (.bipush 30, 0, 0, 0, .null), none, some (.if_icmp .lt 5, 0, 0, 0, .null), none, none, some (.iconst (-1), 0, 0, 0, .null), some (.ireturn, 0, 0, 0, .null), some (.aload_n 0, 0, 0, 0, .null), some (.getfield 11, 5, 0, 0, .null), none, none, some (.aload_n 0, 0, 0, 0, .null), some (.getfield 19, 5, 2, 0, .null), none, none, some (.lload_n 1, 0, 0, 0, .null), some (.lastore, 0, 0, 0, .null), some (.aload_n 0, 0, 0, 0, .null), some (.getfield 15, 5, 1, 0, .null), none, none, some (.aload_n 0, 0, 0, 0, .null), some (.getfield 19, 5, 2, 0, .null), none, none, some (.iconst (-1), 0, 0, 0, .null), some (.iastore, 0, 0, 0, .null), some (.aload_n 0, 0, 0, 0, .null), some (.dup, 0, 0, 0, .null), some (.getfield 19, 5, 2, 0, .null), none, none, some (.iconst 1, 0, 0, 0, .null), some (.iadd, 0, 0, 0, .null), some (.putfield 19, 5, 2, 0, .null), none, none, some (.aload_n 0, 0, 0, 0, .null), some (.getfield 19, 5, 2, 0, .null), none, none, some (.iconst 1, 0, 0, 0, .null), some (.isub, 0, 0, 0, .null), some (.ireturn, 0, 0, 0, .null)]
/-- java/lang/String.length()I -/
def nC183 : List (Option mI) := [some (.aload_n 0, 0, 0, 0, .null), some (.getfield 9, 14, 0, 0, .null), none, none, some (.arraylength, 0, 0, 0, .null), some (.aload_n 0, 0, 0, 0, .null), some (.invokevirtual 335, 217, 1, 0, (.retAddr 14)), none, none, some (.ishr, 0, 0, 0, .null), some (.ireturn, 0, 0, 0, .null)]
/-- java/lang/String.charAt(I)C -/
def nC184 : List (Option mI) := [some (.aload_n 0, 0, 0, 0, .null), some (.invokevirtual 492, 218, 1, 0, (.retAddr 14)), none, none, some (.ifCond .eq 12, 0, 0, 0, .null), none, none, some (.aload_n 0, 0, 0, 0, .null), some (.getfield 9, 14, 0, 0, .null), none, none, some (.iload_n 1, 0, 0, 0, .null), some (.invokestatic 495, 219, 2, 0, .null), none, none, some (.ireturn, 2, 0, 0, .null), some (.aload_n 0, 0, 0, 0, .null), some (.getfield 9, 14, 0, 0, .null), none, none, some (.iload_n 1, 0, 0, 0, .null), none, none, none, some (.ireturn, 2, 0, 0, .null)]
/-- java/lang/String.indexOf(I)I -/
def nC185 : List (Option mI) := [some (.aload_n 0, 0, 0, 0, .null), some (.iload_n 1, 0, 0, 0, .null), some (.iconst 0, 0, 0, 0, .null), some (.invokevirtual 633, 220, 3, 0, (.retAddr 14)), none, none, some (.ireturn, 0, 0, 0, .null)]
/-- MixMachine$Text.isAPartRead()Z -/
def nC186 : List (Option mI) := [some (.aload_n 0, 0, 0, 0, .null), some (.getfield 30, 3, 2, 0, .null), none, none, some (.aload_n 0, 0, 0, 0, .null), some (.getfield 36, 3, 5, 0, .null), none, none, some (.if_icmp .ge 31, 0, 0, 0, .null), none, none, some (.aload_n 0, 0, 0, 0, .null), some (.getfield 9, 3, 0, 0, .null), none, none, some (.aload_n 0, 0, 0, 0, .null), some (.getfield 30, 3, 2, 0, .null), none, none, some (.caload, 0, 0, 0, .null), some (.bipush 44, 0, 0, 0, .null), none, some (.if_icmp .eq 17, 0, 0, 0, .null), none, none, some (.aload_n 0, 0, 0, 0, .null), some (.getfield 9, 3, 0, 0, .null), none, none, some (.aload_n 0, 0, 0, 0, .null), some (.getfield 30, 3, 2, 0, .null), none, none, some (.caload, 0, 0, 0, .null), some (.bipush 40, 0, 0, 0, .null), none, some (.if_icmp .ne 7, 0, 0, 0, .null), none, none, some (.iconst 1, 0, 0, 0, .null), some (.goto 4, 0, 0, 0, .null), none, none, some (.iconst 0, 0, 0, 0, .null), some (.ireturn, 1, 0, 0, .null)]
/-- MixMachine$Assembler.readLiteral(I)V -/
def nC187 : List (Option mI) := [some (.aload_n 0, 0, 0, 0, .null), some (.getfield 11, 4, 0, 0, .null), none, none, some (.bipush 61, 0, 0, 0, .null), none, some (.invokevirtual 230, 127, 2, 0, (.retAddr 3)), none, none, some (.ifCond .eq 12, 0, 0, 0, .null), none, none, some (.aload_n 0, 0, 0, 0, .null), some (.getfield 64, 4, 7, 0, .null), none, none, some (.bipush 20, 0, 0, 0, .null), none, some (.if_icmp .lt 14, 0, 0, 0, .null), none, none, some (.new 146, 288, 150, 1, (.retAddr 1)), none, none, none, none, none, none, none, none, none, none, some (.aload_n 0, 0, 0, 0, .null), some (.getfield 38, 4, 5, 0, .null), none, none, some (.aload_n 0, 0, 0, 0, .null), some (.getfield 64, 4, 7, 0, .null), none, none, some (.iload_n 1, 0, 0, 0, .null), some (.iastore, 0, 0, 0, .null), some (.aload_n 0, 0, 0, 0, .null), some (.sipush 200, 0, 0, 0, .null), none, none, some (.aload_n 0, 0, 0, 0, .null), some (.getfield 64, 4, 7, 0, .null), none, none, some (.iadd, 0, 0, 0, .null), some (.putfield 255, 4, 17, 0, .null), none, none, some (.aload_n 0, 0, 0, 0, .null), some (.dup, 0, 0, 0, .null), some (.getfield 64, 4, 7, 0, .null), none, none, some (.iconst 1, 0, 0, 0, .null), some (.iadd, 0, 0, 0, .null), some (.putfield 64, 4, 7, 0, .null), none, none, some (.return_, 0, 0, 0, .null)]
/-- MixMachine$Assembler.isToCome()Z -/
def nC188 : List (Option mI) := [some (.aload_n 0, 0, 0, 0, .null), some (.getfield 11, 4, 0, 0, .null), none, none, some (.invokevirtual 143, 121, 1, 0, (.retAddr 3)), none, none, some (.istore_n 1, 2, 0, 0, .null), some (.iload_n 1, 0, 0, 0, .null), some (.iconst 5, 0, 0, 0, .null), some (.if_icmp .ne 20, 0, 0, 0, .null), none, none, some (.aload_n 0, 0, 0, 0, .null), some (.bipush 100, 0, 0, 0, .null), none, some (.aload_n 0, 0, 0, 0, .null), some (.getfield 11, 4, 0, 0, .null), none, none, some (.invokevirtual 153, 122, 1, 0, (.retAddr 3)), none, none, some (.iadd, 0, 0, 0, .null), some (.putfield 255, 4, 17, 0, .null), none, none, some (.goto 34, 0, 0, 0, .null), none, none, some (.iload_n 1, 0, 0, 0, .null), some (.iconst 2, 0, 0, 0, .null), some (.if_icmp .ne 29, 0, 0, 0, .null), none, none, some (.aload_n 0, 0, 0, 0, .null), some (.getfield 20, 4, 1, 0, .null), none, none, some (.aload_n 0, 0, 0, 0, .null), some (.getfield 11, 4, 0, 0, .null), none, none, some (.getfield 164, 3, 6, 0, .null), none, none, some (.invokevirtual 290, 68, 2, 0, (.retAddr 5)), none, none, some (.iconst (-1), 0, 0, 0, .null), some (.if_icmp .ne 11, 0, 0, 0, .null), none, none, some (.aload_n 0, 0, 0, 0, .null), some (.aload_n 0, 0, 0, 0, .null), some (.invokevirtual 156, 123, 1, 0, (.retAddr 4)), none, none, some (.putfield 255, 4, 17, 0, .null), none, none, some (.aload_n 0, 0, 0, 0, .null), some (.getfield 255, 4, 17, 0, .null), none, none, some (.iconst (-1), 0, 0, 0, .null), some (.if_icmp .eq 7, 0, 0, 0, .null), none, none, some (.iconst 1, 0, 0, 0, .null), some (.goto 4, 0, 0, 0, .null), none, none, some (.iconst 0, 0, 0, 0, .null), some (.ireturn, 1, 0, 0, .null)]
/-- MixMachine$Assembler.readExpression()J -/
def nC189 : List (Option mI) := [some (.aload_n 0, 0, 0, 0, .null), some (.getfield 11, 4, 0, 0, .null), none, none, some (.bipush 45, 0, 0, 0, .null), none, some (.invokevirtual 230, 127, 2, 0, (.retAddr 3)), none, none, some (.istore_n 1, 6, 0, 0, .null), some (.iload_n 1, 0, 0, 0, .null), some (.ifCond .ne 13, 0, 0, 0, .null), none, none, some (.aload_n 0, 0, 0, 0, .null), some (.getfield 11, 4, 0, 0, .null), none, none, some (.bipush 43, 0, 0, 0, .null), none, some (.invokevirtual 230, 127, 2, 0, (.retAddr 3)), none, none, some (.pop, 0, 0, 0, .null), some (.aload_n 0, 0, 0, 0, .null), some (.invokevirtual 301, 221, 1, 0, (.retAddr 4)), none, none, some (.lstore_n 2, 6, 0, 0, .null), some (.iload_n 1, 0, 0, 0, .null), some (.ifCond .eq 8, 0, 0, 0, .null), none, none, some (.lload_n 2, 0, 0, 0, .null), some (.lneg, 0, 0, 0, .null), some (.goto 4, 0, 0, 0, .null), none, none, some (.lload_n 2, 0, 0, 0, .null), some (.lstore_n 2, 6, 0, 0, .null), some (.iconst 0, 0, 0, 0, .null), some (.istore 4, 6, 0, 0, .null), none, some (.iload 4, 0, 0, 0, .null), none, some (.sipush 240, 0, 0, 0, .null), none, none, some (.if_icmp .ge 38, 0, 0, 0, .null), none, none, some (.aload_n 0, 0, 0, 0, .null), some (.getfield 11, 4, 0, 0, .null), none, none, some (.invokevirtual 304, 222, 1, 0, (.retAddr 3)), none, none, some (.istore 5, 6, 0, 0, .null), none, some (.iload 5, 0, 0, 0, .null), none, some (.bipush 32, 0, 0, 0, .null), none, some (.if_icmp .ne 5, 0, 0, 0, .null), none, none, some (.lload_n 2, 0, 0, 0, .null), some (.lreturn, 0, 0, 0, .null), some (.lload_n 2, 0, 0, 0, .null), some (.iload 5, 0, 0, 0, .null), none, some (.aload_n 0, 0, 0, 0, .null), some (.invokevirtual 301, 221, 1, 0, (.retAddr 4)), none, none, some (.invokestatic 308, 223, 3, 0, .null), none, none, some (.lstore_n 2, 6, 0, 0, .null), some (.iinc 4 1, 6, 0, 0, .null), none, none, some (.goto (-40), 0, 0, 0, .null), none, none, some (.lload_n 2, 0, 0, 0, .null), some (.lreturn, 0, 0, 0, .null)]
/-- MixMachine$Words.lowBytes(I)I -/
def nC190 : List (Option mI) := [some (.iload_n 0, 0, 0, 0, .null), some (.bipush 8, 0, 0, 0, .null), none, some (.if_icmp .ge 7, 0, 0, 0, .null), none, none, some (.iconst 1, 0, 0, 0, .null), some (.goto 6, 0, 0, 0, .null), none, none, some (.iload_n 0, 0, 0, 0, .null), some (.iconst 3, 0, 0, 0, .null), some (.ishr, 0, 0, 0, .null), some (.istore_n 1, 2, 0, 0, .null), some (.iconst 1, 0, 0, 0, .null), some (.bipush 6, 0, 0, 0, .null), none, some (.iload_n 0, 0, 0, 0, .null), some (.bipush 7, 0, 0, 0, .null), none, some (.iand, 0, 0, 0, .null), some (.iload_n 1, 0, 0, 0, .null), some (.isub, 0, 0, 0, .null), some (.iconst 1, 0, 0, 0, .null), some (.iadd, 0, 0, 0, .null), some (.imul, 0, 0, 0, .null), some (.ishl, 0, 0, 0, .null), some (.iconst 1, 0, 0, 0, .null), some (.isub, 0, 0, 0, .null), some (.ireturn, 0, 0, 0, .null)]
/-- MixMachine$Words.minus(I)I -/
def nC191 : List (Option mI) := [some (.iload_n 0, 0, 0, 0, .null), some (.iconst 1, 0, 0, 0, .null), some (.iand, 0, 0, 0, .null), some (.ireturn, 0, 0, 0, .null)]
/-- MixMachine$Words.isField(J)Z -/
def nC192 : List (Option mI) := [some (.lload_n 0, 0, 0, 0, .null), some (.lconst 0, 0, 0, 0, .null), some (.lcmp, 0, 0, 0, .null), some (.ifCond .lt 31, 0, 0, 0, .null), none, none, some (.lload_n 0, 0, 0, 0, .null), some (.iconst 3, 0, 0, 0, .null), some (.lshr, 0, 0, 0, .null), some (.lload_n 0, 0, 0, 0, .null), some (.ldc2_w 9, 0, 0, 0, (.long 7)), none, none, some (.land, 0, 0, 0, .null), some (.lcmp, 0, 0, 0, .null), some (.ifCond .gt 19, 0, 0, 0, .null), none, none, some (.lload_n 0, 0, 0, 0, .null), some (.ldc2_w 9, 0, 0, 0, (.long 7)), none, none, some (.land, 0, 0, 0, .null), some (.ldc2_w 11, 0, 0, 0, (.long 5)), none, none, some (.lcmp, 0, 0, 0, .null), some (.ifCond .gt 7, 0, 0, 0, .null), none, none, some (.iconst 1, 0, 0, 0, .null), some (.goto 4, 0, 0, 0, .null), none, none, some (.iconst 0, 0, 0, 0, .null), some (.ireturn, 1, 0, 0, .null)]
/-- MixMachineModel.waits(II)V -/
def nC193 : List (Option mI) := [some (.aload_n 0, 0, 0, 0, .null), some (.getfield 329, 7, 37, 0, .null), none, none, some (.bipush 60, 0, 0, 0, .null), none, some (.if_icmp .ne 8, 0, 0, 0, .null), none, none, some (.aload_n 0, 0, 0, 0, .null), some (.invokevirtual 291, 40, 1, 0, (.retAddr 7)), none, none, some (.return_, 0, 0, 0, .null), some (.aload_n 0, 0, 0, 0, .null), some (.getfield 64, 7, 38, 0, .null), none, none, some (.aload_n 0, 0, 0, 0, .null), some (.getfield 329, 7, 37, 0, .null), none, none, some (.iload_n 1, 0, 0, 0, .null), some (.iastore, 0, 0, 0, .null), some (.aload_n 0, 0, 0, 0, .null), some (.getfield 67, 7, 39, 0, .null), none, none, some (.aload_n 0, 0, 0, 0, .null), some (.getfield 329, 7, 37, 0, .null), none, none, some (.iload_n 2, 0, 0, 0, .null), some (.iastore, 0, 0, 0, .null), some (.aload_n 0, 0, 0, 0, .null), some (.getfield 70, 7, 40, 0, .null), none, none, some (.aload_n 0, 0, 0, 0, .null), some (.getfield 329, 7, 37, 0, .null), none, none, some (.aload_n 0, 0, 0, 0, .null), some (.getfield 300, 7, 24, 0, .null), none, none, some (.iastore, 0, 0, 0, .null), some (.aload_n 0, 0, 0, 0, .null), some (.getfield 73, 7, 41, 0, .null), none, none, some (.aload_n 0, 0, 0, 0, .null), some (.getfield 329, 7, 37, 0, .null), none, none, some (.iconst 1, 0, 0, 0, .null), some (.bastore, 0, 0, 0, .null), some (.aload_n 0, 0, 0, 0, .null), some (.dup, 0, 0, 0, .null), some (.getfield 329, 7, 37, 0, .null), none, none, some (.iconst 1, 0, 0, 0, .null), some (.iadd, 0, 0, 0, .null), some (.putfield 329, 7, 37, 0, .null), none, none, some (.return_, 0, 0, 0, .null)]
/-- MixMachineModel.atom()I -/
def nC194 : List (Option mI) := [some (.aload_n 0, 0, 0, 0, .null), some (.invokevirtual 296, 148, 1, 0, (.retAddr 7)), none, none, some (.bipush 42, 0, 0, 0, .null), none, some (.if_icmp .ne 23, 0, 0, 0, .null), none, none, some (.aload_n 0, 0, 0, 0, .null), some (.dup, 0, 0, 0, .null), some (.getfield 268, 7, 21, 0, .null), none, none, some (.iconst 1, 0, 0, 0, .null), some (.iadd, 0, 0, 0, .null), some (.putfield 268, 7, 21, 0, .null), none, none, some (.aload_n 0, 0, 0, 0, .null), some (.aload_n 0, 0, 0, 0, .null), some (.getfield 300, 7, 24, 0, .null), none, none, some (.i2l, 0, 0, 0, .null), some (.invokevirtual 303, 196, 2, 0, (.retAddr 7)), none, none, some (.ireturn, 0, 0, 0, .null), some (.aload_n 0, 0, 0, 0, .null), some (.getfield 268, 7, 21, 0, .null), none, none, some (.istore_n 1, 5, 0, 0, .null), some (.aload_n 0, 0, 0, 0, .null), some (.aload_n 0, 0, 0, 0, .null), some (.iload_n 1, 0, 0, 0, .null), some (.invokevirtual 306, 66, 2, 0, (.retAddr 7)), none, none, some (.putfield 268, 7, 21, 0, .null), none, none, some (.aload_n 0, 0, 0, 0, .null), some (.getfield 268, 7, 21, 0, .null), none, none, some (.iload_n 1, 0, 0, 0, .null), some (.if_icmp .ne 7, 0, 0, 0, .null), none, none, some (.aload_n 0, 0, 0, 0, .null), some (.invokevirtual 291, 40, 1, 0, (.retAddr 7)), none, none, some (.aload_n 0, 0, 0, 0, .null), some (.getfield 262, 7, 23, 0, .null), none, none, some (.ifCond .eq 5, 0, 0, 0, .null), none, none, some (.iconst 0, 0, 0, 0, .null), some (.ireturn, 0, 0, 0, .null), some (.iconst 1, 0, 0, 0, .null), some (.istore_n 2, 5, 0, 0, .null), some (.iload_n 1, 0, 0, 0, .null), some (.istore_n 3, 5, 0, 0, .null), some (.iload_n 3, 0, 0, 0, .null), some (.aload_n 0, 0, 0, 0, .null), some (.getfield 268, 7, 21, 0, .null), none, none, some (.if_icmp .ge 31, 0, 0, 0, .null), none, none, some (.iload_n 2, 0, 0, 0, .null), some (.ifCond .eq 19, 0, 0, 0, .null), none, none, some (.aload_n 0, 0, 0, 0, .null), some (.getfield 32, 7, 19, 0, .null), none, none, some (.iload_n 3, 0, 0, 0, .null), some (.iaload, 0, 0, 0, .null), some (.invokestatic 265, 139, 1, 0, .null), none, none, some (.ifCond .eq 7, 0, 0, 0, .null), none, none, some (.iconst 1, 0, 0, 0, .null), some (.goto 4, 0, 0, 0, .null), none, none, some (.iconst 0, 0, 0, 0, .null), some (.istore_n 2, 5, 0, 0, .null), some (.iinc 3 1, 5, 0, 0, .null), none, none, some (.goto (-33), 0, 0, 0, .null), none, none, some (.iload_n 2, 0, 0, 0, .null), some (.ifCond .eq 65, 0, 0, 0, .null), none, none, some (.iconst 0, 0, 0, 0, .null), some (.istore_n 3, 5, 0, 0, .null), some (.iload_n 1, 0, 0, 0, .null), some (.istore 4, 5, 0, 0, .null), none, some (.iload 4, 0, 0, 0, .null), none, some (.aload_n 0, 0, 0, 0, .null), some (.getfield 268, 7, 21, 0, .null), none, none, some (.if_icmp .ge 34, 0, 0, 0, .null), none, none, some (.iload 4, 0, 0, 0, .null), none, some (.iload_n 1, 0, 0, 0, .null), some (.bipush 9, 0, 0, 0, .null), none, some (.iadd, 0, 0, 0, .null), some (.if_icmp .ge 25, 0, 0, 0, .null), none, none, some (.bipush 10, 0, 0, 0, .null), none, some (.iload_n 3, 0, 0, 0, .null), some (.imul, 0, 0, 0, .null), some (.aload_n 0, 0, 0, 0, .null), some (.getfield 32, 7, 19, 0, .null), none, none, some (.iload 4, 0, 0, 0, .null), none, some (.iaload, 0, 0, 0, .null), some (.iadd, 0, 0, 0, .null), some (.bipush 48, 0, 0, 0, .null), none, some (.isub, 0, 0, 0, .null), some (.istore_n 3, 5, 0, 0, .null), some (.iinc 4 1, 5, 0, 0, .null), none, none, some (.goto (-37), 0, 0, 0, .null), none, none, some (.aload_n 0, 0, 0, 0, .null), some (.getfield 268, 7, 21, 0, .null), none, none, some (.iload_n 1, 0, 0, 0, .null), some (.isub, 0, 0, 0, .null), some (.bipush 9, 0, 0, 0, .null), none, some (.if_icmp .le 7, 0, 0, 0, .null), none, none, some (.aload_n 0, 0, 0, 0, .null), some (.invokevirtual 291, 40, 1, 0, (.retAddr 7)), none, none, some (.iload_n 3, 0, 0, 0, .null), some (.ireturn, 0, 0, 0, .null), some (.aload_n 0, 0, 0, 0, .null), some (.iload_n 1, 0, 0, 0, .null), some (.aload_n 0, 0, 0, 0, .null), some (.getfield 268, 7, 21, 0, .null), none, none, some (.bipush 66, 0, 0, 0, .null), none, some (.invokevirtual 277, 97, 4, 0, (.retAddr 7)), none, none, some (.ifCond .eq 36, 0, 0, 0, .null), none, none, some (.aload_n 0, 0, 0, 0, .null), some (.getfield 32, 7, 19, 0, .null), none, none, some (.iload_n 1, 0, 0, 0, .null), some (.iaload, 0, 0, 0, .null), some (.bipush 48, 0, 0, 0, .null), none, some (.isub, 0, 0, 0, .null), some (.istore_n 3, 5, 0, 0, .null), some (.aload_n 0, 0, 0, 0, .null), some (.getfield 58, 7, 35, 0, .null), none, none, some (.iload_n 3, 0, 0, 0, .null), some (.baload, 0, 0, 0, .null), some (.ifCond .ne 7, 0, 0, 0, .null), none, none, some (.aload_n 0, 0, 0, 0, .null), some (.invokevirtual 291, 40, 1, 0, (.retAddr 7)), none, none, some (.aload_n 0, 0, 0, 0, .null), some (.getfield 61, 7, 36, 0, .null), none, none, some (.iload_n 3, 0, 0, 0, .null), some (.iaload, 0, 0, 0, .null), some (.invokestatic 154, 74, 1, 0, .null), none, none, some (.ireturn, 0, 0, 0, .null), some (.aload_n 0, 0, 0, 0, .null), some (.iload_n 1, 0, 0, 0, .null), some (.aload_n 0, 0, 0, 0, .null), some (.getfield 268, 7, 21, 0, .null), none, none, some (.invokevirtual 309, 99, 3, 0, (.retAddr 7)), none, none, some (.ifCond .eq 19, 0, 0, 0, .null), none, none, some (.aload_n 0, 0, 0, 0, .null), some (.aload_n 0, 0, 0, 0, .null), some (.iload_n 1, 0, 0, 0, .null), some (.aload_n 0, 0, 0, 0, .null), some (.getfield 268, 7, 21, 0, .null), none, none, some (.invokevirtual 283, 140, 3, 0, (.retAddr 7)), none, none, some (.invokevirtual 287, 145, 2, 0, (.retAddr 7)), none, none, some (.goto 4, 0, 0, 0, .null), none, none, some (.iconst (-1), 0, 0, 0, .null), some (.istore_n 3, 5, 0, 0, .null), some (.iload_n 3, 0, 0, 0, .null), some (.ifCond .lt 12, 0, 0, 0, .null), none, none, some (.aload_n 0, 0, 0, 0, .null), some (.getfield 49, 7, 31, 0, .null), none, none, some (.iload_n 3, 0, 0, 0, .null), some (.baload, 0, 0, 0, .null), some (.ifCond .ne 9, 0, 0, 0, .null), none, none, some (.aload_n 0, 0, 0, 0, .null), some (.invokevirtual 291, 40, 1, 0, (.retAddr 7)), none, none, some (.iconst 0, 0, 0, 0, .null), some (.ireturn, 0, 0, 0, .null), some (.aload_n 0, 0, 0, 0, .null), some (.getfield 52, 7, 32, 0, .null), none, none, some (.iload_n 3, 0, 0, 0, .null), some (.iaload, 0, 0, 0, .null), some (.invokestatic 154, 74, 1, 0, .null), none, none, some (.ireturn, 0, 0, 0, .null)]
/-- MixMachineModel.operator(I)Z -/
def nC195 : List (Option mI) := [some (.iload_n 0, 0, 0, 0, .null), some (.bipush 43, 0, 0, 0, .null), none, some (.if_icmp .eq 27, 0, 0, 0, .null), none, none, some (.iload_n 0, 0, 0, 0, .null), some (.bipush 45, 0, 0, 0, .null), none, some (.if_icmp .eq 21, 0, 0, 0, .null), none, none, some (.iload_n 0, 0, 0, 0, .null), some (.bipush 42, 0, 0, 0, .null), none, some (.if_icmp .eq 15, 0, 0, 0, .null), none, none, some (.iload_n 0, 0, 0, 0, .null), some (.bipush 47, 0, 0, 0, .null), none, some (.if_icmp .eq 9, 0, 0, 0, .null), none, none, some (.iload_n 0, 0, 0, 0, .null), some (.bipush 58, 0, 0, 0, .null), none, some (.if_icmp .ne 7, 0, 0, 0, .null), none, none, some (.iconst 1, 0, 0, 0, .null), some (.goto 4, 0, 0, 0, .null), none, none, some (.iconst 0, 0, 0, 0, .null), some (.ireturn, 1, 0, 0, .null)]
/-- MixMachineModel.bounded(J)I -/
def nC196 : List (Option mI) := [some (.lload_n 1, 0, 0, 0, .null), some (.ldc2_w 180, 0, 0, 0, (.long 1073741824)), none, none, some (.lcmp, 0, 0, 0, .null), some (.ifCond .ge 11, 0, 0, 0, .null), none, none, some (.lload_n 1, 0, 0, 0, .null), some (.ldc2_w 294, 0, 0, 0, (.long (-1073741824))), none, none, some (.lcmp, 0, 0, 0, .null), some (.ifCond .gt 7, 0, 0, 0, .null), none, none, some (.aload_n 0, 0, 0, 0, .null), some (.invokevirtual 291, 40, 1, 0, (.retAddr 7)), none, none, some (.aload_n 0, 0, 0, 0, .null), some (.getfield 262, 7, 23, 0, .null), none, none, some (.ifCond .eq 7, 0, 0, 0, .null), none, none, some (.iconst 0, 0, 0, 0, .null), some (.goto 5, 0, 0, 0, .null), none, none, some (.lload_n 1, 0, 0, 0, .null), some (.l2i, 0, 0, 0, .null), some (.ireturn, 0, 0, 0, .null)]
/-- MixMachine$Processor.hasFieldInMemory()Z -/
def nC197 : List (Option mI) := [some (.aload_n 0, 0, 0, 0, .null), some (.getfield 65, 2, 11, 0, .null), none, none, some (.i2l, 0, 0, 0, .null), some (.invokestatic 127, 192, 1, 0, .null), none, none, some (.ifCond .eq 17, 0, 0, 0, .null), none, none, some (.aload_n 0, 0, 0, 0, .null), some (.getfield 75, 2, 13, 0, .null), none, none, some (.invokestatic 29, 76, 1, 0, .null), none, none, some (.ifCond .eq 7, 0, 0, 0, .null), none, none, some (.iconst 1, 0, 0, 0, .null), some (.goto 4, 0, 0, 0, .null), none, none, some (.iconst 0, 0, 0, 0, .null), some (.ireturn, 1, 0, 0, .null)]
/-- MixMachine$Processor.addTo(II)V -/
def nC198 : List (Option mI) := [some (.aload_n 0, 0, 0, 0, .null), some (.getfield 19, 2, 2, 0, .null), none, none, some (.iload_n 1, 0, 0, 0, .null), some (.iaload, 0, 0, 0, .null), some (.invokestatic 72, 136, 1, 0, .null), none, none, some (.i2l, 0, 0, 0, .null), some (.iload_n 2, 0, 0, 0, .null), some (.i2l, 0, 0, 0, .null), some (.ladd, 0, 0, 0, .null), some (.lstore_n 3, 11, 0, 0, .null), some (.lload_n 3, 0, 0, 0, .null), some (.lconst 0, 0, 0, 0, .null), some (.lcmp, 0, 0, 0, .null), some (.ifCond .ge 8, 0, 0, 0, .null), none, none, some (.lload_n 3, 0, 0, 0, .null), some (.lneg, 0, 0, 0, .null), some (.goto 4, 0, 0, 0, .null), none, none, some (.lload_n 3, 0, 0, 0, .null), some (.lstore 5, 11, 0, 0, .null), none, some (.iload_n 1, 0, 0, 0, .null), some (.ifCond .eq 13, 0, 0, 0, .null), none, none, some (.iload_n 1, 0, 0, 0, .null), some (.bipush 7, 0, 0, 0, .null), none, some (.if_icmp .eq 7, 0, 0, 0, .null), none, none, some (.iconst 1, 0, 0, 0, .null), some (.goto 4, 0, 0, 0, .null), none, none, some (.iconst 0, 0, 0, 0, .null), some (.istore 7, 11, 0, 0, .null), none, some (.iload 7, 0, 0, 0, .null), none, some (.ifCond .eq 9, 0, 0, 0, .null), none, none, some (.sipush 4096, 0, 0, 0, .null), none, none, some (.goto 5, 0, 0, 0, .null), none, none, some (.ldc 144, 0, 0, 0, (.int 1073741824)), none, some (.istore 8, 11, 0, 0, .null), none, some (.lload 5, 0, 0, 0, .null), none, some (.iload 8, 0, 0, 0, .null), none, some (.i2l, 0, 0, 0, .null), some (.lcmp, 0, 0, 0, .null), some (.ifCond .lt 13, 0, 0, 0, .null), none, none, some (.iload 7, 0, 0, 0, .null), none, some (.ifCond .ne 8, 0, 0, 0, .null), none, none, some (.aload_n 0, 0, 0, 0, .null), some (.iconst 1, 0, 0, 0, .null), some (.putfield 145, 2, 3, 1, .null), none, none, some (.lload 5, 0, 0, 0, .null), none, some (.iload 8, 0, 0, 0, .null), none, some (.iconst 1, 0, 0, 0, .null), some (.isub, 0, 0, 0, .null), some (.i2l, 0, 0, 0, .null), some (.land, 0, 0, 0, .null), some (.l2i, 0, 0, 0, .null), some (.istore 9, 11, 0, 0, .null), none, some (.iload 9, 0, 0, 0, .null), none, some (.ifCond .ne 15, 0, 0, 0, .null), none, none, some (.aload_n 0, 0, 0, 0, .null), some (.getfield 19, 2, 2, 0, .null), none, none, some (.iload_n 1, 0, 0, 0, .null), some (.iaload, 0, 0, 0, .null), some (.invokestatic 149, 191, 1, 0, .null), none, none, some (.goto 14, 0, 0, 0, .null), none, none, some (.lload_n 3, 0, 0, 0, .null), some (.lconst 0, 0, 0, 0, .null), some (.lcmp, 0, 0, 0, .null), some (.ifCond .ge 7, 0, 0, 0, .null), none, none, some (.iconst 1, 0, 0, 0, .null), some (.goto 4, 0, 0, 0, .null), none, none, some (.iconst 0, 0, 0, 0, .null), some (.istore 10, 11, 0, 0, .null), none, some (.aload_n 0, 0, 0, 0, .null), some (.getfield 19, 2, 2, 0, .null), none, none, some (.iload_n 1, 0, 0, 0, .null), some (.iload 9, 0, 0, 0, .null), none, some (.iload 10, 0, 0, 0, .null), none, some (.invokestatic 152, 130, 2, 0, .null), none, none, some (.iastore, 0, 0, 0, .null), some (.return_, 0, 0, 0, .null)]
/-- MixMachine$Processor.multiply(I)V -/
def nC199 : List (Option mI) := [some (.aload_n 0, 0, 0, 0, .null), some (.getfield 19, 2, 2, 0, .null), none, none, some (.iconst 0, 0, 0, 0, .null), some (.iaload, 0, 0, 0, .null), some (.iload_n 1, 0, 0, 0, .null), some (.ixor, 0, 0, 0, .null), some (.invokestatic 149, 191, 1, 0, .null), none, none, some (.istore_n 2, 5, 0, 0, .null), some (.aload_n 0, 0, 0, 0, .null), some (.getfield 19, 2, 2, 0, .null), none, none, some (.iconst 0, 0, 0, 0, .null), some (.iaload, 0, 0, 0, .null), some (.invokestatic 56, 138, 1, 0, .null), none, none, some (.i2l, 0, 0, 0, .null), some (.iload_n 1, 0, 0, 0, .null), some (.invokestatic 56, 138, 1, 0, .null), none, none, some (.i2l, 0, 0, 0, .null), some (.lmul, 0, 0, 0, .null), some (.lstore_n 3, 5, 0, 0, .null), some (.aload_n 0, 0, 0, 0, .null), some (.getfield 19, 2, 2, 0, .null), none, none, some (.iconst 0, 0, 0, 0, .null), some (.lload_n 3, 0, 0, 0, .null), some (.bipush 30, 0, 0, 0, .null), none, some (.lshr, 0, 0, 0, .null), some (.l2i, 0, 0, 0, .null), some (.iload_n 2, 0, 0, 0, .null), some (.invokestatic 152, 130, 2, 0, .null), none, none, some (.iastore, 0, 0, 0, .null), some (.aload_n 0, 0, 0, 0, .null), some (.getfield 19, 2, 2, 0, .null), none, none, some (.bipush 7, 0, 0, 0, .null), none, some (.lload_n 3, 0, 0, 0, .null), some (.ldc2_w 155, 0, 0, 0, (.long 1073741823)), none, none, some (.land, 0, 0, 0, .null), some (.l2i, 0, 0, 0, .null), some (.iload_n 2, 0, 0, 0, .null), some (.invokestatic 152, 130, 2, 0, .null), none, none, some (.iastore, 0, 0, 0, .null), some (.return_, 0, 0, 0, .null)]
/-- MixMachine$Processor.divide(I)V -/
def nC200 : List (Option mI) := [some (.aload_n 0, 0, 0, 0, .null), some (.getfield 19, 2, 2, 0, .null), none, none, some (.iconst 0, 0, 0, 0, .null), some (.iaload, 0, 0, 0, .null), some (.istore_n 2, 6, 0, 0, .null), some (.iload_n 1, 0, 0, 0, .null), some (.invokestatic 56, 138, 1, 0, .null), none, none, some (.istore_n 3, 6, 0, 0, .null), some (.iload_n 3, 0, 0, 0, .null), some (.ifCond .eq 11, 0, 0, 0, .null), none, none, some (.iload_n 3, 0, 0, 0, .null), some (.iload_n 2, 0, 0, 0, .null), some (.invokestatic 56, 138, 1, 0, .null), none, none, some (.if_icmp .gt 9, 0, 0, 0, .null), none, none, some (.aload_n 0, 0, 0, 0, .null), some (.iconst 1, 0, 0, 0, .null), some (.putfield 145, 2, 3, 1, .null), none, none, some (.return_, 0, 0, 0, .null), some (.aload_n 0, 0, 0, 0, .null), some (.invokevirtual 157, 203, 1, 0, (.retAddr 2)), none, none, some (.lstore 4, 6, 0, 0, .null), none, some (.aload_n 0, 0, 0, 0, .null), some (.getfield 19, 2, 2, 0, .null), none, none, some (.iconst 0, 0, 0, 0, .null), some (.lload 4, 0, 0, 0, .null), none, some (.iload_n 3, 0, 0, 0, .null), some (.i2l, 0, 0, 0, .null), some (.ldiv, 0, 0, 0, .null), some (.l2i, 0, 0, 0, .null), some (.iload_n 2, 0, 0, 0, .null), some (.iload_n 1, 0, 0, 0, .null), some (.ixor, 0, 0, 0, .null), some (.invokestatic 149, 191, 1, 0, .null), none, none, some (.invokestatic 152, 130, 2, 0, .null), none, none, some (.iastore, 0, 0, 0, .null), some (.aload_n 0, 0, 0, 0, .null), some (.getfield 19, 2, 2, 0, .null), none, none, some (.bipush 7, 0, 0, 0, .null), none, some (.lload 4, 0, 0, 0, .null), none, some (.iload_n 3, 0, 0, 0, .null), some (.i2l, 0, 0, 0, .null), some (.lrem, 0, 0, 0, .null), some (.l2i, 0, 0, 0, .null), some (.iload_n 2, 0, 0, 0, .null), some (.invokestatic 149, 191, 1, 0, .null), none, none, some (.invokestatic 152, 130, 2, 0, .null), none, none, some (.iastore, 0, 0, 0, .null), some (.return_, 0, 0, 0, .null)]
/-- MixMachine$Processor.toNumber()V -/
def nC201 : List (Option mI) := [some (.aload_n 0, 0, 0, 0, .null), some (.invokevirtual 157, 203, 1, 0, (.retAddr 2)), none, none, some (.lstore_n 1, 6, 0, 0, .null), some (.lconst 0, 0, 0, 0, .null), some (.lstore_n 3, 6, 0, 0, .null), some (.bipush 54, 0, 0, 0, .null), none, some (.istore 5, 6, 0, 0, .null), none, some (.iload 5, 0, 0, 0, .null), none, some (.ifCond .lt 28, 0, 0, 0, .null), none, none, some (.lload_n 3, 0, 0, 0, .null), some (.ldc2_w 170, 0, 0, 0, (.long 10)), none, none, some (.lmul, 0, 0, 0, .null), some (.lload_n 1, 0, 0, 0, .null), some (.iload 5, 0, 0, 0, .null), none, some (.lshr, 0, 0, 0, .null), some (.ldc2_w 172, 0, 0, 0, (.long 63)), none, none, some (.land, 0, 0, 0, .null), some (.ldc2_w 170, 0, 0, 0, (.long 10)), none, none, some (.lrem, 0, 0, 0, .null), some (.ladd, 0, 0, 0, .null), some (.lstore_n 3, 6, 0, 0, .null), some (.iinc 5 (-6), 6, 0, 0, .null), none, none, some (.goto (-27), 0, 0, 0, .null), none, none, some (.aload_n 0, 0, 0, 0, .null), some (.iconst 0, 0, 0, 0, .null), some (.lload_n 3, 0, 0, 0, .null), some (.ldc2_w 155, 0, 0, 0, (.long 1073741823)), none, none, some (.land, 0, 0, 0, .null), some (.l2i, 0, 0, 0, .null), some (.invokevirtual 161, 204, 3, 0, (.retAddr 2)), none, none, some (.return_, 0, 0, 0, .null)]
/-- MixMachine$Processor.toCharacters()V -/
def nC202 : List (Option mI) := [some (.aload_n 0, 0, 0, 0, .null), some (.getfield 19, 2, 2, 0, .null), none, none, some (.iconst 0, 0, 0, 0, .null), some (.iaload, 0, 0, 0, .null), some (.invokestatic 56, 138, 1, 0, .null), none, none, some (.istore_n 1, 5, 0, 0, .null), some (.lconst 0, 0, 0, 0, .null), some (.lstore_n 2, 5, 0, 0, .null), some (.iconst 0, 0, 0, 0, .null), some (.istore 4, 5, 0, 0, .null), none, some (.iload 4, 0, 0, 0, .null), none, some (.bipush 60, 0, 0, 0, .null), none, some (.if_icmp .ge 28, 0, 0, 0, .null), none, none, some (.lload_n 2, 0, 0, 0, .null), some (.bipush 30, 0, 0, 0, .null), none, some (.iload_n 1, 0, 0, 0, .null), some (.bipush 10, 0, 0, 0, .null), none, some (.irem, 0, 0, 0, .null), some (.iadd, 0, 0, 0, .null), some (.i2l, 0, 0, 0, .null), some (.iload 4, 0, 0, 0, .null), none, some (.lshl, 0, 0, 0, .null), some (.lor, 0, 0, 0, .null), some (.lstore_n 2, 5, 0, 0, .null), some (.iload_n 1, 0, 0, 0, .null), some (.bipush 10, 0, 0, 0, .null), none, some (.idiv, 0, 0, 0, .null), some (.istore_n 1, 5, 0, 0, .null), some (.iinc 4 6, 5, 0, 0, .null), none, none, some (.goto (-29), 0, 0, 0, .null), none, none, some (.aload_n 0, 0, 0, 0, .null), some (.lload_n 2, 0, 0, 0, .null), some (.invokevirtual 174, 205, 2, 0, (.retAddr 2)), none, none, some (.return_, 0, 0, 0, .null)]
/-- MixMachine$Processor.bytesOfAX()J -/
def nC203 : List (Option mI) := [some (.aload_n 0, 0, 0, 0, .null), some (.getfield 19, 2, 2, 0, .null), none, none, some (.iconst 0, 0, 0, 0, .null), some (.iaload, 0, 0, 0, .null), some (.invokestatic 56, 138, 1, 0, .null), none, none, some (.i2l, 0, 0, 0, .null), some (.bipush 30, 0, 0, 0, .null), none, some (.lshl, 0, 0, 0, .null), some (.aload_n 0, 0, 0, 0, .null), some (.getfield 19, 2, 2, 0, .null), none, none, some (.bipush 7, 0, 0, 0, .null), none, some (.iaload, 0, 0, 0, .null), some (.invokestatic 56, 138, 1, 0, .null), none, none, some (.i2l, 0, 0, 0, .null), some (.lor, 0, 0, 0, .null), some (.lreturn, 0, 0, 0, .null)]
/-- MixMachine$Processor.setMagnitude(II)V -/
def nC204 : List (Option mI) := [some (.aload_n 0, 0, 0, 0, .null), some (.getfield 19, 2, 2, 0, .null), none, none, some (.iload_n 1, 0, 0, 0, .null), some (.iload_n 2, 0, 0, 0, .null), some (.aload_n 0, 0, 0, 0, .null), some (.getfield 19, 2, 2, 0, .null), none, none, some (.iload_n 1, 0, 0, 0, .null), some (.iaload, 0, 0, 0, .null), some (.invokestatic 149, 191, 1, 0, .null), none, none, some (.invokestatic 152, 130, 2, 0, .null), none, none, some (.iastore, 0, 0, 0, .null), some (.return_, 0, 0, 0, .null)]
/-- MixMachine$Processor.setBytesOfAX(J)V -/
def nC205 : List (Option mI) := [some (.aload_n 0, 0, 0, 0, .null), some (.iconst 0, 0, 0, 0, .null), some (.lload_n 1, 0, 0, 0, .null), some (.bipush 30, 0, 0, 0, .null), none, some (.lshr, 0, 0, 0, .null), some (.l2i, 0, 0, 0, .null), some (.invokevirtual 161, 204, 3, 0, (.retAddr 2)), none, none, some (.aload_n 0, 0, 0, 0, .null), some (.bipush 7, 0, 0, 0, .null), none, some (.lload_n 1, 0, 0, 0, .null), some (.ldc2_w 155, 0, 0, 0, (.long 1073741823)), none, none, some (.land, 0, 0, 0, .null), some (.l2i, 0, 0, 0, .null), some (.invokevirtual 161, 204, 3, 0, (.retAddr 2)), none, none, some (.return_, 0, 0, 0, .null)]
/-- MixMachine.arePlaces(II)Z -/
def nC206 : List (Option mI) := [some (.iload_n 0, 0, 0, 0, .null), some (.ifCond .lt 16, 0, 0, 0, .null), none, none, some (.iload_n 0, 0, 0, 0, .null), some (.sipush 200, 0, 0, 0, .null), none, none, some (.iload_n 1, 0, 0, 0, .null), some (.isub, 0, 0, 0, .null), some (.if_icmp .gt 7, 0, 0, 0, .null), none, none, some (.iconst 1, 0, 0, 0, .null), some (.goto 4, 0, 0, 0, .null), none, none, some (.iconst 0, 0, 0, 0, .null), some (.ireturn, 1, 0, 0, .null)]
/-- MixMachine$Processor.enter(II)V -/
def nC207 : List (Option mI) := [some (.iload_n 1, 0, 0, 0, .null), some (.ifCond .eq 13, 0, 0, 0, .null), none, none, some (.iload_n 1, 0, 0, 0, .null), some (.bipush 7, 0, 0, 0, .null), none, some (.if_icmp .eq 7, 0, 0, 0, .null), none, none, some (.iconst 1, 0, 0, 0, .null), some (.goto 4, 0, 0, 0, .null), none, none, some (.iconst 0, 0, 0, 0, .null), some (.istore_n 3, 4, 0, 0, .null), some (.aload_n 0, 0, 0, 0, .null), some (.getfield 19, 2, 2, 0, .null), none, none, some (.iload_n 1, 0, 0, 0, .null), some (.iload_n 3, 0, 0, 0, .null), some (.ifCond .eq 21, 0, 0, 0, .null), none, none, some (.iload_n 2, 0, 0, 0, .null), some (.invokestatic 56, 138, 1, 0, .null), none, none, some (.sipush 4096, 0, 0, 0, .null), none, none, some (.irem, 0, 0, 0, .null), some (.iload_n 2, 0, 0, 0, .null), some (.invokestatic 149, 191, 1, 0, .null), none, none, some (.invokestatic 152, 130, 2, 0, .null), none, none, some (.goto 4, 0, 0, 0, .null), none, none, some (.iload_n 2, 0, 0, 0, .null), some (.iastore, 0, 0, 0, .null), some (.return_, 0, 0, 0, .null)]
/-- MixMachine$Units.operate(IIII)Z -/
def nC208 : List (Option mI) := [some (.iload_n 2, 0, 0, 0, .null), some (.iconst (-1), 0, 0, 0, .null), some (.if_icmp .eq 13, 0, 0, 0, .null), none, none, some (.aload_n 0, 0, 0, 0, .null), some (.iload_n 1, 0, 0, 0, .null), some (.iload_n 2, 0, 0, 0, .null), some (.iload_n 3, 0, 0, 0, .null), some (.invokevirtual 30, 224, 4, 0, (.retAddr 1)), none, none, some (.ifCond .ne 5, 0, 0, 0, .null), none, none, some (.iconst 0, 0, 0, 0, .null), some (.ireturn, 1, 0, 0, .null), some (.aload_n 0, 0, 0, 0, .null), some (.getfield 27, 1, 4, 0, .null), none, none, some (.iload_n 2, 0, 0, 0, .null), some (.iload 4, 0, 0, 0, .null), none, some (.getstatic 24, 0, 0, 0, (.ref 1)), none, none, some (.iload_n 2, 0, 0, 0, .null), some (.iaload, 0, 0, 0, .null), some (.iadd, 0, 0, 0, .null), some (.iastore, 0, 0, 0, .null), some (.iconst 1, 0, 0, 0, .null), some (.ireturn, 1, 0, 0, .null)]
/-- MixMachine$Processor.jumpIf(Z)Z -/
def nC209 : List (Option mI) := [some (.iload_n 1, 0, 0, 0, .null), some (.ifCond .ne 5, 0, 0, 0, .null), none, none, some (.iconst 1, 0, 0, 0, .null), some (.ireturn, 1, 0, 0, .null), some (.aload_n 0, 0, 0, 0, .null), some (.getfield 53, 2, 9, 0, .null), none, none, some (.istore_n 2, 3, 0, 0, .null), some (.aload_n 0, 0, 0, 0, .null), some (.invokevirtual 203, 210, 1, 0, (.retAddr 2)), none, none, some (.ifCond .ne 5, 0, 0, 0, .null), none, none, some (.iconst 0, 0, 0, 0, .null), some (.ireturn, 1, 0, 0, .null), some (.aload_n 0, 0, 0, 0, .null), some (.getfield 19, 2, 2, 0, .null), none, none, some (.bipush 8, 0, 0, 0, .null), none, some (.iload_n 2, 0, 0, 0, .null), some (.i2l, 0, 0, 0, .null), some (.invokestatic 81, 86, 1, 0, .null), none, none, some (.iastore, 0, 0, 0, .null), some (.iconst 1, 0, 0, 0, .null), some (.ireturn, 1, 0, 0, .null)]
/-- MixMachine$Processor.jumpKeepingJ()Z -/
def nC210 : List (Option mI) := [some (.aload_n 0, 0, 0, 0, .null), some (.getfield 75, 2, 13, 0, .null), none, none, some (.invokestatic 29, 76, 1, 0, .null), none, none, some (.ifCond .ne 5, 0, 0, 0, .null), none, none, some (.iconst 0, 0, 0, 0, .null), some (.ireturn, 1, 0, 0, .null), some (.aload_n 0, 0, 0, 0, .null), some (.aload_n 0, 0, 0, 0, .null), some (.getfield 75, 2, 13, 0, .null), none, none, some (.putfield 53, 2, 9, 0, .null), none, none, some (.iconst 1, 0, 0, 0, .null), some (.ireturn, 1, 0, 0, .null)]
/-- MixMachine$Processor.jumpByToggle(Z)Z -/
def nC211 : List (Option mI) := [some (.aload_n 0, 0, 0, 0, .null), some (.aload_n 0, 0, 0, 0, .null), some (.getfield 145, 2, 3, 0, .null), none, none, some (.iload_n 1, 0, 0, 0, .null), some (.if_icmp .ne 7, 0, 0, 0, .null), none, none, some (.iconst 1, 0, 0, 0, .null), some (.goto 4, 0, 0, 0, .null), none, none, some (.iconst 0, 0, 0, 0, .null), some (.invokevirtual 199, 209, 2, 0, (.retAddr 2)), none, none, some (.ifCond .ne 5, 0, 0, 0, .null), none, none, some (.iconst 0, 0, 0, 0, .null), some (.ireturn, 1, 0, 0, .null), some (.aload_n 0, 0, 0, 0, .null), some (.iconst 0, 0, 0, 0, .null), some (.putfield 145, 2, 3, 1, .null), none, none, some (.iconst 1, 0, 0, 0, .null), some (.ireturn, 1, 0, 0, .null)]
/-- MixMachine$Processor.holds(II)Z -/
def nC212 : List (Option mI) := [some (.iload_n 0, 0, 0, 0, .null), some (.tableswitch 85 0 4 #[35, 45, 55, 65, 75], 35, 0, 0, .null), none, none, none, none, none, none, none, none, none, none, none, none, none, none, none, none, none, none, none, none, none, none, none, none, none, none, none, none, none, none, none, none, none, none, some (.iload_n 1, 0, 0, 0, .null), some (.ifCond .ge 7, 0, 0, 0, .null), none, none, some (.iconst 1, 0, 0, 0, .null), some (.goto 4, 0, 0, 0, .null), none, none, some (.iconst 0, 0, 0, 0, .null), some (.ireturn, 1, 0, 0, .null), some (.iload_n 1, 0, 0, 0, .null), some (.ifCond .ne 7, 0, 0, 0, .null), none, none, some (.iconst 1, 0, 0, 0, .null), some (.goto 4, 0, 0, 0, .null), none, none, some (.iconst 0, 0, 0, 0, .null), some (.ireturn, 1, 0, 0, .null), some (.iload_n 1, 0, 0, 0, .null), some (.ifCond .le 7, 0, 0, 0, .null), none, none, some (.iconst 1, 0, 0, 0, .null), some (.goto 4, 0, 0, 0, .null), none, none, some (.iconst 0, 0, 0, 0, .null), some (.ireturn, 1, 0, 0, .null), some (.iload_n 1, 0, 0, 0, .null), some (.ifCond .lt 7, 0, 0, 0, .null), none, none, some (.iconst 1, 0, 0, 0, .null), some (.goto 4, 0, 0, 0, .null), none, none, some (.iconst 0, 0, 0, 0, .null), some (.ireturn, 1, 0, 0, .null), some (.iload_n 1, 0, 0, 0, .null), some (.ifCond .eq 7, 0, 0, 0, .null), none, none, some (.iconst 1, 0, 0, 0, .null), some (.goto 4, 0, 0, 0, .null), none, none, some (.iconst 0, 0, 0, 0, .null), some (.ireturn, 1, 0, 0, .null), some (.iload_n 1, 0, 0, 0, .null), some (.ifCond .gt 7, 0, 0, 0, .null), none, none, some (.iconst 1, 0, 0, 0, .null), some (.goto 4, 0, 0, 0, .null), none, none, some (.iconst 0, 0, 0, 0, .null), some (.ireturn, 1, 0, 0, .null)]
/-- java/lang/Integer.compare(II)I -/
def nC213 : List (Option mI) := [some (.iload_n 0, 0, 0, 0, .null), some (.iload_n 1, 0, 0, 0, .null), some (.if_icmp .ge 7, 0, 0, 0, .null), none, none, some (.iconst (-1), 0, 0, 0, .null), some (.goto 13, 0, 0, 0, .null), none, none, some (.iload_n 0, 0, 0, 0, .null), some (.iload_n 1, 0, 0, 0, .null), some (.if_icmp .ne 7, 0, 0, 0, .null), none, none, some (.iconst 0, 0, 0, 0, .null), some (.goto 4, 0, 0, 0, .null), none, none, some (.iconst 1, 0, 0, 0, .null), some (.ireturn, 0, 0, 0, .null)]
/-- MixMachineModel.mask(I)I -/
def nC214 : List (Option mI) := [some (.iconst 1, 0, 0, 0, .null), some (.bipush 6, 0, 0, 0, .null), none, some (.iload_n 0, 0, 0, 0, .null), some (.invokestatic 97, 225, 1, 0, .null), none, none, some (.imul, 0, 0, 0, .null), some (.ishl, 0, 0, 0, .null), some (.iconst 1, 0, 0, 0, .null), some (.isub, 0, 0, 0, .null), some (.ireturn, 0, 0, 0, .null)]
/-- MixMachineModel.multiply(I)V -/
def nC215 : List (Option mI) := [some (.aload_n 0, 0, 0, 0, .null), some (.getfield 13, 7, 2, 0, .null), none, none, some (.iconst 0, 0, 0, 0, .null), some (.iaload, 0, 0, 0, .null), some (.invokestatic 89, 70, 1, 0, .null), none, none, some (.i2l, 0, 0, 0, .null), some (.iload_n 1, 0, 0, 0, .null), some (.invokestatic 89, 70, 1, 0, .null), none, none, some (.i2l, 0, 0, 0, .null), some (.lmul, 0, 0, 0, .null), some (.lstore_n 2, 5, 0, 0, .null), some (.aload_n 0, 0, 0, 0, .null), some (.getfield 13, 7, 2, 0, .null), none, none, some (.iconst 0, 0, 0, 0, .null), some (.iaload, 0, 0, 0, .null), some (.invokestatic 85, 73, 1, 0, .null), none, none, some (.iload_n 1, 0, 0, 0, .null), some (.invokestatic 85, 73, 1, 0, .null), none, none, some (.if_icmp .eq 7, 0, 0, 0, .null), none, none, some (.iconst 1, 0, 0, 0, .null), some (.goto 4, 0, 0, 0, .null), none, none, some (.iconst 0, 0, 0, 0, .null), some (.istore 4, 5, 0, 0, .null), none, some (.aload_n 0, 0, 0, 0, .null), some (.getfield 13, 7, 2, 0, .null), none, none, some (.iconst 0, 0, 0, 0, .null), some (.lload_n 2, 0, 0, 0, .null), some (.bipush 30, 0, 0, 0, .null), none, some (.lshr, 0, 0, 0, .null), some (.l2i, 0, 0, 0, .null), some (.iload 4, 0, 0, 0, .null), none, some (.invokestatic 93, 146, 2, 0, .null), none, none, some (.iastore, 0, 0, 0, .null), some (.aload_n 0, 0, 0, 0, .null), some (.getfield 13, 7, 2, 0, .null), none, none, some (.bipush 7, 0, 0, 0, .null), none, some (.lload_n 2, 0, 0, 0, .null), some (.ldc2_w 160, 0, 0, 0, (.long 1073741823)), none, none, some (.land, 0, 0, 0, .null), some (.l2i, 0, 0, 0, .null), some (.iload 4, 0, 0, 0, .null), none, some (.invokestatic 93, 146, 2, 0, .null), none, none, some (.iastore, 0, 0, 0, .null), some (.return_, 0, 0, 0, .null)]
/-- MixMachineModel.divide(I)V -/
def nC216 : List (Option mI) := [some (.iload_n 1, 0, 0, 0, .null), some (.invokestatic 89, 70, 1, 0, .null), none, none, some (.istore_n 2, 6, 0, 0, .null), some (.iload_n 2, 0, 0, 0, .null), some (.aload_n 0, 0, 0, 0, .null), some (.getfield 13, 7, 2, 0, .null), none, none, some (.iconst 0, 0, 0, 0, .null), some (.iaload, 0, 0, 0, .null), some (.invokestatic 89, 70, 1, 0, .null), none, none, some (.if_icmp .gt 9, 0, 0, 0, .null), none, none, some (.aload_n 0, 0, 0, 0, .null), some (.iconst 1, 0, 0, 0, .null), some (.putfield 157, 7, 3, 1, .null), none, none, some (.return_, 0, 0, 0, .null), some (.aload_n 0, 0, 0, 0, .null), some (.getfield 13, 7, 2, 0, .null), none, none, some (.iconst 0, 0, 0, 0, .null), some (.iaload, 0, 0, 0, .null), some (.invokestatic 89, 70, 1, 0, .null), none, none, some (.i2l, 0, 0, 0, .null), some (.bipush 30, 0, 0, 0, .null), none, some (.lshl, 0, 0, 0, .null), some (.aload_n 0, 0, 0, 0, .null), some (.getfield 13, 7, 2, 0, .null), none, none, some (.bipush 7, 0, 0, 0, .null), none, some (.iaload, 0, 0, 0, .null), some (.invokestatic 89, 70, 1, 0, .null), none, none, some (.i2l, 0, 0, 0, .null), some (.lor, 0, 0, 0, .null), some (.lstore_n 3, 6, 0, 0, .null), some (.aload_n 0, 0, 0, 0, .null), some (.getfield 13, 7, 2, 0, .null), none, none, some (.iconst 0, 0, 0, 0, .null), some (.iaload, 0, 0, 0, .null), some (.invokestatic 85, 73, 1, 0, .null), none, none, some (.istore 5, 6, 0, 0, .null), none, some (.aload_n 0, 0, 0, 0, .null), some (.getfield 13, 7, 2, 0, .null), none, none, some (.iconst 0, 0, 0, 0, .null), some (.lload_n 3, 0, 0, 0, .null), some (.iload_n 2, 0, 0, 0, .null), some (.i2l, 0, 0, 0, .null), some (.ldiv, 0, 0, 0, .null), some (.l2i, 0, 0, 0, .null), some (.iload 5, 0, 0, 0, .null), none, some (.iload_n 1, 0, 0, 0, .null), some (.invokestatic 85, 73, 1, 0, .null), none, none, some (.if_icmp .eq 7, 0, 0, 0, .null), none, none, some (.iconst 1, 0, 0, 0, .null), some (.goto 4, 0, 0, 0, .null), none, none, some (.iconst 0, 0, 0, 0, .null), some (.invokestatic 93, 146, 2, 0, .null), none, none, some (.iastore, 0, 0, 0, .null), some (.aload_n 0, 0, 0, 0, .null), some (.getfield 13, 7, 2, 0, .null), none, none, some (.bipush 7, 0, 0, 0, .null), none, some (.lload_n 3, 0, 0, 0, .null), some (.iload_n 2, 0, 0, 0, .null), some (.i2l, 0, 0, 0, .null), some (.lrem, 0, 0, 0, .null), some (.l2i, 0, 0, 0, .null), some (.iload 5, 0, 0, 0, .null), none, some (.invokestatic 93, 146, 2, 0, .null), none, none, some (.iastore, 0, 0, 0, .null), some (.return_, 0, 0, 0, .null)]
/-- java/lang/String.coder()B -/
def nC217 : List (Option mI) := [some (.getstatic 38, 0, 0, 0, (.int 1)), none, none, some (.ifCond .eq 10, 0, 0, 0, .null), none, none, some (.aload_n 0, 0, 0, 0, .null), some (.getfield 15, 14, 1, 0, .null), none, none, some (.goto 4, 0, 0, 0, .null), none, none, some (.iconst 1, 0, 0, 0, .null), some (.ireturn, 3, 0, 0, .null)]
/-- java/lang/String.isLatin1()Z -/
def nC218 : List (Option mI) := [some (.getstatic 38, 0, 0, 0, (.int 1)), none, none, some (.ifCond .eq 14, 0, 0, 0, .null), none, none, some (.aload_n 0, 0, 0, 0, .null), some (.getfield 15, 14, 1, 0, .null), none, none, some (.ifCond .ne 7, 0, 0, 0, .null), none, none, some (.iconst 1, 0, 0, 0, .null), some (.goto 4, 0, 0, 0, .null), none, none, some (.iconst 0, 0, 0, 0, .null), some (.ireturn, 1, 0, 0, .null)]
/-- java/lang/StringLatin1.charAt([BI)C -/
def nC219 : List (Option mI) := [some (.iload_n 1, 0, 0, 0, .null), some (.aload_n 0, 0, 0, 0, .null), some (.arraylength, 0, 0, 0, .null), some (.invokestatic 9, 226, 2, 0, .null), none, none, some (.aload_n 0, 0, 0, 0, .null), some (.iload_n 1, 0, 0, 0, .null), some (.baload, 0, 0, 0, .null), some (.sipush 255, 0, 0, 0, .null), none, none, some (.iand, 0, 0, 0, .null), some (.i2c, 0, 0, 0, .null), some (.ireturn, 2, 0, 0, .null)]
/-- java/lang/String.indexOf(II)I -/
def nC220 : List (Option mI) := [some (.aload_n 0, 0, 0, 0, .null), some (.invokevirtual 492, 218, 1, 0, (.retAddr 14)), none, none, some (.ifCond .eq 19, 0, 0, 0, .null), none, none, some (.aload_n 0, 0, 0, 0, .null), some (.getfield 9, 14, 0, 0, .null), none, none, some (.iload_n 1, 0, 0, 0, .null), some (.iload_n 2, 0, 0, 0, .null), some (.aload_n 0, 0, 0, 0, .null), some (.invokevirtual 505, 183, 1, 0, (.retAddr 14)), none, none, some (.invokestatic 637, 227, 4, 0, .null), none, none, some (.goto 16, 0, 0, 0, .null), none, none, some (.aload_n 0, 0, 0, 0, .null), some (.getfield 9, 14, 0, 0, .null), none, none, some (.iload_n 1, 0, 0, 0, .null), some (.iload_n 2, 0, 0, 0, .null), some (.aload_n 0, 0, 0, 0, .null), some (.invokevirtual 505, 183, 1, 0, (.retAddr 14)), none, none, none, none, none, some (.ireturn, 0, 0, 0, .null)]
/-- MixMachine$Assembler.readAtom()J -/
def nC221 : List (Option mI) := [some (.aload_n 0, 0, 0, 0, .null), some (.getfield 11, 4, 0, 0, .null), none, none, some (.bipush 42, 0, 0, 0, .null), none, some (.invokevirtual 230, 127, 2, 0, (.retAddr 3)), none, none, some (.ifCond .eq 9, 0, 0, 0, .null), none, none, some (.aload_n 0, 0, 0, 0, .null), some (.getfield 67, 4, 8, 0, .null), none, none, some (.i2l, 0, 0, 0, .null), some (.lreturn, 0, 0, 0, .null), some (.aload_n 0, 0, 0, 0, .null), some (.getfield 11, 4, 0, 0, .null), none, none, some (.invokevirtual 140, 120, 1, 0, (.retAddr 3)), none, none, some (.aload_n 0, 0, 0, 0, .null), some (.getfield 11, 4, 0, 0, .null), none, none, some (.invokevirtual 143, 121, 1, 0, (.retAddr 3)), none, none, some (.istore_n 1, 3, 0, 0, .null), some (.iload_n 1, 0, 0, 0, .null), some (.iconst 1, 0, 0, 0, .null), some (.if_icmp .ne 12, 0, 0, 0, .null), none, none, some (.aload_n 0, 0, 0, 0, .null), some (.getfield 11, 4, 0, 0, .null), none, none, some (.getfield 322, 3, 9, 0, .null), none, none, some (.i2l, 0, 0, 0, .null), some (.lreturn, 0, 0, 0, .null), some (.iconst (-1), 0, 0, 0, .null), some (.istore_n 2, 3, 0, 0, .null), some (.iload_n 1, 0, 0, 0, .null), some (.iconst 4, 0, 0, 0, .null), some (.if_icmp .ne 19, 0, 0, 0, .null), none, none, some (.aload_n 0, 0, 0, 0, .null), some (.getfield 41, 4, 6, 0, .null), none, none, some (.aload_n 0, 0, 0, 0, .null), some (.getfield 11, 4, 0, 0, .null), none, none, some (.invokevirtual 153, 122, 1, 0, (.retAddr 3)), none, none, some (.iaload, 0, 0, 0, .null), some (.istore_n 2, 3, 0, 0, .null), some (.goto 23, 0, 0, 0, .null), none, none, some (.iload_n 1, 0, 0, 0, .null), some (.iconst 2, 0, 0, 0, .null), some (.if_icmp .ne 18, 0, 0, 0, .null), none, none, some (.aload_n 0, 0, 0, 0, .null), some (.getfield 20, 4, 1, 0, .null), none, none, some (.aload_n 0, 0, 0, 0, .null), some (.getfield 11, 4, 0, 0, .null), none, none, some (.getfield 164, 3, 6, 0, .null), none, none, some (.invokevirtual 290, 68, 2, 0, (.retAddr 5)), none, none, some (.istore_n 2, 3, 0, 0, .null), some (.iload_n 2, 0, 0, 0, .null), some (.iconst (-1), 0, 0, 0, .null), some (.if_icmp .ne 14, 0, 0, 0, .null), none, none, some (.new 146, 325, 150, 1, (.retAddr 1)), none, none, none, none, none, none, none, none, none, none, some (.iload_n 2, 0, 0, 0, .null), some (.invokestatic 205, 136, 1, 0, .null), none, none, some (.i2l, 0, 0, 0, .null), some (.lreturn, 0, 0, 0, .null)]
/-- MixMachine$Text.takeOperator()C -/
def nC222 : List (Option mI) := [some (.aload_n 0, 0, 0, 0, .null), some (.getfield 30, 3, 2, 0, .null), none, none, some (.aload_n 0, 0, 0, 0, .null), some (.getfield 36, 3, 5, 0, .null), none, none, some (.if_icmp .lt 6, 0, 0, 0, .null), none, none, some (.bipush 32, 0, 0, 0, .null), none, some (.ireturn, 2, 0, 0, .null), some (.aload_n 0, 0, 0, 0, .null), some (.getfield 9, 3, 0, 0, .null), none, none, some (.aload_n 0, 0, 0, 0, .null), some (.getfield 30, 3, 2, 0, .null), none, none, some (.caload, 0, 0, 0, .null), some (.istore_n 1, 2, 0, 0, .null), some (.iload_n 1, 0, 0, 0, .null), some (.bipush 43, 0, 0, 0, .null), none, some (.if_icmp .eq 30, 0, 0, 0, .null), none, none, some (.iload_n 1, 0, 0, 0, .null), some (.bipush 45, 0, 0, 0, .null), none, some (.if_icmp .eq 24, 0, 0, 0, .null), none, none, some (.iload_n 1, 0, 0, 0, .null), some (.bipush 42, 0, 0, 0, .null), none, some (.if_icmp .eq 18, 0, 0, 0, .null), none, none, some (.iload_n 1, 0, 0, 0, .null), some (.bipush 47, 0, 0, 0, .null), none, some (.if_icmp .eq 12, 0, 0, 0, .null), none, none, some (.iload_n 1, 0, 0, 0, .null), some (.bipush 58, 0, 0, 0, .null), none, some (.if_icmp .eq 6, 0, 0, 0, .null), none, none, some (.bipush 32, 0, 0, 0, .null), none, some (.ireturn, 2, 0, 0, .null), some (.aload_n 0, 0, 0, 0, .null), some (.dup, 0, 0, 0, .null), some (.getfield 30, 3, 2, 0, .null), none, none, some (.iconst 1, 0, 0, 0, .null), some (.iadd, 0, 0, 0, .null), some (.putfield 30, 3, 2, 0, .null), none, none, some (.iload_n 1, 0, 0, 0, .null), some (.ireturn, 2, 0, 0, .null)]
/-- MixMachine$Assembler.combine(JCJ)J -/
def nC223 : List (Option mI) := [some (.iload_n 2, 0, 0, 0, .null), some (.bipush 47, 0, 0, 0, .null), none, some (.if_icmp .ne 20, 0, 0, 0, .null), none, none, some (.lload_n 3, 0, 0, 0, .null), some (.lconst 0, 0, 0, 0, .null), some (.lcmp, 0, 0, 0, .null), some (.ifCond .ne 14, 0, 0, 0, .null), none, none, some (.new 146, 312, 150, 1, (.retAddr 1)), none, none, none, none, none, none, none, none, none, none, some (.iload_n 2, 0, 0, 0, .null), some (.tableswitch 72 42 47 #[56, 40, 72, 48, 72, 64], 40, 0, 0, .null), none, none, none, none, none, none, none, none, none, none, none, none, none, none, none, none, none, none, none, none, none, none, none, none, none, none, none, none, none, none, none, none, none, none, none, none, none, none, none, some (.lload_n 0, 0, 0, 0, .null), some (.lload_n 3, 0, 0, 0, .null), some (.ladd, 0, 0, 0, .null), some (.lstore 5, 7, 0, 0, .null), none, some (.goto 36, 0, 0, 0, .null), none, none, some (.lload_n 0, 0, 0, 0, .null), some (.lload_n 3, 0, 0, 0, .null), some (.lsub, 0, 0, 0, .null), some (.lstore 5, 7, 0, 0, .null), none, some (.goto 28, 0, 0, 0, .null), none, none, some (.lload_n 0, 0, 0, 0, .null), some (.lload_n 3, 0, 0, 0, .null), some (.lmul, 0, 0, 0, .null), some (.lstore 5, 7, 0, 0, .null), none, some (.goto 20, 0, 0, 0, .null), none, none, some (.lload_n 0, 0, 0, 0, .null), some (.lload_n 3, 0, 0, 0, .null), some (.ldiv, 0, 0, 0, .null), some (.lstore 5, 7, 0, 0, .null), none, some (.goto 12, 0, 0, 0, .null), none, none, some (.ldc2_w 314, 0, 0, 0, (.long 8)), none, none, some (.lload_n 0, 0, 0, 0, .null), some (.lmul, 0, 0, 0, .null), some (.lload_n 3, 0, 0, 0, .null), some (.ladd, 0, 0, 0, .null), some (.lstore 5, 7, 0, 0, .null), none, some (.lload 5, 0, 0, 0, .null), none, some (.ldc2_w 316, 0, 0, 0, (.long (-1073741824))), none, none, some (.lcmp, 0, 0, 0, .null), some (.ifCond .le 12, 0, 0, 0, .null), none, none, some (.lload 5, 0, 0, 0, .null), none, some (.ldc2_w 318, 0, 0, 0, (.long 1073741824)), none, none, some (.lcmp, 0, 0, 0, .null), some (.ifCond .lt 14, 0, 0, 0, .null), none, none, some (.new 146, 320, 150, 1, (.retAddr 1)), none, none, none, none, none, none, none, none, none, none, some (.lload 5, 0, 0, 0, .null), none, some (.lreturn, 0, 0, 0, .null)]
/-- MixMachine$Units.act(III)Z -/
def nC224 : List (Option mI) := [some (.iload_n 1, 0, 0, 0, .null), some (.bipush 35, 0, 0, 0, .null), none, some (.if_icmp .ne 10, 0, 0, 0, .null), none, none, some (.aload_n 0, 0, 0, 0, .null), some (.iload_n 2, 0, 0, 0, .null), some (.iload_n 3, 0, 0, 0, .null), some (.invokevirtual 34, 228, 3, 0, (.retAddr 1)), none, none, some (.ireturn, 1, 0, 0, .null), some (.iload_n 1, 0, 0, 0, .null), some (.bipush 36, 0, 0, 0, .null), none, some (.if_icmp .ne 7, 0, 0, 0, .null), none, none, some (.iconst 1, 0, 0, 0, .null), some (.goto 4, 0, 0, 0, .null), none, none, some (.iconst 0, 0, 0, 0, .null), some (.istore 4, 5, 0, 0, .null), none, some (.iload_n 2, 0, 0, 0, .null), some (.lookupswitch 52 #[(0, 25), (1, 33)], 25, 0, 0, .null), none, none, none, none, none, none, none, none, none, none, none, none, none, none, none, none, none, none, none, none, none, none, none, none, some (.aload_n 0, 0, 0, 0, .null), some (.iload 4, 0, 0, 0, .null), none, some (.iload_n 3, 0, 0, 0, .null), some (.invokevirtual 38, 229, 3, 0, (.retAddr 1)), none, none, some (.ireturn, 1, 0, 0, .null), some (.iload 4, 0, 0, 0, .null), none, some (.ifCond .eq 15, 0, 0, 0, .null), none, none, some (.aload_n 0, 0, 0, 0, .null), some (.iload_n 3, 0, 0, 0, .null), some (.invokevirtual 42, 230, 2, 0, (.retAddr 1)), none, none, some (.ifCond .eq 7, 0, 0, 0, .null), none, none, some (.iconst 1, 0, 0, 0, .null), some (.goto 4, 0, 0, 0, .null), none, none, some (.iconst 0, 0, 0, 0, .null), some (.ireturn, 1, 0, 0, .null), some (.iload 4, 0, 0, 0, .null), none, some (.ifCond .ne 15, 0, 0, 0, .null), none, none, some (.aload_n 0, 0, 0, 0, .null), some (.iload_n 3, 0, 0, 0, .null), some (.invokevirtual 46, 231, 2, 0, (.retAddr 1)), none, none, some (.ifCond .eq 7, 0, 0, 0, .null), none, none, some (.iconst 1, 0, 0, 0, .null), some (.goto 4, 0, 0, 0, .null), none, none, some (.iconst 0, 0, 0, 0, .null), some (.ireturn, 1, 0, 0, .null)]
/-- MixMachineModel.bytes(I)I -/
def nC225 : List (Option mI) := [some (.iload_n 0, 0, 0, 0, .null), some (.bipush 8, 0, 0, 0, .null), none, some (.irem, 0, 0, 0, .null), some (.iload_n 0, 0, 0, 0, .null), some (.bipush 8, 0, 0, 0, .null), none, some (.idiv, 0, 0, 0, .null), some (.iconst 1, 0, 0, 0, .null), some (.if_icmp .le 10, 0, 0, 0, .null), none, none, some (.iload_n 0, 0, 0, 0, .null), some (.bipush 8, 0, 0, 0, .null), none, some (.idiv, 0, 0, 0, .null), some (.goto 4, 0, 0, 0, .null), none, none, some (.iconst 1, 0, 0, 0, .null), some (.isub, 0, 0, 0, .null), some (.iconst 1, 0, 0, 0, .null), some (.iadd, 0, 0, 0, .null), some (.ireturn, 0, 0, 0, .null)]
/-- java/lang/String.checkIndex(II)V -/
def nC226 : List (Option mI) := [some (.iload_n 0, 0, 0, 0, .null), some (.iload_n 1, 0, 0, 0, .null), none, none, none, some (.invokestatic 1059, 232, 3, 0, .null), none, none, some (.pop, 0, 0, 0, .null), some (.return_, 0, 0, 0, .null)]
/-- java/lang/StringLatin1.indexOf([BIII)I -/
def nC227 : List (Option mI) := [some (.iload_n 1, 0, 0, 0, .null), some (.invokestatic 88, 233, 1, 0, .null), none, none, some (.ifCond .ne 5, 0, 0, 0, .null), none, none, some (.iconst (-1), 0, 0, 0, .null), some (.ireturn, 0, 0, 0, .null), some (.iload_n 2, 0, 0, 0, .null), some (.iconst 0, 0, 0, 0, .null), some (.invokestatic 92, 0, 0, 3, .null), none, none, some (.istore_n 2, 4, 0, 0, .null), some (.iload_n 3, 0, 0, 0, .null), some (.aload_n 0, 0, 0, 0, .null), some (.arraylength, 0, 0, 0, .null), some (.invokestatic 38, 0, 0, 2, .null), none, none, some (.istore_n 3, 4, 0, 0, .null), some (.iload_n 2, 0, 0, 0, .null), some (.iload_n 3, 0, 0, 0, .null), some (.if_icmp .lt 5, 0, 0, 0, .null), none, none, some (.iconst (-1), 0, 0, 0, .null), some (.ireturn, 0, 0, 0, .null), some (.aload_n 0, 0, 0, 0, .null), some (.iload_n 1, 0, 0, 0, .null), some (.iload_n 2, 0, 0, 0, .null), some (.iload_n 3, 0, 0, 0, .null), some (.invokestatic 95, 234, 4, 0, .null), none, none, some (.ireturn, 0, 0, 0, .null)]
/-- MixMachine$Units.control(II)Z -/
def nC228 : List (Option mI) := [some (.iload_n 1, 0, 0, 0, .null), some (.ifCond .ne 30, 0, 0, 0, .null), none, none, some (.aload_n 0, 0, 0, 0, .null), some (.iload_n 2, 0, 0, 0, .null), some (.ifCond .ne 7, 0, 0, 0, .null), none, none, some (.iconst 0, 0, 0, 0, .null), some (.goto 18, 0, 0, 0, .null), none, none, some (.iconst 0, 0, 0, 0, .null), some (.bipush 6, 0, 0, 0, .null), none, some (.aload_n 0, 0, 0, 0, .null), some (.getfield 49, 1, 5, 0, .null), none, none, some (.iload_n 2, 0, 0, 0, .null), some (.iadd, 0, 0, 0, .null), some (.invokestatic 53, 0, 0, 2, .null), none, none, some (.invokestatic 59, 0, 0, 3, .null), none, none, some (.putfield 49, 1, 5, 0, .null), none, none, some (.iload_n 1, 0, 0, 0, .null), some (.iconst 1, 0, 0, 0, .null), some (.if_icmp .eq 7, 0, 0, 0, .null), none, none, some (.iconst 1, 0, 0, 0, .null), some (.goto 4, 0, 0, 0, .null), none, none, some (.iconst 0, 0, 0, 0, .null), some (.ireturn, 1, 0, 0, .null)]
/-- MixMachine$Units.passBlock(ZI)Z -/
def nC229 : List (Option mI) := [some (.aload_n 0, 0, 0, 0, .null), some (.getfield 49, 1, 5, 0, .null), none, none, some (.bipush 6, 0, 0, 0, .null), none, some (.if_icmp .ge 12, 0, 0, 0, .null), none, none, some (.iload_n 2, 0, 0, 0, .null), some (.bipush 10, 0, 0, 0, .null), none, some (.invokestatic 62, 206, 2, 0, .null), none, none, some (.ifCond .ne 5, 0, 0, 0, .null), none, none, some (.iconst 0, 0, 0, 0, .null), some (.ireturn, 1, 0, 0, .null), some (.aload_n 0, 0, 0, 0, .null), some (.getfield 49, 1, 5, 0, .null), none, none, some (.bipush 10, 0, 0, 0, .null), none, some (.imul, 0, 0, 0, .null), some (.istore_n 3, 4, 0, 0, .null), some (.iload_n 1, 0, 0, 0, .null), some (.ifCond .eq 21, 0, 0, 0, .null), none, none, some (.aload_n 0, 0, 0, 0, .null), some (.getfield 15, 1, 1, 0, .null), none, none, some (.iload_n 3, 0, 0, 0, .null), some (.aload_n 0, 0, 0, 0, .null), some (.getfield 9, 1, 0, 0, .null), none, none, some (.iload_n 2, 0, 0, 0, .null), some (.bipush 10, 0, 0, 0, .null), none, some (.invokestatic 65, 0, 0, 4, .null), none, none, some (.goto 18, 0, 0, 0, .null), none, none, some (.aload_n 0, 0, 0, 0, .null), some (.getfield 9, 1, 0, 0, .null), none, none, some (.iload_n 2, 0, 0, 0, .null), some (.aload_n 0, 0, 0, 0, .null), some (.getfield 15, 1, 1, 0, .null), none, none, some (.iload_n 3, 0, 0, 0, .null), some (.bipush 10, 0, 0, 0, .null), none, some (.invokestatic 65, 0, 0, 4, .null), none, none, some (.aload_n 0, 0, 0, 0, .null), some (.dup, 0, 0, 0, .null), some (.getfield 49, 1, 5, 0, .null), none, none, some (.iconst 1, 0, 0, 0, .null), some (.iadd, 0, 0, 0, .null), some (.putfield 49, 1, 5, 0, .null), none, none, some (.iconst 1, 0, 0, 0, .null), some (.ireturn, 1, 0, 0, .null)]
/-- MixMachine$Units.readCard(I)Z -/
def nC230 : List (Option mI) := [some (.aload_n 0, 0, 0, 0, .null), some (.getfield 71, 1, 7, 0, .null), none, none, some (.ifCond .eq 11, 0, 0, 0, .null), none, none, some (.iload_n 1, 0, 0, 0, .null), some (.iconst 4, 0, 0, 0, .null), some (.invokestatic 62, 206, 2, 0, .null), none, none, some (.ifCond .ne 5, 0, 0, 0, .null), none, none, some (.iconst 0, 0, 0, 0, .null), some (.ireturn, 1, 0, 0, .null), some (.aload_n 0, 0, 0, 0, .null), some (.getfield 18, 1, 2, 0, .null), none, none, some (.aload_n 0, 0, 0, 0, .null), some (.getfield 74, 1, 6, 0, .null), none, none, some (.iconst 4, 0, 0, 0, .null), some (.imul, 0, 0, 0, .null), some (.aload_n 0, 0, 0, 0, .null), some (.getfield 9, 1, 0, 0, .null), none, none, some (.iload_n 1, 0, 0, 0, .null), some (.iconst 4, 0, 0, 0, .null), some (.invokestatic 65, 0, 0, 4, .null), none, none, some (.aload_n 0, 0, 0, 0, .null), some (.aload_n 0, 0, 0, 0, .null), some (.getfield 74, 1, 6, 0, .null), none, none, some (.iconst 1, 0, 0, 0, .null), some (.iadd, 0, 0, 0, .null), some (.bipush 6, 0, 0, 0, .null), none, some (.irem, 0, 0, 0, .null), some (.putfield 74, 1, 6, 0, .null), none, none, some (.aload_n 0, 0, 0, 0, .null), some (.dup, 0, 0, 0, .null), some (.getfield 71, 1, 7, 0, .null), none, none, some (.iconst 1, 0, 0, 0, .null), some (.isub, 0, 0, 0, .null), some (.putfield 71, 1, 7, 0, .null), none, none, some (.iconst 1, 0, 0, 0, .null), some (.ireturn, 1, 0, 0, .null)]
/-- MixMachine$Units.printLine(I)Z -/
def nC231 : List (Option mI) := [some (.iload_n 1, 0, 0, 0, .null), some (.bipush 6, 0, 0, 0, .null), none, some (.invokestatic 62, 206, 2, 0, .null), none, none, some (.ifCond .ne 5, 0, 0, 0, .null), none, none, some (.iconst 0, 0, 0, 0, .null), some (.ireturn, 1, 0, 0, .null), some (.aload_n 0, 0, 0, 0, .null), some (.getfield 9, 1, 0, 0, .null), none, none, some (.iload_n 1, 0, 0, 0, .null), some (.aload_n 0, 0, 0, 0, .null), some (.getfield 21, 1, 3, 0, .null), none, none, some (.aload_n 0, 0, 0, 0, .null), some (.getfield 77, 1, 8, 0, .null), none, none, some (.bipush 8, 0, 0, 0, .null), none, some (.irem, 0, 0, 0, .null), some (.bipush 6, 0, 0, 0, .null), none, some (.imul, 0, 0, 0, .null), some (.bipush 6, 0, 0, 0, .null), none, some (.invokestatic 65, 0, 0, 4, .null), none, none, some (.aload_n 0, 0, 0, 0, .null), some (.dup, 0, 0, 0, .null), some (.getfield 77, 1, 8, 0, .null), none, none, some (.iconst 1, 0, 0, 0, .null), some (.iadd, 0, 0, 0, .null), some (.putfield 77, 1, 8, 0, .null), none, none, some (.iconst 1, 0, 0, 0, .null), some (.ireturn, 1, 0, 0, .null)]
/-- jdk/internal/util/Preconditions.checkIndex(IILjava/util/function/BiFunction;)I -/
def nC232 : List (Option mI) := [some (.iload_n 0, 0, 0, 0, .null), some (.ifCond .lt 8, 0, 0, 0, .null), none, none, some (.iload_n 0, 0, 0, 0, .null), some (.iload_n 1, 0, 0, 0, .null), some (.if_icmp .lt 10, 0, 0, 0, .null), none, none, some (.aload_n 2, 0, 0, 0, .null), some (.iload_n 0, 0, 0, 0, .null), some (.iload_n 1, 0, 0, 0, .null), none, none, none, none, some (.iload_n 0, 0, 0, 0, .null), some (.ireturn, 0, 0, 0, .null)]
/-- java/lang/StringLatin1.canEncode(I)Z -/
def nC233 : List (Option mI) := [some (.iload_n 0, 0, 0, 0, .null), some (.ifCond .lt 14, 0, 0, 0, .null), none, none, some (.iload_n 0, 0, 0, 0, .null), some (.sipush 255, 0, 0, 0, .null), none, none, some (.if_icmp .gt 7, 0, 0, 0, .null), none, none, some (.iconst 1, 0, 0, 0, .null), some (.goto 4, 0, 0, 0, .null), none, none, some (.iconst 0, 0, 0, 0, .null), some (.ireturn, 1, 0, 0, .null)]
/-- java/lang/StringLatin1.indexOfChar([BIII)I -/
def nC234 : List (Option mI) := [some (.iload_n 1, 0, 0, 0, .null), some (.i2b, 0, 0, 0, .null), some (.istore 4, 6, 0, 0, .null), none, some (.iload_n 2, 0, 0, 0, .null), some (.istore 5, 6, 0, 0, .null), none, some (.iload 5, 0, 0, 0, .null), none, some (.iload_n 3, 0, 0, 0, .null), some (.if_icmp .ge 21, 0, 0, 0, .null), none, none, some (.aload_n 0, 0, 0, 0, .null), some (.iload 5, 0, 0, 0, .null), none, some (.baload, 0, 0, 0, .null), some (.iload 4, 0, 0, 0, .null), none, some (.if_icmp .ne 6, 0, 0, 0, .null), none, none, some (.iload 5, 0, 0, 0, .null), none, some (.ireturn, 0, 0, 0, .null), some (.iinc 5 1, 6, 0, 0, .null), none, none, some (.goto (-21), 0, 0, 0, .null), none, none, some (.iconst (-1), 0, 0, 0, .null), some (.ireturn, 0, 0, 0, .null)]
def nCods : Nat → List (Option mI) := fun i => match i with
  | 0 => nC0
  | 1 => nC1
  | 2 => nC2
  | 3 => nC3
  | 4 => nC4
  | 5 => nC5
  | 6 => nC6
  | 7 => nC7
  | 8 => nC8
  | 9 => nC9
  | 10 => nC10
  | 11 => nC11
  | 12 => nC12
  | 13 => nC13
  | 14 => nC14
  | 15 => nC15
  | 16 => nC16
  | 17 => nC17
  | 18 => nC18
  | 19 => nC19
  | 20 => nC20
  | 21 => nC21
  | 22 => nC22
  | 23 => nC23
  | 24 => nC24
  | 25 => nC25
  | 26 => nC26
  | 27 => nC27
  | 28 => nC28
  | 29 => nC29
  | 30 => nC30
  | 31 => nC31
  | 32 => nC32
  | 33 => nC33
  | 34 => nC34
  | 35 => nC35
  | 36 => nC36
  | 37 => nC37
  | 38 => nC38
  | 39 => nC39
  | 40 => nC40
  | 41 => nC41
  | 42 => nC42
  | 43 => nC43
  | 44 => nC44
  | 45 => nC45
  | 46 => nC46
  | 47 => nC47
  | 48 => nC48
  | 49 => nC49
  | 50 => nC50
  | 51 => nC51
  | 52 => nC52
  | 53 => nC53
  | 54 => nC54
  | 55 => nC55
  | 56 => nC56
  | 57 => nC57
  | 58 => nC58
  | 59 => nC59
  | 60 => nC60
  | 61 => nC61
  | 62 => nC62
  | 63 => nC63
  | 64 => nC64
  | 65 => nC65
  | 66 => nC66
  | 67 => nC67
  | 68 => nC68
  | 69 => nC69
  | 70 => nC70
  | 71 => nC71
  | 72 => nC72
  | 73 => nC73
  | 74 => nC74
  | 75 => nC75
  | 76 => nC76
  | 77 => nC77
  | 78 => nC78
  | 79 => nC79
  | 80 => nC80
  | 81 => nC81
  | 82 => nC82
  | 83 => nC83
  | 84 => nC84
  | 85 => nC85
  | 86 => nC86
  | 87 => nC87
  | 88 => nC88
  | 89 => nC89
  | 90 => nC90
  | 91 => nC91
  | 92 => nC92
  | 93 => nC93
  | 94 => nC94
  | 95 => nC95
  | 96 => nC96
  | 97 => nC97
  | 98 => nC98
  | 99 => nC99
  | 100 => nC100
  | 101 => nC101
  | 102 => nC102
  | 103 => nC103
  | 104 => nC104
  | 105 => nC105
  | 106 => nC106
  | 107 => nC107
  | 108 => nC108
  | 109 => nC109
  | 110 => nC110
  | 111 => nC111
  | 112 => nC112
  | 113 => nC113
  | 114 => nC114
  | 115 => nC115
  | 116 => nC116
  | 117 => nC117
  | 118 => nC118
  | 119 => nC119
  | 120 => nC120
  | 121 => nC121
  | 122 => nC122
  | 123 => nC123
  | 124 => nC124
  | 125 => nC125
  | 126 => nC126
  | 127 => nC127
  | 128 => nC128
  | 129 => nC129
  | 130 => nC130
  | 131 => nC131
  | 132 => nC132
  | 133 => nC133
  | 134 => nC134
  | 135 => nC135
  | 136 => nC136
  | 137 => nC137
  | 138 => nC138
  | 139 => nC139
  | 140 => nC140
  | 141 => nC141
  | 142 => nC142
  | 143 => nC143
  | 144 => nC144
  | 145 => nC145
  | 146 => nC146
  | 147 => nC147
  | 148 => nC148
  | 149 => nC149
  | 150 => nC150
  | 151 => nC151
  | 152 => nC152
  | 153 => nC153
  | 154 => nC154
  | 155 => nC155
  | 156 => nC156
  | 157 => nC157
  | 158 => nC158
  | 159 => nC159
  | 160 => nC160
  | 161 => nC161
  | 162 => nC162
  | 163 => nC163
  | 164 => nC164
  | 165 => nC165
  | 166 => nC166
  | 167 => nC167
  | 168 => nC168
  | 169 => nC169
  | 170 => nC170
  | 171 => nC171
  | 172 => nC172
  | 173 => nC173
  | 174 => nC174
  | 175 => nC175
  | 176 => nC176
  | 177 => nC177
  | 178 => nC178
  | 179 => nC179
  | 180 => nC180
  | 181 => nC181
  | 182 => nC182
  | 183 => nC183
  | 184 => nC184
  | 185 => nC185
  | 186 => nC186
  | 187 => nC187
  | 188 => nC188
  | 189 => nC189
  | 190 => nC190
  | 191 => nC191
  | 192 => nC192
  | 193 => nC193
  | 194 => nC194
  | 195 => nC195
  | 196 => nC196
  | 197 => nC197
  | 198 => nC198
  | 199 => nC199
  | 200 => nC200
  | 201 => nC201
  | 202 => nC202
  | 203 => nC203
  | 204 => nC204
  | 205 => nC205
  | 206 => nC206
  | 207 => nC207
  | 208 => nC208
  | 209 => nC209
  | 210 => nC210
  | 211 => nC211
  | 212 => nC212
  | 213 => nC213
  | 214 => nC214
  | 215 => nC215
  | 216 => nC216
  | 217 => nC217
  | 218 => nC218
  | 219 => nC219
  | 220 => nC220
  | 221 => nC221
  | 222 => nC222
  | 223 => nC223
  | 224 => nC224
  | 225 => nC225
  | 226 => nC226
  | 227 => nC227
  | 228 => nC228
  | 229 => nC229
  | 230 => nC230
  | 231 => nC231
  | 232 => nC232
  | 233 => nC233
  | 234 => nC234
  | _ => []
end
section
/-! THE TABLES HOLD -/
def nTb : List Cond := Jvm.Cond.code x code maxLocals ret :: lw_tbl
/-- the tables in pieces: a word by its place -/
def nCk : Nat → List Cond := fun k => match k with
  | 1 => tables_1_1
  | 2 => tables_1_2
  | 3 => tables_1_3
  | 4 => tables_1_4
  | 5 => tables_1_5
  | 6 => tables_1_6
  | 7 => tables_1_7
  | 8 => tables_1_8
  | 9 => [Jvm.Cond.code x code maxLocals ret]
  | 11 => k2_sels lw_privs_1
  | 12 => k2_sels lw_privs_2
  | 13 => k2_sels lw_privs_3
  | 14 => k2_sels lw_privs_4
  | 15 => k2_sels lw_privs_5
  | 16 => k2_sels lw_privs_6
  | 17 => k2_sels lw_privs_7
  | _ => []
theorem nCk_sub (k : Nat) {w : Cond} (h : w ∈ nCk k) : w ∈ nTb := by
  unfold nCk at h
  split at h
  · simp only [nTb, lw_tbl, tables_1, List.mem_cons, List.mem_append, h, true_or, or_true]
  · simp only [nTb, lw_tbl, tables_1, List.mem_cons, List.mem_append, h, true_or, or_true]
  · simp only [nTb, lw_tbl, tables_1, List.mem_cons, List.mem_append, h, true_or, or_true]
  · simp only [nTb, lw_tbl, tables_1, List.mem_cons, List.mem_append, h, true_or, or_true]
  · simp only [nTb, lw_tbl, tables_1, List.mem_cons, List.mem_append, h, true_or, or_true]
  · simp only [nTb, lw_tbl, tables_1, List.mem_cons, List.mem_append, h, true_or, or_true]
  · simp only [nTb, lw_tbl, tables_1, List.mem_cons, List.mem_append, h, true_or, or_true]
  · simp only [nTb, lw_tbl, tables_1, List.mem_cons, List.mem_append, h, true_or, or_true]
  · rw [List.mem_singleton] at h
    rw [h]
    exact List.mem_cons_self
  · unfold k2_sels at h
    simp only [nTb, lw_tbl, lw_privs, k2_sels, List.map_append, List.mem_cons, List.mem_append, h, true_or, or_true]
  · unfold k2_sels at h
    simp only [nTb, lw_tbl, lw_privs, k2_sels, List.map_append, List.mem_cons, List.mem_append, h, true_or, or_true]
  · unfold k2_sels at h
    simp only [nTb, lw_tbl, lw_privs, k2_sels, List.map_append, List.mem_cons, List.mem_append, h, true_or, or_true]
  · unfold k2_sels at h
    simp only [nTb, lw_tbl, lw_privs, k2_sels, List.map_append, List.mem_cons, List.mem_append, h, true_or, or_true]
  · unfold k2_sels at h
    simp only [nTb, lw_tbl, lw_privs, k2_sels, List.map_append, List.mem_cons, List.mem_append, h, true_or, or_true]
  · unfold k2_sels at h
    simp only [nTb, lw_tbl, lw_privs, k2_sels, List.map_append, List.mem_cons, List.mem_append, h, true_or, or_true]
  · unfold k2_sels at h
    simp only [nTb, lw_tbl, lw_privs, k2_sels, List.map_append, List.mem_cons, List.mem_append, h, true_or, or_true]
  · cases h
def nS (hs : List (Nat × Nat)) (w : Cond) : Bool := mGw w && hs.any (fun q => match (nCk q.1)[q.2]? with
  | some v => kPre v w && decide (v = w)
  | none => false)
theorem nS_ok (hs : List (Nat × Nat)) : ∀ w, nS hs w = true → w ∈ mTs' nTb := by
  intro w h
  unfold nS at h
  rw [Bool.and_eq_true] at h
  obtain ⟨q, -, h2⟩ := List.any_eq_true.mp h.2
  split at h2
  · rename_i v hv
    rw [Bool.and_eq_true, decide_eq_true_eq] at h2
    rw [← h2.2]
    exact List.mem_filter.mpr ⟨nCk_sub q.1 (List.mem_of_getElem? hv), by rw [h2.2]; exact h.1⟩
  · cases h2
end
section
/-! CLASSES AND EXCEPTIONS HOLD -/
def nXk : Nat → Nat × ByteArray := fun x => match x with
  | 3 => (13, ⟨#[0x2a, 0x2b, 0xb7, 0x00, 0x0d, 0xb1]⟩)
  | _ => (7, ⟨#[0x2a, 0x2b, 0xb7, 0x00, 0x07, 0xb1]⟩)
set_option maxRecDepth 100000 in
theorem nCl_ok : nCl.all (kCl (kM nTb)) = true := by decide +kernel
set_option maxRecDepth 100000 in
theorem nO0 : kOwn (kM nTb) (nEX 0) (nXk 0) = true := by decide +kernel
set_option maxRecDepth 100000 in
theorem nO1 : kOwn (kM nTb) (nEX 1) (nXk 1) = true := by decide +kernel
set_option maxRecDepth 100000 in
theorem nO2 : kOwn (kM nTb) (nEX 2) (nXk 2) = true := by decide +kernel
set_option maxRecDepth 100000 in
theorem nO3 : kOwn (kM nTb) (nEX 3) (nXk 3) = true := by decide +kernel
end
section
/-! THE METHODS HOLD -/
theorem kL_two {f : Nat → mI → Bool} : ∀ {a b : List (Option mI)} {pc q : Nat}, kL f pc a = true → kL f q b = true → (hq : q = pc + a.length := by decide +kernel) → kL f pc (a ++ b) = true
  | [], b, pc, q, _, h2, hq => by subst hq; exact h2
  | none :: a, b, pc, q, h1, h2, hq => kL_two (a := a) (pc := pc + 1) h1 h2 (by rw [hq, List.length_cons]; omega)
  | some x :: a, b, pc, q, h1, h2, hq => by
    unfold kL at h1
    rw [Bool.and_eq_true] at h1
    show (f pc x && kL f (pc + 1) (a ++ b)) = true
    rw [h1.1, Bool.true_and]
    exact kL_two (a := a) h1.2 h2 (by rw [hq, List.length_cons]; omega)
def nH0 : List (Nat × Nat) := [(1, 28), (1, 30), (5, 129), (5, 131), (1, 76), (1, 179), (1, 204), (2, 155), (6, 31), (7, 181), (2, 71), (6, 187), (2, 63), (6, 192), (2, 176), (6, 196), (2, 67), (7, 145), (4, 70), (7, 149), (4, 95), (6, 32), (5, 37), (6, 183), (5, 46), (7, 153), (5, 70), (7, 157), (5, 77), (7, 161), (5, 85), (7, 165), (5, 97), (7, 169), (5, 113), (7, 173), (5, 121), (7, 177), (2, 64), (2, 65), (2, 66), (2, 72), (2, 73), (4, 71), (4, 72), (1, 31), (1, 32), (6, 33), (6, 34), (6, 35), (5, 38), (5, 39), (7, 178), (7, 179), (7, 180), (7, 158), (7, 159), (7, 160), (7, 170), (7, 171), (7, 172), (7, 162), (7, 163), (7, 164), (6, 184), (6, 185), (6, 186), (5, 122), (5, 123), (7, 174), (7, 175), (7, 176), (7, 154), (7, 155), (7, 156), (6, 197), (6, 198), (6, 199), (4, 96), (4, 97), (5, 98), (5, 99), (7, 146), (7, 147), (7, 148), (7, 166), (7, 167), (7, 168), (5, 86), (5, 87), (5, 78), (5, 79), (2, 177), (2, 178), (6, 188), (6, 189), (6, 190), (2, 68), (2, 69), (2, 70), (7, 150), (7, 151), (7, 152), (5, 114), (5, 115), (5, 132), (5, 133), (5, 71), (5, 72), (5, 47), (5, 48), (6, 193), (6, 194), (6, 195), (1, 1), (1, 29), (1, 0), (1, 10), (5, 130), (9, 0)]
set_option maxRecDepth 100000 in
theorem nV0_0 : kL (kE (nS nH0) nCl nZ0 nDflt nStrs nEX nHn nMt 0) 0 nC0_0 = true := by decide +kernel
set_option maxRecDepth 100000 in
theorem nV0_1 : kL (kE (nS nH0) nCl nZ0 nDflt nStrs nEX nHn nMt 0) 200 nC0_1 = true := by decide +kernel
set_option maxRecDepth 100000 in
theorem nV0_2 : kL (kE (nS nH0) nCl nZ0 nDflt nStrs nEX nHn nMt 0) 400 nC0_2 = true := by decide +kernel
set_option maxRecDepth 100000 in
theorem nV0_3 : kL (kE (nS nH0) nCl nZ0 nDflt nStrs nEX nHn nMt 0) 600 nC0_3 = true := by decide +kernel
set_option maxRecDepth 100000 in
theorem nV0_L : kL (kE (nS nH0) nCl nZ0 nDflt nStrs nEX nHn nMt 0) 0 (nCods 0) = true := by
  show kL (kE (nS nH0) nCl nZ0 nDflt nStrs nEX nHn nMt 0) 0 (nC0_0 ++ (nC0_1 ++ (nC0_2 ++ (nC0_3)))) = true
  exact kL_two nV0_0 (kL_two nV0_1 (kL_two nV0_2 (nV0_3)))
set_option maxRecDepth 100000 in
theorem nV0 : kVM (nS nH0) nCl nZ0 nDflt nStrs nNcs nEX nCt nCods nHn nMt 0 = true := by
  have hw : nS nH0 (mCW (nMt 0).1 (nMt 0).2.1 (nMt 0).2.2.1 (nMt 0).2.2.2 ((nHn 0).map (fun q => (q.1, q.2.1, q.2.2.1, nCt q.2.2.2)))) = true := by
    have hg : mGw (mCW (nMt 0).1 (nMt 0).2.1 (nMt 0).2.2.1 (nMt 0).2.2.2 ((nHn 0).map (fun q => (q.1, q.2.1, q.2.2.1, nCt q.2.2.2)))) = true := rfl
    unfold nS
    rw [hg, Bool.true_and]
    refine List.any_eq_true.mpr ⟨(9, 0), by decide, ?_⟩
    show (kPre (Jvm.Cond.code x code maxLocals ret) _ && decide (Jvm.Cond.code x code maxLocals ret = _)) = true
    rw [Bool.and_eq_true]
    exact ⟨by decide +kernel, decide_eq_true rfl⟩
  unfold kVM
  rw [nV0_L, Bool.true_and, hw]
  decide +kernel
end
section
/-! THE METHODS HOLD -/
def nH1 : List (Nat × Nat) := [(1, 33), (1, 76), (1, 179), (1, 204), (2, 155), (6, 31), (2, 47), (1, 36), (1, 38), (2, 48), (1, 77), (1, 79), (2, 49), (1, 136), (1, 138), (2, 50), (1, 180), (1, 182), (2, 51), (1, 39), (1, 40), (1, 34), (1, 35), (1, 31), (1, 32), (1, 139), (1, 140), (1, 183), (1, 184), (1, 80), (1, 81), (1, 2), (1, 37), (1, 4), (1, 137), (1, 3), (1, 78), (1, 1), (1, 29), (1, 5), (1, 181), (1, 21)]
set_option maxRecDepth 100000 in
theorem nV1 : kVM (nS nH1) nCl nZ0 nDflt nStrs nNcs nEX nCt nCods nHn nMt 1 = true := by decide +kernel
def nH2 : List (Nat × Nat) := [(5, 134), (1, 76), (1, 179), (1, 204), (2, 155), (6, 31), (5, 136), (5, 137), (5, 145), (5, 146), (5, 149), (5, 151), (5, 152), (5, 154), (5, 155), (5, 162), (5, 163), (5, 165), (5, 166), (5, 167), (5, 169), (5, 170), (5, 171), (5, 173), (5, 174), (5, 175), (5, 176), (5, 178), (5, 179), (1, 34), (1, 35), (5, 132), (5, 133), (1, 10), (5, 130), (1, 21)]
set_option maxRecDepth 100000 in
theorem nV2 : kVM (nS nH2) nCl nZ0 nDflt nStrs nNcs nEX nCt nCods nHn nMt 2 = true := by decide +kernel
def nH3 : List (Nat × Nat) := [(2, 76), (2, 89), (2, 158), (4, 81), (5, 56), (2, 74), (2, 75), (2, 72), (2, 73), (2, 77), (2, 78), (2, 79), (1, 0)]
set_option maxRecDepth 100000 in
theorem nV3 : kVM (nS nH3) nCl nZ0 nDflt nStrs nNcs nEX nCt nCods nHn nMt 3 = true := by decide +kernel
def nH4 : List (Nat × Nat) := [(5, 135), (6, 36), (6, 39), (6, 191), (5, 153), (5, 154), (6, 40), (6, 41), (6, 42), (14, 5), (6, 188), (6, 189), (6, 190), (6, 37), (6, 38), (1, 10), (5, 130)]
set_option maxRecDepth 100000 in
theorem nV4 : kVM (nS nH4) nCl nZ0 nDflt nStrs nNcs nEX nCt nCods nHn nMt 4 = true := by decide +kernel
def nH5 : List (Nat × Nat) := [(2, 50), (1, 143), (2, 64), (2, 65), (2, 66), (1, 1), (1, 29)]
set_option maxRecDepth 100000 in
theorem nV5 : kVM (nS nH5) nCl nZ0 nDflt nStrs nNcs nEX nCt nCods nHn nMt 5 = true := by decide +kernel
def nH6 : List (Nat × Nat) := [(5, 135), (5, 153), (6, 193), (6, 194), (6, 195), (1, 10), (5, 130)]
set_option maxRecDepth 100000 in
theorem nV6 : kVM (nS nH6) nCl nZ0 nDflt nStrs nNcs nEX nCt nCods nHn nMt 6 = true := by decide +kernel
def nH7 : List (Nat × Nat) := [(2, 179), (2, 89), (2, 158), (4, 81), (5, 56), (2, 74), (2, 180), (2, 181), (2, 182), (2, 177), (2, 178), (1, 0)]
set_option maxRecDepth 100000 in
theorem nV7 : kVM (nS nH7) nCl nZ0 nDflt nStrs nNcs nEX nCt nCods nHn nMt 7 = true := by decide +kernel
def nH8 : List (Nat × Nat) := [(5, 135), (6, 200), (5, 158), (5, 161), (5, 153), (5, 154), (6, 204), (6, 208), (5, 155), (6, 39), (5, 163), (5, 136), (5, 162), (5, 164), (5, 177), (5, 178), (5, 165), (5, 179), (5, 167), (5, 160), (5, 141), (5, 145), (6, 209), (6, 210), (6, 211), (16, 1), (6, 205), (6, 206), (6, 207), (16, 0), (6, 197), (6, 198), (6, 199), (6, 40), (6, 41), (6, 42), (14, 5), (6, 201), (6, 202), (6, 203), (15, 15), (1, 10), (5, 130)]
set_option maxRecDepth 100000 in
theorem nV8 : kVM (nS nH8) nCl nZ0 nDflt nStrs nNcs nEX nCt nCods nHn nMt 8 = true := by decide +kernel
def nH9 : List (Nat × Nat) := [(2, 51), (2, 3), (2, 68), (2, 69), (2, 70), (1, 1), (1, 29)]
set_option maxRecDepth 100000 in
theorem nV9 : kVM (nS nH9) nCl nZ0 nDflt nStrs nNcs nEX nCt nCods nHn nMt 9 = true := by decide +kernel
def nH10 : List (Nat × Nat) := [(5, 135), (5, 155), (7, 146), (7, 147), (7, 148), (1, 10), (5, 130)]
set_option maxRecDepth 100000 in
theorem nV10 : kVM (nS nH10) nCl nZ0 nDflt nStrs nNcs nEX nCt nCods nHn nMt 10 = true := by decide +kernel
def nH11 : List (Nat × Nat) := [(4, 74), (2, 89), (2, 158), (4, 81), (5, 56), (4, 73), (4, 75), (4, 76), (4, 77), (4, 71), (4, 72), (1, 0)]
set_option maxRecDepth 100000 in
theorem nV11 : kVM (nS nH11) nCl nZ0 nDflt nStrs nNcs nEX nCt nCods nHn nMt 11 = true := by decide +kernel
def nH12 : List (Nat × Nat) := [(5, 135), (5, 177), (5, 178), (5, 179), (6, 39), (7, 150), (7, 151), (7, 152), (6, 40), (6, 41), (6, 42), (14, 5), (1, 10), (5, 130)]
set_option maxRecDepth 100000 in
theorem nV12 : kVM (nS nH12) nCl nZ0 nDflt nStrs nNcs nEX nCt nCods nHn nMt 12 = true := by decide +kernel
def nH13 : List (Nat × Nat) := [(4, 98), (2, 89), (2, 158), (4, 81), (5, 56), (2, 74), (2, 75), (4, 96), (4, 97), (4, 99), (4, 100), (4, 101), (1, 0)]
set_option maxRecDepth 100000 in
theorem nV13 : kVM (nS nH13) nCl nZ0 nDflt nStrs nNcs nEX nCt nCods nHn nMt 13 = true := by decide +kernel
def nH14 : List (Nat × Nat) := [(5, 135), (6, 36), (6, 39), (5, 145), (6, 43), (6, 44), (6, 45), (6, 46), (14, 6), (6, 40), (6, 41), (6, 42), (14, 5), (6, 33), (6, 34), (6, 35), (6, 37), (6, 38), (1, 10), (5, 130)]
set_option maxRecDepth 100000 in
theorem nV14 : kVM (nS nH14) nCl nZ0 nDflt nStrs nNcs nEX nCt nCods nHn nMt 14 = true := by decide +kernel
def nH15 : List (Nat × Nat) := [(5, 40), (2, 89), (2, 158), (4, 81), (5, 56), (2, 74), (5, 38), (5, 39), (5, 41), (5, 42), (5, 43), (1, 0)]
set_option maxRecDepth 100000 in
theorem nV15 : kVM (nS nH15) nCl nZ0 nDflt nStrs nNcs nEX nCt nCods nHn nMt 15 = true := by decide +kernel
def nH16 : List (Nat × Nat) := [(5, 135), (6, 47), (6, 39), (5, 145), (5, 141), (6, 184), (6, 185), (6, 186), (6, 40), (6, 41), (6, 42), (14, 5), (6, 48), (6, 49), (6, 50), (14, 7), (1, 10), (5, 130)]
set_option maxRecDepth 100000 in
theorem nV16 : kVM (nS nH16) nCl nZ0 nDflt nStrs nNcs nEX nCt nCods nHn nMt 16 = true := by decide +kernel
def nH17 : List (Nat × Nat) := [(5, 50), (2, 89), (2, 158), (4, 81), (5, 56), (5, 49), (2, 74), (5, 47), (5, 48), (5, 51), (5, 52), (5, 53), (1, 0)]
set_option maxRecDepth 100000 in
theorem nV17 : kVM (nS nH17) nCl nZ0 nDflt nStrs nNcs nEX nCt nCods nHn nMt 17 = true := by decide +kernel
def nH18 : List (Nat × Nat) := [(5, 135), (6, 47), (6, 39), (5, 136), (6, 40), (6, 41), (6, 42), (14, 5), (7, 154), (7, 155), (7, 156), (6, 48), (6, 49), (6, 50), (14, 7), (1, 10), (5, 130)]
set_option maxRecDepth 100000 in
theorem nV18 : kVM (nS nH18) nCl nZ0 nDflt nStrs nNcs nEX nCt nCods nHn nMt 18 = true := by decide +kernel
def nH19 : List (Nat × Nat) := [(5, 73), (2, 89), (2, 158), (4, 81), (5, 56), (5, 49), (5, 74), (5, 75), (5, 76), (5, 71), (5, 72), (1, 0)]
set_option maxRecDepth 100000 in
theorem nV19 : kVM (nS nH19) nCl nZ0 nDflt nStrs nNcs nEX nCt nCods nHn nMt 19 = true := by decide +kernel
def nH20 : List (Nat × Nat) := [(5, 135), (6, 47), (5, 136), (6, 39), (7, 158), (7, 159), (7, 160), (6, 40), (6, 41), (6, 42), (14, 5), (6, 48), (6, 49), (6, 50), (14, 7), (1, 10), (5, 130)]
set_option maxRecDepth 100000 in
theorem nV20 : kVM (nS nH20) nCl nZ0 nDflt nStrs nNcs nEX nCt nCods nHn nMt 20 = true := by decide +kernel
def nH21 : List (Nat × Nat) := [(5, 80), (2, 89), (2, 158), (4, 81), (5, 56), (5, 49), (5, 78), (5, 79), (5, 81), (5, 82), (5, 83), (1, 0)]
set_option maxRecDepth 100000 in
theorem nV21 : kVM (nS nH21) nCl nZ0 nDflt nStrs nNcs nEX nCt nCods nHn nMt 21 = true := by decide +kernel
def nH22 : List (Nat × Nat) := [(5, 135), (6, 36), (5, 137), (6, 39), (7, 162), (7, 163), (7, 164), (6, 40), (6, 41), (6, 42), (14, 5), (6, 37), (6, 38), (1, 10), (5, 130)]
set_option maxRecDepth 100000 in
theorem nV22 : kVM (nS nH22) nCl nZ0 nDflt nStrs nNcs nEX nCt nCods nHn nMt 22 = true := by decide +kernel
def nH23 : List (Nat × Nat) := [(5, 88), (2, 89), (2, 158), (4, 81), (5, 56), (2, 74), (2, 75), (5, 89), (5, 90), (5, 91), (5, 86), (5, 87), (1, 0)]
set_option maxRecDepth 100000 in
theorem nV23 : kVM (nS nH23) nCl nZ0 nDflt nStrs nNcs nEX nCt nCods nHn nMt 23 = true := by decide +kernel
def nH24 : List (Nat × Nat) := [(5, 135), (6, 39), (5, 148), (5, 149), (7, 166), (7, 167), (7, 168), (6, 40), (6, 41), (6, 42), (14, 5), (1, 10), (5, 130)]
set_option maxRecDepth 100000 in
theorem nV24 : kVM (nS nH24) nCl nZ0 nDflt nStrs nNcs nEX nCt nCods nHn nMt 24 = true := by decide +kernel
def nH25 : List (Nat × Nat) := [(5, 100), (2, 89), (2, 158), (4, 81), (5, 56), (5, 49), (5, 101), (5, 102), (5, 103), (5, 98), (5, 99), (1, 0)]
set_option maxRecDepth 100000 in
theorem nV25 : kVM (nS nH25) nCl nZ0 nDflt nStrs nNcs nEX nCt nCods nHn nMt 25 = true := by decide +kernel
def nH26 : List (Nat × Nat) := [(5, 135), (6, 36), (5, 150), (5, 151), (6, 39), (7, 170), (7, 171), (7, 172), (6, 40), (6, 41), (6, 42), (14, 5), (6, 37), (6, 38), (1, 10), (5, 130)]
set_option maxRecDepth 100000 in
theorem nV26 : kVM (nS nH26) nCl nZ0 nDflt nStrs nNcs nEX nCt nCods nHn nMt 26 = true := by decide +kernel
def nH27 : List (Nat × Nat) := [(5, 116), (2, 89), (2, 158), (4, 81), (5, 56), (5, 49), (5, 114), (5, 115), (5, 117), (5, 118), (5, 119), (1, 0)]
set_option maxRecDepth 100000 in
theorem nV27 : kVM (nS nH27) nCl nZ0 nDflt nStrs nNcs nEX nCt nCods nHn nMt 27 = true := by decide +kernel
def nH28 : List (Nat × Nat) := [(5, 135), (6, 36), (5, 146), (6, 39), (6, 37), (6, 38), (6, 40), (6, 41), (6, 42), (14, 5), (7, 174), (7, 175), (7, 176), (1, 10), (5, 130)]
set_option maxRecDepth 100000 in
theorem nV28 : kVM (nS nH28) nCl nZ0 nDflt nStrs nNcs nEX nCt nCods nHn nMt 28 = true := by decide +kernel
def nH29 : List (Nat × Nat) := [(5, 124), (2, 89), (2, 158), (4, 81), (5, 56), (5, 49), (5, 125), (5, 126), (5, 127), (5, 122), (5, 123), (1, 0)]
set_option maxRecDepth 100000 in
theorem nV29 : kVM (nS nH29) nCl nZ0 nDflt nStrs nNcs nEX nCt nCods nHn nMt 29 = true := by decide +kernel
def nH30 : List (Nat × Nat) := [(5, 135), (6, 36), (6, 39), (5, 141), (5, 143), (5, 138), (5, 140), (5, 145), (5, 150), (5, 147), (5, 144), (7, 178), (7, 179), (7, 180), (6, 40), (6, 41), (6, 42), (14, 5), (6, 37), (6, 38), (1, 10), (5, 130)]
set_option maxRecDepth 100000 in
theorem nV30 : kVM (nS nH30) nCl nZ0 nDflt nStrs nNcs nEX nCt nCods nHn nMt 30 = true := by decide +kernel
def nH31 : List (Nat × Nat) := [(1, 41), (1, 44), (1, 76), (1, 179), (1, 204), (2, 155), (6, 31), (1, 45), (1, 47), (1, 48), (1, 42), (1, 49), (1, 39), (1, 40), (1, 34), (1, 35), (1, 2), (1, 37), (1, 21)]
set_option maxRecDepth 100000 in
theorem nV31 : kVM (nS nH31) nCl nZ0 nDflt nStrs nNcs nEX nCt nCods nHn nMt 31 = true := by decide +kernel
def nH32 : List (Nat × Nat) := [(1, 82), (1, 83), (1, 84), (1, 76), (1, 179), (1, 204), (2, 155), (6, 31), (1, 85), (1, 93), (1, 34), (1, 35), (1, 80), (1, 81), (1, 3), (1, 78), (1, 21)]
set_option maxRecDepth 100000 in
theorem nV32 : kVM (nS nH32) nCl nZ0 nDflt nStrs nNcs nEX nCt nCods nHn nMt 32 = true := by decide +kernel
def nH33 : List (Nat × Nat) := [(1, 141), (1, 76), (1, 179), (1, 204), (2, 155), (6, 31), (1, 142), (1, 34), (1, 35), (1, 139), (1, 140), (1, 4), (1, 137), (1, 21)]
set_option maxRecDepth 100000 in
theorem nV33 : kVM (nS nH33) nCl nZ0 nDflt nStrs nNcs nEX nCt nCods nHn nMt 33 = true := by decide +kernel
def nH34 : List (Nat × Nat) := [(1, 185), (1, 230), (1, 186), (1, 188), (1, 231), (1, 232), (1, 205), (1, 207), (1, 234), (1, 76), (1, 179), (1, 204), (2, 155), (6, 31), (1, 235), (1, 236), (1, 237), (1, 228), (2, 7), (2, 2), (1, 34), (1, 35), (1, 189), (1, 190), (1, 208), (1, 209), (1, 183), (1, 184), (1, 7), (1, 206), (1, 6), (1, 187), (1, 5), (1, 181), (1, 21)]
set_option maxRecDepth 100000 in
theorem nV34 : kVM (nS nH34) nCl nZ0 nDflt nStrs nNcs nEX nCt nCods nHn nMt 34 = true := by decide +kernel
def nH35 : List (Nat × Nat) := [(2, 80), (2, 87), (2, 129), (2, 130), (2, 50), (1, 143), (2, 156), (2, 165), (2, 166), (2, 172), (2, 77), (2, 78), (2, 79), (2, 81), (2, 82), (2, 131), (2, 132), (2, 167), (2, 168), (2, 173), (2, 174), (2, 175), (1, 1), (1, 29), (1, 14), (2, 88), (1, 15), (2, 157)]
set_option maxRecDepth 100000 in
theorem nV35 : kVM (nS nH35) nCl nZ0 nDflt nStrs nNcs nEX nCt nCods nHn nMt 35 = true := by decide +kernel
def nH36 : List (Nat × Nat) := [(6, 37), (6, 38), (1, 10), (5, 130)]
set_option maxRecDepth 100000 in
theorem nV36 : kVM (nS nH36) nCl nZ0 nDflt nStrs nNcs nEX nCt nCods nHn nMt 36 = true := by decide +kernel
def nH37 : List (Nat × Nat) := [(5, 135), (6, 40), (6, 41), (6, 42), (14, 5), (1, 10), (5, 130)]
set_option maxRecDepth 100000 in
theorem nV37 : kVM (nS nH37) nCl nZ0 nDflt nStrs nNcs nEX nCt nCods nHn nMt 37 = true := by decide +kernel
def nH38 : List (Nat × Nat) := [(2, 51), (2, 183), (2, 190), (2, 194), (4, 37), (2, 47), (4, 62), (2, 49), (4, 66), (2, 195), (2, 196), (2, 197), (2, 180), (2, 181), (2, 182), (2, 184), (2, 185), (2, 186), (4, 63), (4, 64), (4, 65), (2, 191), (2, 192), (2, 193), (4, 67), (4, 68), (4, 69), (4, 38), (4, 39), (4, 40), (1, 1), (1, 29)]
set_option maxRecDepth 100000 in
theorem nV38 : kVM (nS nH38) nCl nZ0 nDflt nStrs nNcs nEX nCt nCods nHn nMt 38 = true := by decide +kernel
def nH39 : List (Nat × Nat) := [(5, 158), (5, 161), (5, 159), (5, 164), (5, 168), (5, 172), (5, 170), (5, 163), (6, 201), (6, 202), (6, 203), (15, 15), (1, 10), (5, 130)]
set_option maxRecDepth 100000 in
theorem nV39 : kVM (nS nH39) nCl nZ0 nDflt nStrs nNcs nEX nCt nCods nHn nMt 39 = true := by decide +kernel
def nH40 : List (Nat × Nat) := [(5, 158), (6, 205), (6, 206), (6, 207), (16, 0), (1, 10), (5, 130)]
set_option maxRecDepth 100000 in
theorem nV40 : kVM (nS nH40) nCl nZ0 nDflt nStrs nNcs nEX nCt nCods nHn nMt 40 = true := by decide +kernel
def nH41 : List (Nat × Nat) := [(5, 154), (6, 212), (5, 157), (6, 216), (6, 204), (5, 156), (6, 220), (5, 158), (6, 230), (6, 217), (6, 218), (6, 219), (16, 3), (6, 231), (6, 232), (6, 233), (16, 5), (6, 209), (6, 210), (6, 211), (16, 1), (6, 205), (6, 206), (6, 207), (16, 0), (6, 213), (6, 214), (6, 215), (16, 2), (6, 221), (6, 222), (6, 223), (16, 4), (1, 10), (5, 130)]
set_option maxRecDepth 100000 in
theorem nV41 : kVM (nS nH41) nCl nZ0 nDflt nStrs nNcs nEX nCt nCods nHn nMt 41 = true := by decide +kernel
def nH42 : List (Nat × Nat) := [(2, 51), (1, 233), (4, 78), (4, 79), (4, 88), (4, 89), (3, 197), (3, 198), (3, 199), (4, 75), (4, 76), (4, 77), (4, 90), (4, 91), (1, 25), (4, 80), (1, 1), (1, 29)]
set_option maxRecDepth 100000 in
theorem nV42 : kVM (nS nH42) nCl nZ0 nDflt nStrs nNcs nEX nCt nCods nHn nMt 42 = true := by decide +kernel
def nH43 : List (Nat × Nat) := [(2, 87), (4, 102), (2, 130), (2, 49), (1, 94), (2, 156), (4, 103), (2, 166), (1, 96), (4, 104), (4, 105), (4, 106), (4, 107), (2, 167), (2, 168), (4, 99), (4, 100), (4, 101), (2, 131), (2, 132), (1, 1), (1, 29), (1, 14), (2, 88), (1, 15), (2, 157)]
set_option maxRecDepth 100000 in
theorem nV43 : kVM (nS nH43) nCl nZ0 nDflt nStrs nNcs nEX nCt nCods nHn nMt 43 = true := by decide +kernel
def nH44 : List (Nat × Nat) := [(5, 141), (6, 47), (5, 139), (5, 136), (6, 51), (6, 36), (6, 54), (6, 57), (5, 143), (5, 144), (6, 61), (5, 137), (6, 64), (5, 142), (6, 67), (6, 62), (6, 63), (6, 65), (6, 66), (6, 52), (6, 53), (6, 58), (6, 59), (6, 60), (14, 8), (6, 55), (6, 56), (6, 48), (6, 49), (6, 50), (14, 7), (6, 68), (6, 69), (6, 70), (14, 9), (6, 37), (6, 38), (6, 44), (6, 45), (6, 46), (14, 6), (1, 10), (5, 130)]
set_option maxRecDepth 100000 in
theorem nV44 : kVM (nS nH44) nCl nZ0 nDflt nStrs nNcs nEX nCt nCods nHn nMt 44 = true := by decide +kernel
def nH45 : List (Nat × Nat) := [(5, 44), (2, 87), (5, 45), (2, 130), (2, 49), (1, 94), (4, 66), (5, 41), (5, 42), (5, 43), (4, 11), (4, 12), (4, 67), (4, 68), (4, 69), (2, 131), (2, 132), (1, 1), (1, 29), (1, 14), (2, 88)]
set_option maxRecDepth 100000 in
theorem nV45 : kVM (nS nH45) nCl nZ0 nDflt nStrs nNcs nEX nCt nCods nHn nMt 45 = true := by decide +kernel
def nH46 : List (Nat × Nat) := [(6, 36), (6, 48), (6, 49), (6, 50), (14, 7), (6, 37), (6, 38), (1, 10), (5, 130)]
set_option maxRecDepth 100000 in
theorem nV46 : kVM (nS nH46) nCl nZ0 nDflt nStrs nNcs nEX nCt nCods nHn nMt 46 = true := by decide +kernel
def nH47 : List (Nat × Nat) := [(5, 44), (5, 54), (5, 45), (5, 63), (2, 87), (5, 69), (2, 130), (2, 47), (4, 11), (4, 12), (5, 64), (5, 65), (5, 51), (5, 52), (5, 53), (2, 131), (2, 132), (1, 1), (1, 29), (1, 14), (2, 88), (1, 27), (5, 55)]
set_option maxRecDepth 100000 in
theorem nV47 : kVM (nS nH47) nCl nZ0 nDflt nStrs nNcs nEX nCt nCods nHn nMt 47 = true := by decide +kernel
def nH48 : List (Nat × Nat) := [(5, 44), (5, 54), (5, 45), (5, 63), (2, 47), (5, 74), (5, 75), (5, 76), (4, 11), (4, 12), (5, 64), (5, 65), (1, 1), (1, 29), (1, 27), (5, 55)]
set_option maxRecDepth 100000 in
theorem nV48 : kVM (nS nH48) nCl nZ0 nDflt nStrs nNcs nEX nCt nCods nHn nMt 48 = true := by decide +kernel
def nH49 : List (Nat × Nat) := [(5, 54), (5, 84), (5, 63), (2, 49), (1, 86), (5, 81), (5, 82), (5, 83), (5, 64), (5, 65), (1, 1), (1, 29), (1, 27), (5, 55)]
set_option maxRecDepth 100000 in
theorem nV49 : kVM (nS nH49) nCl nZ0 nDflt nStrs nNcs nEX nCt nCods nHn nMt 49 = true := by decide +kernel
def nH50 : List (Nat × Nat) := [(2, 87), (5, 69), (2, 130), (2, 48), (1, 54), (2, 156), (5, 92), (2, 166), (5, 93), (5, 89), (5, 90), (5, 91), (2, 167), (2, 168), (5, 94), (5, 95), (5, 96), (2, 131), (2, 132), (1, 1), (1, 29), (1, 14), (2, 88), (1, 15), (2, 157)]
set_option maxRecDepth 100000 in
theorem nV50 : kVM (nS nH50) nCl nZ0 nDflt nStrs nNcs nEX nCt nCods nHn nMt 50 = true := by decide +kernel
def nH51 : List (Nat × Nat) := [(2, 48), (5, 104), (5, 54), (5, 108), (5, 63), (5, 109), (5, 110), (5, 111), (5, 112), (5, 101), (5, 102), (5, 103), (5, 64), (5, 65), (5, 105), (5, 106), (5, 107), (1, 1), (1, 29), (1, 27), (5, 55)]
set_option maxRecDepth 100000 in
theorem nV51 : kVM (nS nH51) nCl nZ0 nDflt nStrs nNcs nEX nCt nCods nHn nMt 51 = true := by decide +kernel
def nH52 : List (Nat × Nat) := [(5, 54), (5, 120), (5, 63), (2, 48), (1, 46), (5, 64), (5, 65), (5, 117), (5, 118), (5, 119), (1, 1), (1, 29), (1, 27), (5, 55)]
set_option maxRecDepth 100000 in
theorem nV52 : kVM (nS nH52) nCl nZ0 nDflt nStrs nNcs nEX nCt nCods nHn nMt 52 = true := by decide +kernel
def nH53 : List (Nat × Nat) := [(2, 49), (1, 92), (1, 96), (1, 88), (1, 89), (1, 94), (2, 48), (1, 56), (1, 51), (1, 98), (5, 54), (5, 128), (5, 63), (5, 125), (5, 126), (5, 127), (5, 64), (5, 65), (1, 1), (1, 29), (1, 27), (5, 55)]
set_option maxRecDepth 100000 in
theorem nV53 : kVM (nS nH53) nCl nZ0 nDflt nStrs nNcs nEX nCt nCods nHn nMt 53 = true := by decide +kernel
def nH54 : List (Nat × Nat) := [(1, 191), (1, 76), (1, 179), (1, 204), (2, 155), (6, 31), (1, 192), (1, 193), (1, 34), (1, 35), (1, 189), (1, 190), (1, 21), (1, 6), (1, 187)]
set_option maxRecDepth 100000 in
theorem nV54 : kVM (nS nH54) nCl nZ0 nDflt nStrs nNcs nEX nCt nCods nHn nMt 54 = true := by decide +kernel
def nH55 : List (Nat × Nat) := [(1, 210), (1, 76), (1, 179), (1, 204), (2, 155), (6, 31), (1, 211), (1, 213), (1, 215), (1, 34), (1, 35), (1, 208), (1, 209), (1, 7), (1, 206), (1, 21)]
set_option maxRecDepth 100000 in
theorem nV55 : kVM (nS nH55) nCl nZ0 nDflt nStrs nNcs nEX nCt nCods nHn nMt 55 = true := by decide +kernel
def nH56 : List (Nat × Nat) := [(2, 83), (2, 84), (2, 85), (2, 86), (2, 81), (2, 82), (1, 4), (1, 137)]
set_option maxRecDepth 100000 in
theorem nV56 : kVM (nS nH56) nCl nZ0 nDflt nStrs nNcs nEX nCt nCods nHn nMt 56 = true := by decide +kernel
def nH57 : List (Nat × Nat) := [(1, 142), (1, 144), (2, 83), (2, 173), (2, 174), (2, 175), (1, 4), (1, 137)]
set_option maxRecDepth 100000 in
theorem nV57 : kVM (nS nH57) nCl nZ0 nDflt nStrs nNcs nEX nCt nCods nHn nMt 57 = true := by decide +kernel
def nH58 : List (Nat × Nat) := [(1, 230), (1, 148), (1, 231), (1, 196), (1, 234), (1, 218), (1, 238), (1, 239), (2, 1), (2, 2), (1, 235), (2, 187), (1, 237), (2, 184), (2, 185), (2, 186), (2, 188), (2, 189), (1, 5), (1, 181)]
set_option maxRecDepth 100000 in
theorem nV58 : kVM (nS nH58) nCl nZ0 nDflt nStrs nNcs nEX nCt nCods nHn nMt 58 = true := by decide +kernel
def nH59 : List (Nat × Nat) := [(2, 1), (1, 230), (1, 148), (1, 145), (2, 191), (2, 192), (2, 193), (1, 5), (1, 181)]
set_option maxRecDepth 100000 in
theorem nV59 : kVM (nS nH59) nCl nZ0 nDflt nStrs nNcs nEX nCt nCods nHn nMt 59 = true := by decide +kernel
end
section
/-! THE METHODS HOLD -/
def nH60 : List (Nat × Nat) := [(2, 2), (1, 230), (2, 198), (2, 202), (2, 206), (3, 3), (3, 127), (1, 239), (3, 136), (2, 4), (2, 7), (3, 131), (2, 5), (3, 139), (3, 164), (3, 168), (4, 19), (2, 6), (3, 143), (1, 237), (2, 199), (2, 200), (2, 201), (3, 169), (3, 170), (3, 171), (11, 7), (3, 144), (3, 145), (3, 146), (11, 6), (2, 195), (2, 196), (2, 197), (3, 140), (3, 141), (3, 142), (11, 5), (3, 137), (3, 138), (2, 207), (2, 208), (2, 209), (11, 1), (3, 165), (3, 166), (3, 167), (3, 4), (3, 5), (3, 6), (11, 3), (4, 20), (4, 21), (4, 22), (12, 0), (2, 203), (2, 204), (2, 205), (3, 128), (3, 129), (3, 130), (11, 4), (1, 5), (1, 181)]
set_option maxRecDepth 100000 in
theorem nV60 : kVM (nS nH60) nCl nZ0 nDflt nStrs nNcs nEX nCt nCods nHn nMt 60 = true := by decide +kernel
def nH61 : List (Nat × Nat) := [(2, 1), (2, 2), (2, 226), (4, 41), (2, 228), (1, 234), (4, 42), (4, 46), (4, 47), (4, 51), (1, 232), (1, 231), (4, 55), (2, 0), (4, 56), (4, 57), (4, 58), (4, 48), (4, 49), (4, 50), (12, 3), (4, 52), (4, 53), (4, 54), (12, 4), (2, 131), (2, 132), (4, 43), (4, 44), (4, 45), (4, 38), (4, 39), (4, 40), (1, 14), (2, 88), (1, 5), (1, 181)]
set_option maxRecDepth 100000 in
theorem nV61 : kVM (nS nH61) nCl nZ0 nDflt nStrs nNcs nEX nCt nCods nHn nMt 61 = true := by decide +kernel
def nH62 : List (Nat × Nat) := [(1, 235), (4, 63), (4, 64), (4, 65), (1, 5), (1, 181)]
set_option maxRecDepth 100000 in
theorem nV62 : kVM (nS nH62) nCl nZ0 nDflt nStrs nNcs nEX nCt nCods nHn nMt 62 = true := by decide +kernel
def nH63 : List (Nat × Nat) := [(1, 91), (1, 93), (4, 67), (4, 68), (4, 69), (1, 3), (1, 78)]
set_option maxRecDepth 100000 in
theorem nV63 : kVM (nS nH63) nCl nZ0 nDflt nStrs nNcs nEX nCt nCods nHn nMt 63 = true := by decide +kernel
def nH64 : List (Nat × Nat) := [(5, 154), (6, 213), (6, 214), (6, 215), (16, 2), (1, 10), (5, 130)]
set_option maxRecDepth 100000 in
theorem nV64 : kVM (nS nH64) nCl nZ0 nDflt nStrs nNcs nEX nCt nCods nHn nMt 64 = true := by decide +kernel
def nH65 : List (Nat × Nat) := [(5, 154), (6, 217), (6, 218), (6, 219), (16, 3), (1, 10), (5, 130)]
set_option maxRecDepth 100000 in
theorem nV65 : kVM (nS nH65) nCl nZ0 nDflt nStrs nNcs nEX nCt nCods nHn nMt 65 = true := by decide +kernel
def nH66 : List (Nat × Nat) := [(5, 157), (5, 154), (6, 224), (6, 221), (6, 222), (6, 223), (16, 4), (6, 225), (6, 226), (1, 10), (5, 130)]
set_option maxRecDepth 100000 in
theorem nV66 : kVM (nS nH66) nCl nZ0 nDflt nStrs nNcs nEX nCt nCods nHn nMt 66 = true := by decide +kernel
def nH67 : List (Nat × Nat) := [(6, 234), (6, 238), (7, 68), (6, 220), (6, 204), (5, 158), (7, 72), (5, 166), (5, 159), (5, 172), (7, 80), (7, 83), (7, 92), (7, 137), (5, 154), (7, 87), (5, 170), (5, 171), (6, 231), (6, 232), (6, 233), (16, 5), (7, 84), (7, 85), (7, 86), (16, 12), (6, 239), (7, 0), (7, 1), (16, 7), (6, 205), (6, 206), (6, 207), (16, 0), (7, 88), (7, 89), (7, 90), (16, 13), (7, 93), (7, 94), (7, 95), (16, 14), (7, 69), (7, 70), (7, 71), (16, 9), (6, 235), (6, 236), (6, 237), (16, 6), (7, 81), (7, 82), (7, 138), (7, 139), (7, 140), (17, 8), (6, 221), (6, 222), (6, 223), (16, 4), (7, 73), (7, 74), (7, 75), (16, 10), (1, 10), (5, 130)]
set_option maxRecDepth 100000 in
theorem nV67_0 : kL (kE (nS nH67) nCl nZ0 nDflt nStrs nEX nHn nMt 67) 0 nC67_0 = true := by decide +kernel
set_option maxRecDepth 100000 in
theorem nV67_1 : kL (kE (nS nH67) nCl nZ0 nDflt nStrs nEX nHn nMt 67) 200 nC67_1 = true := by decide +kernel
set_option maxRecDepth 100000 in
theorem nV67_L : kL (kE (nS nH67) nCl nZ0 nDflt nStrs nEX nHn nMt 67) 0 (nCods 67) = true := by
  show kL (kE (nS nH67) nCl nZ0 nDflt nStrs nEX nHn nMt 67) 0 (nC67_0 ++ (nC67_1)) = true
  exact kL_two nV67_0 (nV67_1)
set_option maxRecDepth 100000 in
theorem nV67 : kVM (nS nH67) nCl nZ0 nDflt nStrs nNcs nEX nCt nCods nHn nMt 67 = true := by
  unfold kVM
  rw [nV67_L, Bool.true_and]
  decide +kernel
def nH68 : List (Nat × Nat) := [(1, 195), (1, 192), (1, 193), (3, 197), (3, 198), (3, 199), (1, 6), (1, 187)]
set_option maxRecDepth 100000 in
theorem nV68 : kVM (nS nH68) nCl nZ0 nDflt nStrs nNcs nEX nCt nCods nHn nMt 68 = true := by decide +kernel
def nH69 : List (Nat × Nat) := [(1, 91), (4, 108), (1, 93), (1, 83), (4, 109), (4, 119), (1, 97), (1, 95), (1, 102), (4, 130), (1, 99), (4, 120), (4, 121), (4, 122), (12, 6), (4, 131), (4, 132), (4, 133), (12, 7), (4, 105), (4, 106), (4, 107), (4, 110), (4, 111), (4, 112), (12, 5), (4, 11), (4, 12), (1, 3), (1, 78)]
set_option maxRecDepth 100000 in
theorem nV69 : kVM (nS nH69) nCl nZ0 nDflt nStrs nNcs nEX nCt nCods nHn nMt 69 = true := by decide +kernel
def nH70 : List (Nat × Nat) := [(6, 52), (6, 53), (1, 10), (5, 130)]
set_option maxRecDepth 100000 in
theorem nV70 : kVM (nS nH70) nCl nZ0 nDflt nStrs nNcs nEX nCt nCods nHn nMt 70 = true := by decide +kernel
def nH71 : List (Nat × Nat) := [(6, 55), (6, 56), (1, 10), (5, 130)]
set_option maxRecDepth 100000 in
theorem nV71 : kVM (nS nH71) nCl nZ0 nDflt nStrs nNcs nEX nCt nCods nHn nMt 71 = true := by decide +kernel
def nH72 : List (Nat × Nat) := [(5, 143), (5, 152), (6, 58), (6, 59), (6, 60), (14, 8), (1, 10), (5, 130)]
set_option maxRecDepth 100000 in
theorem nV72 : kVM (nS nH72) nCl nZ0 nDflt nStrs nNcs nEX nCt nCods nHn nMt 72 = true := by decide +kernel
def nH73 : List (Nat × Nat) := [(6, 62), (6, 63), (1, 10), (5, 130)]
set_option maxRecDepth 100000 in
theorem nV73 : kVM (nS nH73) nCl nZ0 nDflt nStrs nNcs nEX nCt nCods nHn nMt 73 = true := by decide +kernel
def nH74 : List (Nat × Nat) := [(6, 61), (6, 51), (6, 62), (6, 63), (6, 65), (6, 66), (6, 52), (6, 53), (1, 10), (5, 130)]
set_option maxRecDepth 100000 in
theorem nV74 : kVM (nS nH74) nCl nZ0 nDflt nStrs nNcs nEX nCt nCods nHn nMt 74 = true := by decide +kernel
def nH75 : List (Nat × Nat) := [(6, 36), (6, 71), (6, 123), (6, 137), (6, 143), (6, 54), (6, 78), (5, 139), (6, 57), (6, 151), (6, 155), (6, 171), (6, 175), (6, 58), (6, 59), (6, 60), (14, 8), (6, 79), (6, 80), (6, 81), (14, 11), (6, 55), (6, 56), (6, 144), (6, 145), (6, 146), (15, 5), (6, 37), (6, 38), (6, 156), (6, 157), (6, 158), (15, 8), (6, 152), (6, 153), (6, 154), (15, 7), (6, 124), (6, 125), (6, 126), (15, 2), (6, 138), (6, 139), (6, 140), (15, 4), (6, 68), (6, 69), (6, 70), (14, 9), (6, 176), (6, 177), (6, 178), (15, 13), (6, 72), (6, 73), (6, 74), (14, 10), (6, 172), (6, 173), (6, 174), (15, 12), (1, 10), (5, 130)]
set_option maxRecDepth 100000 in
theorem nV75 : kVM (nS nH75) nCl nZ0 nDflt nStrs nNcs nEX nCt nCods nHn nMt 75 = true := by decide +kernel
def nH76 : List (Nat × Nat) := [(4, 11), (4, 12), (1, 1), (1, 29)]
set_option maxRecDepth 100000 in
theorem nV76 : kVM (nS nH76) nCl nZ0 nDflt nStrs nNcs nEX nCt nCods nHn nMt 76 = true := by decide +kernel
def nH77 : List (Nat × Nat) := [(1, 52), (1, 53), (1, 47), (5, 94), (5, 95), (5, 96), (1, 2), (1, 37)]
set_option maxRecDepth 100000 in
theorem nV77 : kVM (nS nH77) nCl nZ0 nDflt nStrs nNcs nEX nCt nCods nHn nMt 77 = true := by decide +kernel
def nH78 : List (Nat × Nat) := [(1, 55), (4, 227), (3, 86), (3, 87), (5, 105), (5, 106), (5, 107), (1, 2), (1, 37), (1, 21)]
set_option maxRecDepth 100000 in
theorem nV78 : kVM (nS nH78) nCl nZ0 nDflt nStrs nNcs nEX nCt nCods nHn nMt 78 = true := by decide +kernel
def nH79 : List (Nat × Nat) := [(1, 48), (1, 55), (5, 110), (5, 111), (5, 112), (1, 2), (1, 37)]
set_option maxRecDepth 100000 in
theorem nV79 : kVM (nS nH79) nCl nZ0 nDflt nStrs nNcs nEX nCt nCods nHn nMt 79 = true := by decide +kernel
def nH80 : List (Nat × Nat) := [(2, 188), (2, 189), (1, 16)]
set_option maxRecDepth 100000 in
theorem nV80 : kVM (nS nH80) nCl nZ0 nDflt nStrs nNcs nEX nCt nCods nHn nMt 80 = true := by decide +kernel
def nH81 : List (Nat × Nat) := [(1, 149), (1, 146), (1, 150), (1, 144), (1, 142), (2, 199), (2, 200), (2, 201), (1, 4), (1, 137)]
set_option maxRecDepth 100000 in
theorem nV81 : kVM (nS nH81) nCl nZ0 nDflt nStrs nNcs nEX nCt nCods nHn nMt 81 = true := by decide +kernel
def nH82 : List (Nat × Nat) := [(1, 146), (1, 150), (1, 142), (2, 203), (2, 204), (2, 205), (1, 4), (1, 137)]
set_option maxRecDepth 100000 in
theorem nV82 : kVM (nS nH82) nCl nZ0 nDflt nStrs nNcs nEX nCt nCods nHn nMt 82 = true := by decide +kernel
def nH83 : List (Nat × Nat) := [(1, 230), (2, 210), (2, 4), (2, 214), (2, 218), (2, 222), (2, 226), (2, 227), (2, 228), (2, 229), (2, 6), (2, 233), (2, 5), (1, 231), (1, 194), (3, 2), (2, 230), (2, 231), (2, 232), (2, 234), (2, 235), (2, 236), (11, 2), (2, 211), (2, 212), (2, 213), (2, 215), (2, 216), (2, 217), (2, 207), (2, 208), (2, 209), (11, 1), (2, 219), (2, 220), (2, 221), (2, 131), (2, 132), (2, 223), (2, 224), (2, 225), (1, 14), (2, 88), (1, 5), (1, 181)]
set_option maxRecDepth 100000 in
theorem nV83 : kVM (nS nH83) nCl nZ0 nDflt nStrs nNcs nEX nCt nCods nHn nMt 83 = true := by decide +kernel
def nH84 : List (Nat × Nat) := [(1, 230), (3, 7), (2, 210), (2, 218), (2, 8), (3, 11), (2, 7), (1, 152), (3, 13), (2, 214), (2, 226), (3, 126), (2, 228), (2, 211), (2, 212), (2, 213), (2, 215), (2, 216), (2, 217), (2, 219), (2, 220), (2, 221), (3, 14), (3, 15), (3, 16), (3, 8), (3, 9), (3, 10), (2, 131), (2, 132), (3, 4), (3, 5), (3, 6), (11, 3), (1, 14), (2, 88), (1, 5), (1, 181)]
set_option maxRecDepth 100000 in
theorem nV84 : kVM (nS nH84) nCl nZ0 nDflt nStrs nNcs nEX nCt nCods nHn nMt 84 = true := by decide +kernel
def nH85 : List (Nat × Nat) := [(2, 7), (3, 131), (2, 4), (3, 133), (2, 226), (3, 135), (2, 228), (3, 128), (3, 129), (3, 130), (11, 4), (2, 131), (2, 132), (1, 14), (2, 88), (1, 5), (1, 181)]
set_option maxRecDepth 100000 in
theorem nV85 : kVM (nS nH85) nCl nZ0 nDflt nStrs nNcs nEX nCt nCods nHn nMt 85 = true := by decide +kernel
def nH86 : List (Nat × Nat) := [(3, 137), (3, 138), (1, 23)]
set_option maxRecDepth 100000 in
theorem nV86 : kVM (nS nH86) nCl nZ0 nDflt nStrs nNcs nEX nCt nCods nHn nMt 86 = true := by decide +kernel
def nH87 : List (Nat × Nat) := [(1, 231), (1, 194), (3, 143), (3, 144), (3, 145), (3, 146), (11, 6), (3, 140), (3, 141), (3, 142), (11, 5), (1, 5), (1, 181)]
set_option maxRecDepth 100000 in
theorem nV87 : kVM (nS nH87) nCl nZ0 nDflt nStrs nNcs nEX nCt nCods nHn nMt 87 = true := by decide +kernel
def nH88 : List (Nat × Nat) := [(7, 186), (3, 165), (3, 166), (3, 167), (1, 9)]
set_option maxRecDepth 100000 in
theorem nV88 : kVM (nS nH88) nCl nZ0 nDflt nStrs nNcs nEX nCt nCods nHn nMt 88 = true := by decide +kernel
def nH89 : List (Nat × Nat) := [(3, 172), (1, 230), (3, 180), (3, 234), (2, 7), (7, 187), (3, 239), (2, 226), (4, 3), (2, 228), (2, 214), (4, 4), (1, 239), (2, 8), (4, 5), (3, 151), (4, 6), (2, 9), (1, 234), (2, 2), (4, 14), (4, 18), (4, 15), (4, 16), (4, 17), (3, 169), (3, 170), (3, 171), (11, 7), (4, 0), (4, 1), (4, 2), (3, 181), (3, 182), (3, 183), (3, 162), (3, 163), (2, 215), (2, 216), (2, 217), (3, 235), (3, 236), (3, 237), (11, 14), (4, 7), (4, 8), (4, 9), (11, 15), (3, 152), (3, 153), (3, 173), (3, 174), (3, 175), (11, 8), (2, 131), (2, 132), (1, 14), (2, 88), (1, 5), (1, 181)]
set_option maxRecDepth 100000 in
theorem nV89 : kVM (nS nH89) nCl nZ0 nDflt nStrs nNcs nEX nCt nCods nHn nMt 89 = true := by decide +kernel
def nH90 : List (Nat × Nat) := [(3, 184), (1, 230), (2, 214), (2, 226), (4, 23), (2, 228), (2, 7), (3, 131), (4, 24), (4, 28), (3, 201), (1, 239), (4, 30), (4, 6), (4, 32), (3, 202), (3, 203), (3, 185), (3, 186), (3, 187), (11, 9), (2, 215), (2, 216), (2, 217), (4, 7), (4, 8), (4, 9), (11, 15), (4, 25), (4, 26), (4, 27), (12, 1), (4, 33), (4, 34), (4, 35), (12, 2), (2, 131), (2, 132), (4, 20), (4, 21), (4, 22), (12, 0), (1, 14), (2, 88), (1, 5), (1, 181)]
set_option maxRecDepth 100000 in
theorem nV90 : kVM (nS nH90) nCl nZ0 nDflt nStrs nNcs nEX nCt nCods nHn nMt 90 = true := by decide +kernel
def nH91 : List (Nat × Nat) := [(1, 234), (1, 218), (1, 212), (1, 216), (2, 2), (3, 147), (2, 226), (3, 150), (2, 228), (1, 214), (1, 235), (3, 151), (3, 152), (3, 153), (3, 144), (3, 145), (3, 146), (11, 6), (3, 148), (3, 149), (2, 131), (2, 132), (1, 14), (2, 88), (1, 5), (1, 181)]
set_option maxRecDepth 100000 in
theorem nV91 : kVM (nS nH91) nCl nZ0 nDflt nStrs nNcs nEX nCt nCods nHn nMt 91 = true := by decide +kernel
def nH92 : List (Nat × Nat) := [(1, 217), (1, 211), (4, 43), (4, 44), (4, 45), (1, 7), (1, 206)]
set_option maxRecDepth 100000 in
theorem nV92 : kVM (nS nH92) nCl nZ0 nDflt nStrs nNcs nEX nCt nCods nHn nMt 92 = true := by decide +kernel
def nH93 : List (Nat × Nat) := [(1, 231), (1, 196), (1, 194), (1, 239), (3, 136), (3, 139), (4, 6), (4, 7), (4, 8), (4, 9), (11, 15), (4, 48), (4, 49), (4, 50), (12, 3), (3, 137), (3, 138), (3, 140), (3, 141), (3, 142), (11, 5), (1, 5), (1, 181)]
set_option maxRecDepth 100000 in
theorem nV93 : kVM (nS nH93) nCl nZ0 nDflt nStrs nNcs nEX nCt nCods nHn nMt 93 = true := by decide +kernel
def nH94 : List (Nat × Nat) := [(1, 238), (1, 239), (3, 136), (3, 143), (1, 236), (4, 6), (4, 7), (4, 8), (4, 9), (11, 15), (4, 52), (4, 53), (4, 54), (12, 4), (3, 144), (3, 145), (3, 146), (11, 6), (3, 137), (3, 138), (1, 5), (1, 181)]
set_option maxRecDepth 100000 in
theorem nV94 : kVM (nS nH94) nCl nZ0 nDflt nStrs nNcs nEX nCt nCods nHn nMt 94 = true := by decide +kernel
def nH95 : List (Nat × Nat) := [(1, 192), (4, 59), (1, 193), (1, 195), (4, 56), (4, 57), (4, 58), (4, 60), (4, 61), (1, 24), (1, 6), (1, 187)]
set_option maxRecDepth 100000 in
theorem nV95 : kVM (nS nH95) nCl nZ0 nDflt nStrs nNcs nEX nCt nCods nHn nMt 95 = true := by decide +kernel
def nH96 : List (Nat × Nat) := [(6, 227), (6, 36), (6, 228), (6, 229), (6, 225), (6, 226), (6, 37), (6, 38), (1, 10), (5, 130)]
set_option maxRecDepth 100000 in
theorem nV96 : kVM (nS nH96) nCl nZ0 nDflt nStrs nNcs nEX nCt nCods nHn nMt 96 = true := by decide +kernel
def nH97 : List (Nat × Nat) := [(5, 154), (6, 227), (6, 235), (6, 236), (6, 237), (16, 6), (6, 228), (6, 229), (1, 10), (5, 130)]
set_option maxRecDepth 100000 in
theorem nV97 : kVM (nS nH97) nCl nZ0 nDflt nStrs nNcs nEX nCt nCods nHn nMt 97 = true := by decide +kernel
def nH98 : List (Nat × Nat) := [(7, 2), (7, 6), (7, 25), (7, 48), (6, 191), (7, 49), (5, 154), (7, 52), (7, 53), (7, 62), (7, 63), (7, 64), (7, 65), (7, 66), (7, 67), (7, 50), (7, 51), (7, 54), (7, 55), (7, 26), (7, 27), (6, 239), (7, 0), (7, 1), (16, 7), (7, 3), (7, 4), (7, 5), (16, 8), (7, 7), (7, 8), (1, 10), (5, 130)]
set_option maxRecDepth 100000 in
theorem nV98_0 : kL (kE (nS nH98) nCl nZ0 nDflt nStrs nEX nHn nMt 98) 0 nC98_0 = true := by decide +kernel
set_option maxRecDepth 100000 in
theorem nV98_1 : kL (kE (nS nH98) nCl nZ0 nDflt nStrs nEX nHn nMt 98) 200 nC98_1 = true := by decide +kernel
set_option maxRecDepth 100000 in
theorem nV98_L : kL (kE (nS nH98) nCl nZ0 nDflt nStrs nEX nHn nMt 98) 0 (nCods 98) = true := by
  show kL (kE (nS nH98) nCl nZ0 nDflt nStrs nEX nHn nMt 98) 0 (nC98_0 ++ (nC98_1)) = true
  exact kL_two nV98_0 (nV98_1)
set_option maxRecDepth 100000 in
theorem nV98 : kVM (nS nH98) nCl nZ0 nDflt nStrs nNcs nEX nCt nCods nHn nMt 98 = true := by
  unfold kVM
  rw [nV98_L, Bool.true_and]
  decide +kernel
def nH99 : List (Nat × Nat) := [(5, 154), (6, 227), (6, 234), (6, 235), (6, 236), (6, 237), (16, 6), (7, 69), (7, 70), (7, 71), (16, 9), (6, 228), (6, 229), (1, 10), (5, 130)]
set_option maxRecDepth 100000 in
theorem nV99 : kVM (nS nH99) nCl nZ0 nDflt nStrs nNcs nEX nCt nCods nHn nMt 99 = true := by decide +kernel
def nH100 : List (Nat × Nat) := [(7, 2), (7, 76), (5, 164), (6, 204), (5, 165), (5, 166), (7, 77), (7, 78), (7, 79), (16, 11), (6, 205), (6, 206), (6, 207), (16, 0), (7, 3), (7, 4), (7, 5), (16, 8), (7, 73), (7, 74), (7, 75), (16, 10), (1, 10), (5, 130)]
set_option maxRecDepth 100000 in
theorem nV100 : kVM (nS nH100) nCl nZ0 nDflt nStrs nNcs nEX nCt nCods nHn nMt 100 = true := by decide +kernel
def nH101 : List (Nat × Nat) := [(6, 91), (6, 92), (6, 93), (7, 81), (7, 82), (1, 10), (5, 130)]
set_option maxRecDepth 100000 in
theorem nV101 : kVM (nS nH101) nCl nZ0 nDflt nStrs nNcs nEX nCt nCods nHn nMt 101 = true := by decide +kernel
def nH102 : List (Nat × Nat) := [(5, 166), (5, 167), (5, 172), (7, 87), (7, 84), (7, 85), (7, 86), (16, 12), (7, 88), (7, 89), (7, 90), (16, 13), (1, 10), (5, 130)]
set_option maxRecDepth 100000 in
theorem nV102 : kVM (nS nH102) nCl nZ0 nDflt nStrs nNcs nEX nCt nCods nHn nMt 102 = true := by decide +kernel
def nH103 : List (Nat × Nat) := [(7, 96), (5, 158), (7, 100), (5, 156), (7, 108), (6, 204), (7, 125), (5, 157), (7, 80), (5, 159), (6, 51), (6, 61), (6, 91), (7, 133), (6, 62), (6, 63), (6, 52), (6, 53), (7, 134), (7, 135), (7, 136), (17, 7), (6, 205), (6, 206), (6, 207), (16, 0), (7, 97), (7, 98), (7, 99), (16, 15), (7, 93), (7, 94), (7, 95), (16, 14), (7, 81), (7, 82), (7, 126), (7, 127), (7, 128), (17, 5), (7, 109), (7, 110), (7, 111), (17, 2), (6, 92), (6, 93), (7, 101), (7, 102), (7, 103), (17, 0), (1, 10), (5, 130)]
set_option maxRecDepth 100000 in
theorem nV103 : kVM (nS nH103) nCl nZ0 nDflt nStrs nNcs nEX nCt nCods nHn nMt 103 = true := by decide +kernel
def nH104 : List (Nat × Nat) := [(7, 104), (5, 156), (5, 157), (6, 204), (5, 158), (6, 64), (5, 159), (7, 133), (5, 160), (6, 47), (7, 141), (6, 65), (6, 66), (7, 142), (7, 143), (7, 144), (17, 9), (7, 134), (7, 135), (7, 136), (17, 7), (6, 205), (6, 206), (6, 207), (16, 0), (7, 105), (7, 106), (7, 107), (17, 1), (6, 48), (6, 49), (6, 50), (14, 7), (7, 138), (7, 139), (7, 140), (17, 8), (1, 10), (5, 130)]
set_option maxRecDepth 100000 in
theorem nV104 : kVM (nS nH104) nCl nZ0 nDflt nStrs nNcs nEX nCt nCods nHn nMt 104 = true := by decide +kernel
def nH105 : List (Nat × Nat) := [(5, 158), (5, 176), (5, 173), (5, 174), (6, 51), (6, 204), (5, 162), (5, 175), (7, 91), (6, 61), (6, 91), (6, 62), (6, 63), (6, 52), (6, 53), (6, 205), (6, 206), (6, 207), (16, 0), (7, 88), (7, 89), (7, 90), (16, 13), (6, 92), (6, 93), (1, 10), (5, 130)]
set_option maxRecDepth 100000 in
theorem nV105 : kVM (nS nH105) nCl nZ0 nDflt nStrs nNcs nEX nCt nCods nHn nMt 105 = true := by decide +kernel
def nH106 : List (Nat × Nat) := [(4, 113), (1, 100), (1, 101), (1, 102), (4, 114), (4, 117), (1, 103), (1, 104), (1, 85), (4, 118), (1, 91), (1, 99), (3, 202), (3, 203), (4, 115), (4, 116), (3, 137), (3, 138), (4, 110), (4, 111), (4, 112), (12, 5), (3, 148), (3, 149), (1, 3), (1, 78)]
set_option maxRecDepth 100000 in
theorem nV106 : kVM (nS nH106) nCl nZ0 nDflt nStrs nNcs nEX nCt nCods nHn nMt 106 = true := by decide +kernel
def nH107 : List (Nat × Nat) := [(1, 100), (1, 84), (1, 101), (4, 123), (1, 95), (4, 126), (4, 120), (4, 121), (4, 122), (12, 6), (4, 127), (4, 128), (4, 129), (4, 124), (4, 125), (1, 3), (1, 78)]
set_option maxRecDepth 100000 in
theorem nV107 : kVM (nS nH107) nCl nZ0 nDflt nStrs nNcs nEX nCt nCods nHn nMt 107 = true := by decide +kernel
def nH108 : List (Nat × Nat) := [(1, 100), (4, 134), (4, 163), (4, 185), (4, 191), (4, 198), (4, 206), (4, 211), (5, 11), (5, 22), (5, 26), (5, 30), (4, 186), (4, 187), (4, 188), (13, 3), (5, 23), (5, 24), (5, 25), (14, 2), (5, 31), (5, 32), (5, 33), (14, 4), (4, 207), (4, 208), (4, 209), (13, 7), (4, 199), (4, 200), (4, 201), (13, 5), (5, 12), (5, 13), (5, 14), (14, 0), (5, 27), (5, 28), (5, 29), (14, 3), (4, 192), (4, 193), (4, 194), (13, 4), (4, 131), (4, 132), (4, 133), (12, 7), (4, 164), (4, 165), (4, 166), (12, 14), (4, 135), (4, 136), (4, 137), (12, 8), (4, 212), (4, 213), (4, 214), (13, 8), (1, 3), (1, 78)]
set_option maxRecDepth 100000 in
theorem nV108 : kVM (nS nH108) nCl nZ0 nDflt nStrs nNcs nEX nCt nCods nHn nMt 108 = true := by decide +kernel
def nH109 : List (Nat × Nat) := [(6, 75), (6, 47), (6, 78), (5, 139), (5, 136), (6, 82), (6, 94), (6, 112), (5, 137), (6, 116), (6, 119), (6, 95), (6, 96), (6, 97), (14, 12), (6, 79), (6, 80), (6, 81), (14, 11), (6, 76), (6, 77), (6, 120), (6, 121), (6, 122), (15, 1), (6, 113), (6, 114), (6, 115), (15, 0), (6, 48), (6, 49), (6, 50), (14, 7), (6, 117), (6, 118), (6, 72), (6, 73), (6, 74), (14, 10), (6, 83), (6, 84), (1, 10), (5, 130)]
set_option maxRecDepth 100000 in
theorem nV109 : kVM (nS nH109) nCl nZ0 nDflt nStrs nNcs nEX nCt nCods nHn nMt 109 = true := by decide +kernel
def nH110 : List (Nat × Nat) := [(6, 78), (5, 139), (6, 127), (5, 137), (6, 128), (6, 131), (6, 61), (6, 91), (6, 132), (5, 145), (6, 62), (6, 63), (6, 79), (6, 80), (6, 81), (14, 11), (6, 129), (6, 130), (6, 124), (6, 125), (6, 126), (15, 2), (6, 92), (6, 93), (6, 133), (6, 134), (6, 135), (15, 3), (1, 10), (5, 130)]
set_option maxRecDepth 100000 in
theorem nV110 : kVM (nS nH110) nCl nZ0 nDflt nStrs nNcs nEX nCt nCods nHn nMt 110 = true := by decide +kernel
def nH111 : List (Nat × Nat) := [(6, 78), (5, 139), (5, 137), (6, 51), (6, 131), (6, 61), (6, 91), (6, 141), (6, 142), (6, 107), (6, 62), (6, 63), (6, 52), (6, 53), (6, 79), (6, 80), (6, 81), (14, 11), (6, 138), (6, 139), (6, 140), (15, 4), (6, 92), (6, 93), (1, 10), (5, 130)]
set_option maxRecDepth 100000 in
theorem nV111 : kVM (nS nH111) nCl nZ0 nDflt nStrs nNcs nEX nCt nCods nHn nMt 111 = true := by decide +kernel
def nH112 : List (Nat × Nat) := [(5, 137), (6, 64), (6, 147), (5, 136), (6, 98), (6, 148), (6, 149), (6, 150), (15, 6), (6, 65), (6, 66), (6, 99), (6, 100), (6, 101), (14, 13), (6, 144), (6, 145), (6, 146), (15, 5), (1, 10), (5, 130)]
set_option maxRecDepth 100000 in
theorem nV112 : kVM (nS nH112) nCl nZ0 nDflt nStrs nNcs nEX nCt nCods nHn nMt 112 = true := by decide +kernel
def nH113 : List (Nat × Nat) := [(5, 139), (6, 79), (6, 80), (6, 81), (14, 11), (1, 10), (5, 130)]
set_option maxRecDepth 100000 in
theorem nV113 : kVM (nS nH113) nCl nZ0 nDflt nStrs nNcs nEX nCt nCods nHn nMt 113 = true := by decide +kernel
def nH114 : List (Nat × Nat) := [(6, 47), (6, 78), (5, 139), (5, 137), (5, 141), (6, 91), (5, 142), (6, 152), (6, 153), (6, 154), (15, 7), (6, 48), (6, 49), (6, 50), (14, 7), (6, 92), (6, 93), (6, 79), (6, 80), (6, 81), (14, 11), (1, 10), (5, 130)]
set_option maxRecDepth 100000 in
theorem nV114 : kVM (nS nH114) nCl nZ0 nDflt nStrs nNcs nEX nCt nCods nHn nMt 114 = true := by decide +kernel
def nH115 : List (Nat × Nat) := [(6, 54), (6, 78), (5, 139), (6, 159), (6, 163), (6, 167), (5, 152), (5, 143), (6, 79), (6, 80), (6, 81), (14, 11), (6, 164), (6, 165), (6, 166), (15, 10), (6, 55), (6, 56), (6, 156), (6, 157), (6, 158), (15, 8), (6, 160), (6, 161), (6, 162), (15, 9), (6, 168), (6, 169), (6, 170), (15, 11), (1, 10), (5, 130)]
set_option maxRecDepth 100000 in
theorem nV115 : kVM (nS nH115) nCl nZ0 nDflt nStrs nNcs nEX nCt nCods nHn nMt 115 = true := by decide +kernel
def nH116 : List (Nat × Nat) := [(6, 78), (5, 139), (5, 138), (5, 140), (6, 151), (6, 152), (6, 153), (6, 154), (15, 7), (6, 79), (6, 80), (6, 81), (14, 11), (6, 172), (6, 173), (6, 174), (15, 12), (1, 10), (5, 130)]
set_option maxRecDepth 100000 in
theorem nV116 : kVM (nS nH116) nCl nZ0 nDflt nStrs nNcs nEX nCt nCods nHn nMt 116 = true := by decide +kernel
def nH117 : List (Nat × Nat) := [(6, 78), (5, 139), (5, 137), (6, 64), (6, 179), (6, 151), (6, 98), (6, 91), (6, 112), (6, 65), (6, 66), (6, 79), (6, 80), (6, 81), (14, 11), (6, 113), (6, 114), (6, 115), (15, 0), (6, 152), (6, 153), (6, 154), (15, 7), (6, 180), (6, 181), (6, 182), (15, 14), (6, 176), (6, 177), (6, 178), (15, 13), (6, 99), (6, 100), (6, 101), (14, 13), (6, 92), (6, 93), (1, 10), (5, 130)]
set_option maxRecDepth 100000 in
theorem nV117 : kVM (nS nH117) nCl nZ0 nDflt nStrs nNcs nEX nCt nCods nHn nMt 117 = true := by decide +kernel
def nH118 : List (Nat × Nat) := [(1, 146), (1, 151), (1, 150), (1, 142), (2, 211), (2, 212), (2, 213), (1, 4), (1, 137)]
set_option maxRecDepth 100000 in
theorem nV118 : kVM (nS nH118) nCl nZ0 nDflt nStrs nNcs nEX nCt nCods nHn nMt 118 = true := by decide +kernel
def nH119 : List (Nat × Nat) := [(1, 146), (1, 151), (2, 215), (2, 216), (2, 217), (1, 4), (1, 137)]
set_option maxRecDepth 100000 in
theorem nV119 : kVM (nS nH119) nCl nZ0 nDflt nStrs nNcs nEX nCt nCods nHn nMt 119 = true := by decide +kernel
end
section
/-! THE METHODS HOLD -/
def nH120 : List (Nat × Nat) := [(1, 153), (1, 154), (1, 155), (1, 156), (1, 146), (1, 151), (1, 142), (2, 219), (2, 220), (2, 221), (1, 4), (1, 137)]
set_option maxRecDepth 100000 in
theorem nV120 : kVM (nS nH120) nCl nZ0 nDflt nStrs nNcs nEX nCt nCods nHn nMt 120 = true := by decide +kernel
def nH121 : List (Nat × Nat) := [(1, 155), (1, 154), (1, 153), (2, 223), (2, 224), (2, 225), (1, 4), (1, 137)]
set_option maxRecDepth 100000 in
theorem nV121 : kVM (nS nH121) nCl nZ0 nDflt nStrs nNcs nEX nCt nCods nHn nMt 121 = true := by decide +kernel
def nH122 : List (Nat × Nat) := [(1, 153), (2, 83), (2, 230), (2, 231), (2, 232), (1, 4), (1, 137)]
set_option maxRecDepth 100000 in
theorem nV122 : kVM (nS nH122) nCl nZ0 nDflt nStrs nNcs nEX nCt nCods nHn nMt 122 = true := by decide +kernel
def nH123 : List (Nat × Nat) := [(1, 231), (1, 230), (1, 152), (2, 237), (2, 226), (3, 1), (2, 228), (2, 234), (2, 235), (2, 236), (11, 2), (2, 238), (2, 239), (3, 0), (2, 131), (2, 132), (1, 14), (2, 88), (1, 5), (1, 181)]
set_option maxRecDepth 100000 in
theorem nV123 : kVM (nS nH123) nCl nZ0 nDflt nStrs nNcs nEX nCt nCods nHn nMt 123 = true := by decide +kernel
def nH124 : List (Nat × Nat) := [(1, 146), (1, 150), (1, 142), (3, 8), (3, 9), (3, 10), (1, 4), (1, 137)]
set_option maxRecDepth 100000 in
theorem nV124 : kVM (nS nH124) nCl nZ0 nDflt nStrs nNcs nEX nCt nCods nHn nMt 124 = true := by decide +kernel
def nH125 : List (Nat × Nat) := [(7, 183), (3, 17), (3, 27), (3, 65), (3, 66), (3, 67), (7, 186), (3, 14), (3, 15), (3, 16), (3, 68), (3, 69), (3, 70), (3, 18), (3, 19), (3, 20), (3, 28), (3, 29), (3, 30), (1, 9)]
set_option maxRecDepth 100000 in
theorem nV125 : kVM (nS nH125) nCl nZ0 nDflt nStrs nNcs nEX nCt nCods nHn nMt 125 = true := by decide +kernel
def nH126 : List (Nat × Nat) := [(2, 9), (1, 230), (3, 176), (3, 180), (3, 184), (3, 223), (1, 147), (2, 218), (3, 228), (3, 188), (3, 232), (3, 233), (2, 226), (3, 150), (2, 228), (3, 136), (3, 189), (3, 190), (3, 191), (11, 10), (3, 181), (3, 182), (3, 183), (3, 229), (3, 230), (3, 231), (11, 13), (3, 185), (3, 186), (3, 187), (11, 9), (3, 177), (3, 178), (3, 179), (3, 137), (3, 138), (2, 219), (2, 220), (2, 221), (3, 173), (3, 174), (3, 175), (11, 8), (2, 131), (2, 132), (3, 224), (3, 225), (3, 226), (11, 12), (1, 14), (2, 88), (1, 5), (1, 181)]
set_option maxRecDepth 100000 in
theorem nV126 : kVM (nS nH126) nCl nZ0 nDflt nStrs nNcs nEX nCt nCods nHn nMt 126 = true := by decide +kernel
def nH127 : List (Nat × Nat) := [(1, 146), (1, 151), (1, 142), (3, 181), (3, 182), (3, 183), (1, 4), (1, 137)]
set_option maxRecDepth 100000 in
theorem nV127 : kVM (nS nH127) nCl nZ0 nDflt nStrs nNcs nEX nCt nCods nHn nMt 127 = true := by decide +kernel
def nH128 : List (Nat × Nat) := [(3, 188), (2, 226), (3, 238), (2, 228), (2, 131), (2, 132), (3, 235), (3, 236), (3, 237), (11, 14), (3, 189), (3, 190), (3, 191), (11, 10), (1, 14), (2, 88), (1, 5), (1, 181)]
set_option maxRecDepth 100000 in
theorem nV128 : kVM (nS nH128) nCl nZ0 nDflt nStrs nNcs nEX nCt nCods nHn nMt 128 = true := by decide +kernel
def nH129 : List (Nat × Nat) := [(7, 186), (4, 0), (4, 1), (4, 2), (1, 9)]
set_option maxRecDepth 100000 in
theorem nV129 : kVM (nS nH129) nCl nZ0 nDflt nStrs nNcs nEX nCt nCods nHn nMt 129 = true := by decide +kernel
def nH130 : List (Nat × Nat) := [(3, 162), (3, 163), (1, 23)]
set_option maxRecDepth 100000 in
theorem nV130 : kVM (nS nH130) nCl nZ0 nDflt nStrs nNcs nEX nCt nCods nHn nMt 130 = true := by decide +kernel
def nH131 : List (Nat × Nat) := [(3, 154), (3, 157), (3, 158), (3, 161), (3, 155), (3, 156), (3, 162), (3, 163), (3, 159), (3, 160), (3, 152), (3, 153), (3, 148), (3, 149), (1, 23)]
set_option maxRecDepth 100000 in
theorem nV131 : kVM (nS nH131) nCl nZ0 nDflt nStrs nNcs nEX nCt nCods nHn nMt 131 = true := by decide +kernel
def nH132 : List (Nat × Nat) := [(1, 239), (4, 10), (2, 226), (4, 13), (2, 228), (1, 235), (4, 7), (4, 8), (4, 9), (11, 15), (4, 11), (4, 12), (2, 131), (2, 132), (1, 14), (2, 88), (1, 5), (1, 181)]
set_option maxRecDepth 100000 in
theorem nV132 : kVM (nS nH132) nCl nZ0 nDflt nStrs nNcs nEX nCt nCods nHn nMt 132 = true := by decide +kernel
def nH133 : List (Nat × Nat) := [(1, 217), (1, 211), (1, 213), (1, 215), (4, 15), (4, 16), (4, 17), (1, 7), (1, 206)]
set_option maxRecDepth 100000 in
theorem nV133 : kVM (nS nH133) nCl nZ0 nDflt nStrs nNcs nEX nCt nCods nHn nMt 133 = true := by decide +kernel
def nH134 : List (Nat × Nat) := [(3, 188), (3, 136), (3, 216), (1, 230), (3, 180), (3, 217), (2, 226), (3, 222), (2, 228), (3, 151), (3, 189), (3, 190), (3, 191), (11, 10), (3, 181), (3, 182), (3, 183), (3, 185), (3, 186), (3, 187), (11, 9), (3, 137), (3, 138), (3, 152), (3, 153), (2, 131), (2, 132), (3, 218), (3, 219), (1, 14), (2, 88), (1, 5), (1, 181)]
set_option maxRecDepth 100000 in
theorem nV134 : kVM (nS nH134) nCl nZ0 nDflt nStrs nNcs nEX nCt nCods nHn nMt 134 = true := by decide +kernel
def nH135 : List (Nat × Nat) := [(2, 4), (2, 5), (3, 139), (4, 25), (4, 26), (4, 27), (12, 1), (3, 140), (3, 141), (3, 142), (11, 5), (1, 5), (1, 181)]
set_option maxRecDepth 100000 in
theorem nV135 : kVM (nS nH135) nCl nZ0 nDflt nStrs nNcs nEX nCt nCods nHn nMt 135 = true := by decide +kernel
def nH136 : List (Nat × Nat) := [(3, 202), (3, 203), (1, 23)]
set_option maxRecDepth 100000 in
theorem nV136 : kVM (nS nH136) nCl nZ0 nDflt nStrs nNcs nEX nCt nCods nHn nMt 136 = true := by decide +kernel
def nH137 : List (Nat × Nat) := [(3, 201), (2, 0), (4, 10), (2, 226), (4, 36), (2, 228), (2, 1), (3, 202), (3, 203), (4, 11), (4, 12), (4, 33), (4, 34), (4, 35), (12, 2), (2, 131), (2, 132), (1, 14), (2, 88), (1, 5), (1, 181)]
set_option maxRecDepth 100000 in
theorem nV137 : kVM (nS nH137) nCl nZ0 nDflt nStrs nNcs nEX nCt nCods nHn nMt 137 = true := by decide +kernel
def nH138 : List (Nat × Nat) := [(3, 148), (3, 149), (1, 23)]
set_option maxRecDepth 100000 in
theorem nV138 : kVM (nS nH138) nCl nZ0 nDflt nStrs nNcs nEX nCt nCods nHn nMt 138 = true := by decide +kernel
def nH139 : List (Nat × Nat) := [(6, 36), (6, 228), (6, 229), (6, 37), (6, 38), (1, 10), (5, 130)]
set_option maxRecDepth 100000 in
theorem nV139 : kVM (nS nH139) nCl nZ0 nDflt nStrs nNcs nEX nCt nCods nHn nMt 139 = true := by decide +kernel
def nH140 : List (Nat × Nat) := [(5, 154), (7, 3), (7, 4), (7, 5), (16, 8), (1, 10), (5, 130)]
set_option maxRecDepth 100000 in
theorem nV140 : kVM (nS nH140) nCl nZ0 nDflt nStrs nNcs nEX nCt nCods nHn nMt 140 = true := by decide +kernel
def nH141 : List (Nat × Nat) := [(7, 9), (7, 10), (7, 11), (7, 12), (7, 13), (7, 14), (7, 15), (7, 16), (7, 17), (7, 18), (7, 19), (7, 20), (7, 21), (7, 22), (7, 23), (7, 24), (7, 7), (7, 8), (1, 10), (5, 130)]
set_option maxRecDepth 100000 in
theorem nV141 : kVM (nS nH141) nCl nZ0 nDflt nStrs nNcs nEX nCt nCods nHn nMt 141 = true := by decide +kernel
def nH142 : List (Nat × Nat) := [(7, 28), (7, 29), (7, 30), (7, 31), (7, 32), (7, 33), (7, 34), (7, 35), (7, 36), (7, 37), (7, 38), (7, 39), (7, 40), (7, 41), (7, 42), (7, 43), (7, 44), (7, 45), (7, 46), (7, 47), (7, 26), (7, 27), (1, 10), (5, 130)]
set_option maxRecDepth 100000 in
theorem nV142 : kVM (nS nH142) nCl nZ0 nDflt nStrs nNcs nEX nCt nCods nHn nMt 142 = true := by decide +kernel
def nH143 : List (Nat × Nat) := [(6, 36), (7, 50), (7, 51), (6, 37), (6, 38), (1, 10), (5, 130)]
set_option maxRecDepth 100000 in
theorem nV143 : kVM (nS nH143) nCl nZ0 nDflt nStrs nNcs nEX nCt nCods nHn nMt 143 = true := by decide +kernel
def nH144 : List (Nat × Nat) := [(7, 56), (7, 57), (7, 58), (7, 59), (7, 60), (7, 61), (7, 54), (7, 55), (1, 10), (5, 130)]
set_option maxRecDepth 100000 in
theorem nV144 : kVM (nS nH144) nCl nZ0 nDflt nStrs nNcs nEX nCt nCods nHn nMt 144 = true := by decide +kernel
def nH145 : List (Nat × Nat) := [(5, 164), (5, 165), (7, 77), (7, 78), (7, 79), (16, 11), (1, 10), (5, 130)]
set_option maxRecDepth 100000 in
theorem nV145 : kVM (nS nH145) nCl nZ0 nDflt nStrs nNcs nEX nCt nCods nHn nMt 145 = true := by decide +kernel
def nH146 : List (Nat × Nat) := [(6, 92), (6, 93), (1, 10), (5, 130)]
set_option maxRecDepth 100000 in
theorem nV146 : kVM (nS nH146) nCl nZ0 nDflt nStrs nNcs nEX nCt nCods nHn nMt 146 = true := by decide +kernel
def nH147 : List (Nat × Nat) := [(7, 100), (5, 156), (7, 104), (7, 125), (5, 158), (5, 168), (6, 204), (5, 169), (7, 129), (6, 220), (5, 157), (5, 154), (6, 234), (7, 68), (7, 2), (7, 76), (5, 166), (7, 72), (7, 108), (7, 77), (7, 78), (7, 79), (16, 11), (7, 97), (7, 98), (7, 99), (16, 15), (6, 205), (6, 206), (6, 207), (16, 0), (7, 105), (7, 106), (7, 107), (17, 1), (7, 130), (7, 131), (7, 132), (17, 6), (6, 235), (6, 236), (6, 237), (16, 6), (7, 69), (7, 70), (7, 71), (16, 9), (7, 3), (7, 4), (7, 5), (16, 8), (7, 73), (7, 74), (7, 75), (16, 10), (7, 126), (7, 127), (7, 128), (17, 5), (6, 221), (6, 222), (6, 223), (16, 4), (7, 109), (7, 110), (7, 111), (17, 2), (7, 101), (7, 102), (7, 103), (17, 0), (1, 10), (5, 130)]
set_option maxRecDepth 100000 in
theorem nV147_0 : kL (kE (nS nH147) nCl nZ0 nDflt nStrs nEX nHn nMt 147) 0 nC147_0 = true := by decide +kernel
set_option maxRecDepth 100000 in
theorem nV147_1 : kL (kE (nS nH147) nCl nZ0 nDflt nStrs nEX nHn nMt 147) 200 nC147_1 = true := by decide +kernel
set_option maxRecDepth 100000 in
theorem nV147_L : kL (kE (nS nH147) nCl nZ0 nDflt nStrs nEX nHn nMt 147) 0 (nCods 147) = true := by
  show kL (kE (nS nH147) nCl nZ0 nDflt nStrs nEX nHn nMt 147) 0 (nC147_0 ++ (nC147_1)) = true
  exact kL_two nV147_0 (nV147_1)
set_option maxRecDepth 100000 in
theorem nV147 : kVM (nS nH147) nCl nZ0 nDflt nStrs nNcs nEX nCt nCods nHn nMt 147 = true := by
  unfold kVM
  rw [nV147_L, Bool.true_and]
  decide +kernel
def nH148 : List (Nat × Nat) := [(5, 156), (5, 157), (5, 154), (7, 101), (7, 102), (7, 103), (17, 0), (1, 10), (5, 130)]
set_option maxRecDepth 100000 in
theorem nV148 : kVM (nS nH148) nCl nZ0 nDflt nStrs nNcs nEX nCt nCods nHn nMt 148 = true := by decide +kernel
def nH149 : List (Nat × Nat) := [(7, 100), (5, 156), (7, 112), (5, 158), (7, 121), (6, 204), (7, 124), (7, 116), (7, 117), (7, 118), (7, 119), (17, 4), (7, 122), (7, 123), (6, 205), (6, 206), (6, 207), (16, 0), (7, 113), (7, 114), (7, 115), (17, 3), (7, 109), (7, 110), (7, 111), (17, 2), (7, 101), (7, 102), (7, 103), (17, 0), (1, 10), (5, 130)]
set_option maxRecDepth 100000 in
theorem nV149 : kVM (nS nH149) nCl nZ0 nDflt nStrs nNcs nEX nCt nCods nHn nMt 149 = true := by decide +kernel
def nH150 : List (Nat × Nat) := [(7, 100), (6, 204), (5, 156), (7, 126), (7, 127), (7, 128), (17, 5), (6, 205), (6, 206), (6, 207), (16, 0), (7, 101), (7, 102), (7, 103), (17, 0), (1, 10), (5, 130)]
set_option maxRecDepth 100000 in
theorem nV150 : kVM (nS nH150) nCl nZ0 nDflt nStrs nNcs nEX nCt nCods nHn nMt 150 = true := by decide +kernel
def nH151 : List (Nat × Nat) := [(6, 47), (6, 204), (5, 162), (5, 163), (6, 205), (6, 206), (6, 207), (16, 0), (7, 134), (7, 135), (7, 136), (17, 7), (6, 48), (6, 49), (6, 50), (14, 7), (1, 10), (5, 130)]
set_option maxRecDepth 100000 in
theorem nV151 : kVM (nS nH151) nCl nZ0 nDflt nStrs nNcs nEX nCt nCods nHn nMt 151 = true := by decide +kernel
def nH152 : List (Nat × Nat) := [(5, 158), (7, 108), (7, 100), (5, 156), (7, 125), (6, 75), (6, 204), (7, 80), (6, 116), (6, 76), (6, 77), (6, 205), (6, 206), (6, 207), (16, 0), (7, 105), (7, 106), (7, 107), (17, 1), (6, 117), (6, 118), (7, 81), (7, 82), (7, 126), (7, 127), (7, 128), (17, 5), (7, 109), (7, 110), (7, 111), (17, 2), (7, 101), (7, 102), (7, 103), (17, 0), (1, 10), (5, 130)]
set_option maxRecDepth 100000 in
theorem nV152 : kVM (nS nH152) nCl nZ0 nDflt nStrs nNcs nEX nCt nCods nHn nMt 152 = true := by decide +kernel
def nH153 : List (Nat × Nat) := [(5, 164), (5, 158), (5, 166), (5, 159), (7, 80), (7, 83), (7, 133), (5, 168), (5, 172), (7, 87), (5, 169), (5, 176), (5, 161), (7, 142), (7, 143), (7, 144), (17, 9), (7, 134), (7, 135), (7, 136), (17, 7), (7, 84), (7, 85), (7, 86), (16, 12), (7, 88), (7, 89), (7, 90), (16, 13), (7, 81), (7, 82), (1, 10), (5, 130)]
set_option maxRecDepth 100000 in
theorem nV153 : kVM (nS nH153) nCl nZ0 nDflt nStrs nNcs nEX nCt nCods nHn nMt 153 = true := by decide +kernel
def nH154 : List (Nat × Nat) := [(3, 157), (3, 154), (3, 158), (3, 161), (3, 155), (3, 156), (3, 162), (3, 163), (4, 115), (4, 116), (3, 159), (3, 160), (3, 148), (3, 149), (1, 23)]
set_option maxRecDepth 100000 in
theorem nV154 : kVM (nS nH154) nCl nZ0 nDflt nStrs nNcs nEX nCt nCods nHn nMt 154 = true := by decide +kernel
def nH155 : List (Nat × Nat) := [(4, 124), (4, 125), (1, 2), (1, 37)]
set_option maxRecDepth 100000 in
theorem nV155 : kVM (nS nH155) nCl nZ0 nDflt nStrs nNcs nEX nCt nCods nHn nMt 155 = true := by decide +kernel
def nH156 : List (Nat × Nat) := [(1, 49), (4, 127), (4, 128), (4, 129), (1, 2), (1, 37)]
set_option maxRecDepth 100000 in
theorem nV156 : kVM (nS nH156) nCl nZ0 nDflt nStrs nNcs nEX nCt nCods nHn nMt 156 = true := by decide +kernel
def nH157 : List (Nat × Nat) := [(4, 138), (1, 83), (1, 103), (1, 101), (4, 114), (1, 100), (4, 117), (4, 143), (4, 150), (4, 155), (3, 202), (3, 203), (4, 115), (4, 116), (4, 156), (4, 157), (4, 158), (12, 12), (4, 151), (4, 152), (4, 153), (12, 11), (4, 144), (4, 145), (4, 146), (12, 10), (4, 139), (4, 140), (4, 141), (12, 9), (4, 135), (4, 136), (4, 137), (12, 8), (1, 3), (1, 78)]
set_option maxRecDepth 100000 in
theorem nV157 : kVM (nS nH157) nCl nZ0 nDflt nStrs nNcs nEX nCt nCods nHn nMt 157 = true := by decide +kernel
def nH158 : List (Nat × Nat) := [(1, 101), (4, 167), (4, 177), (1, 93), (4, 178), (4, 179), (4, 180), (13, 1), (4, 164), (4, 165), (4, 166), (12, 14), (4, 168), (4, 169), (4, 170), (12, 15), (1, 3), (1, 78)]
set_option maxRecDepth 100000 in
theorem nV158 : kVM (nS nH158) nCl nZ0 nDflt nStrs nNcs nEX nCt nCods nHn nMt 158 = true := by decide +kernel
def nH159 : List (Nat × Nat) := [(1, 103), (1, 101), (4, 189), (1, 85), (4, 113), (4, 159), (4, 154), (4, 173), (4, 190), (4, 181), (4, 186), (4, 187), (4, 188), (13, 3), (3, 86), (3, 87), (4, 182), (4, 183), (4, 184), (13, 2), (4, 174), (4, 175), (4, 176), (13, 0), (3, 148), (3, 149), (4, 160), (4, 161), (4, 162), (12, 13), (1, 3), (1, 78), (1, 21)]
set_option maxRecDepth 100000 in
theorem nV159 : kVM (nS nH159) nCl nZ0 nDflt nStrs nNcs nEX nCt nCods nHn nMt 159 = true := by decide +kernel
def nH160 : List (Nat × Nat) := [(1, 101), (1, 85), (4, 117), (1, 103), (4, 195), (1, 83), (4, 143), (3, 202), (3, 203), (4, 144), (4, 145), (4, 146), (12, 10), (4, 196), (4, 197), (4, 192), (4, 193), (4, 194), (13, 4), (1, 3), (1, 78)]
set_option maxRecDepth 100000 in
theorem nV160 : kVM (nS nH160) nCl nZ0 nDflt nStrs nNcs nEX nCt nCods nHn nMt 160 = true := by decide +kernel
def nH161 : List (Nat × Nat) := [(4, 138), (1, 83), (1, 103), (1, 101), (4, 114), (1, 100), (4, 202), (4, 203), (4, 204), (4, 205), (13, 6), (4, 199), (4, 200), (4, 201), (13, 5), (4, 115), (4, 116), (4, 139), (4, 140), (4, 141), (12, 9), (1, 3), (1, 78)]
set_option maxRecDepth 100000 in
theorem nV161 : kVM (nS nH161) nCl nZ0 nDflt nStrs nNcs nEX nCt nCods nHn nMt 161 = true := by decide +kernel
def nH162 : List (Nat × Nat) := [(4, 138), (1, 100), (1, 83), (1, 103), (1, 101), (1, 85), (4, 210), (4, 207), (4, 208), (4, 209), (13, 7), (3, 152), (3, 153), (4, 139), (4, 140), (4, 141), (12, 9), (1, 3), (1, 78)]
set_option maxRecDepth 100000 in
theorem nV162 : kVM (nS nH162) nCl nZ0 nDflt nStrs nNcs nEX nCt nCods nHn nMt 162 = true := by decide +kernel
def nH163 : List (Nat × Nat) := [(1, 101), (4, 123), (1, 100), (1, 84), (1, 103), (1, 95), (4, 215), (4, 126), (5, 3), (4, 216), (4, 217), (4, 218), (4, 127), (4, 128), (4, 129), (5, 4), (5, 5), (5, 6), (13, 14), (4, 124), (4, 125), (4, 212), (4, 213), (4, 214), (13, 8), (1, 3), (1, 78)]
set_option maxRecDepth 100000 in
theorem nV163 : kVM (nS nH163) nCl nZ0 nDflt nStrs nNcs nEX nCt nCods nHn nMt 163 = true := by decide +kernel
def nH164 : List (Nat × Nat) := [(1, 101), (5, 3), (5, 7), (5, 15), (1, 90), (5, 19), (5, 8), (5, 9), (5, 10), (13, 15), (5, 20), (5, 21), (5, 12), (5, 13), (5, 14), (14, 0), (5, 16), (5, 17), (5, 18), (14, 1), (5, 4), (5, 5), (5, 6), (13, 14), (1, 3), (1, 78)]
set_option maxRecDepth 100000 in
theorem nV164 : kVM (nS nH164) nCl nZ0 nDflt nStrs nNcs nEX nCt nCods nHn nMt 164 = true := by decide +kernel
def nH165 : List (Nat × Nat) := [(1, 101), (1, 85), (1, 100), (4, 117), (5, 19), (5, 3), (3, 202), (3, 203), (5, 23), (5, 24), (5, 25), (14, 2), (5, 20), (5, 21), (5, 4), (5, 5), (5, 6), (13, 14), (1, 3), (1, 78)]
set_option maxRecDepth 100000 in
theorem nV165 : kVM (nS nH165) nCl nZ0 nDflt nStrs nNcs nEX nCt nCods nHn nMt 165 = true := by decide +kernel
def nH166 : List (Nat × Nat) := [(1, 100), (1, 101), (1, 103), (4, 143), (1, 104), (4, 202), (4, 203), (4, 204), (4, 205), (13, 6), (5, 27), (5, 28), (5, 29), (14, 3), (4, 144), (4, 145), (4, 146), (12, 10), (1, 3), (1, 78)]
set_option maxRecDepth 100000 in
theorem nV166 : kVM (nS nH166) nCl nZ0 nDflt nStrs nNcs nEX nCt nCods nHn nMt 166 = true := by decide +kernel
def nH167 : List (Nat × Nat) := [(4, 138), (1, 85), (1, 100), (1, 101), (4, 114), (4, 117), (1, 83), (1, 103), (5, 34), (1, 90), (5, 31), (5, 32), (5, 33), (14, 4), (3, 202), (3, 203), (4, 115), (4, 116), (4, 139), (4, 140), (4, 141), (12, 9), (5, 35), (5, 36), (1, 3), (1, 78)]
set_option maxRecDepth 100000 in
theorem nV167 : kVM (nS nH167) nCl nZ0 nDflt nStrs nNcs nEX nCt nCods nHn nMt 167 = true := by decide +kernel
def nH168 : List (Nat × Nat) := [(6, 76), (6, 77), (1, 10), (5, 130)]
set_option maxRecDepth 100000 in
theorem nV168 : kVM (nS nH168) nCl nZ0 nDflt nStrs nNcs nEX nCt nCods nHn nMt 168 = true := by decide +kernel
def nH169 : List (Nat × Nat) := [(6, 51), (6, 85), (6, 61), (6, 91), (6, 62), (6, 63), (6, 52), (6, 53), (6, 86), (6, 87), (6, 92), (6, 93), (6, 83), (6, 84), (1, 10), (5, 130)]
set_option maxRecDepth 100000 in
theorem nV169 : kVM (nS nH169) nCl nZ0 nDflt nStrs nNcs nEX nCt nCods nHn nMt 169 = true := by decide +kernel
def nH170 : List (Nat × Nat) := [(6, 64), (6, 98), (6, 103), (6, 108), (6, 95), (6, 96), (6, 97), (14, 12), (6, 104), (6, 105), (6, 106), (14, 14), (6, 65), (6, 66), (6, 109), (6, 110), (6, 111), (14, 15), (6, 99), (6, 100), (6, 101), (14, 13), (1, 10), (5, 130)]
set_option maxRecDepth 100000 in
theorem nV170 : kVM (nS nH170) nCl nZ0 nDflt nStrs nNcs nEX nCt nCods nHn nMt 170 = true := by decide +kernel
def nH171 : List (Nat × Nat) := [(5, 137), (6, 51), (6, 61), (6, 91), (6, 62), (6, 63), (6, 113), (6, 114), (6, 115), (15, 0), (6, 52), (6, 53), (6, 92), (6, 93), (1, 10), (5, 130)]
set_option maxRecDepth 100000 in
theorem nV171 : kVM (nS nH171) nCl nZ0 nDflt nStrs nNcs nEX nCt nCods nHn nMt 171 = true := by decide +kernel
def nH172 : List (Nat × Nat) := [(6, 51), (6, 85), (6, 61), (6, 91), (6, 62), (6, 63), (6, 52), (6, 53), (6, 86), (6, 87), (6, 117), (6, 118), (6, 92), (6, 93), (1, 10), (5, 130)]
set_option maxRecDepth 100000 in
theorem nV172 : kVM (nS nH172) nCl nZ0 nDflt nStrs nNcs nEX nCt nCods nHn nMt 172 = true := by decide +kernel
def nH173 : List (Nat × Nat) := [(5, 137), (6, 82), (6, 64), (5, 140), (6, 65), (6, 66), (6, 120), (6, 121), (6, 122), (15, 1), (6, 83), (6, 84), (1, 10), (5, 130)]
set_option maxRecDepth 100000 in
theorem nV173 : kVM (nS nH173) nCl nZ0 nDflt nStrs nNcs nEX nCt nCods nHn nMt 173 = true := by decide +kernel
def nH174 : List (Nat × Nat) := [(6, 51), (6, 52), (6, 53), (6, 129), (6, 130), (1, 10), (5, 130)]
set_option maxRecDepth 100000 in
theorem nV174 : kVM (nS nH174) nCl nZ0 nDflt nStrs nNcs nEX nCt nCods nHn nMt 174 = true := by decide +kernel
def nH175 : List (Nat × Nat) := [(5, 137), (6, 51), (6, 127), (6, 136), (6, 61), (6, 91), (6, 107), (6, 62), (6, 63), (6, 52), (6, 53), (6, 92), (6, 93), (6, 133), (6, 134), (6, 135), (15, 3), (1, 10), (5, 130)]
set_option maxRecDepth 100000 in
theorem nV175 : kVM (nS nH175) nCl nZ0 nDflt nStrs nNcs nEX nCt nCods nHn nMt 175 = true := by decide +kernel
def nH176 : List (Nat × Nat) := [(6, 47), (5, 139), (6, 148), (6, 149), (6, 150), (15, 6), (6, 48), (6, 49), (6, 50), (14, 7), (1, 10), (5, 130)]
set_option maxRecDepth 100000 in
theorem nV176 : kVM (nS nH176) nCl nZ0 nDflt nStrs nNcs nEX nCt nCods nHn nMt 176 = true := by decide +kernel
def nH177 : List (Nat × Nat) := [(6, 102), (5, 137), (6, 64), (5, 138), (6, 61), (6, 91), (6, 62), (6, 63), (6, 65), (6, 66), (6, 99), (6, 100), (6, 101), (14, 13), (6, 92), (6, 93), (1, 10), (5, 130)]
set_option maxRecDepth 100000 in
theorem nV177 : kVM (nS nH177) nCl nZ0 nDflt nStrs nNcs nEX nCt nCods nHn nMt 177 = true := by decide +kernel
def nH178 : List (Nat × Nat) := [(6, 78), (5, 139), (5, 147), (6, 160), (6, 161), (6, 162), (15, 9), (6, 79), (6, 80), (6, 81), (14, 11), (1, 10), (5, 130)]
set_option maxRecDepth 100000 in
theorem nV178 : kVM (nS nH178) nCl nZ0 nDflt nStrs nNcs nEX nCt nCods nHn nMt 178 = true := by decide +kernel
def nH179 : List (Nat × Nat) := [(5, 147), (5, 148), (6, 78), (6, 147), (5, 139), (5, 136), (5, 146), (5, 149), (6, 148), (6, 149), (6, 150), (15, 6), (6, 79), (6, 80), (6, 81), (14, 11), (6, 164), (6, 165), (6, 166), (15, 10), (1, 10), (5, 130)]
set_option maxRecDepth 100000 in
theorem nV179 : kVM (nS nH179) nCl nZ0 nDflt nStrs nNcs nEX nCt nCods nHn nMt 179 = true := by decide +kernel
end
section
/-! THE METHODS HOLD -/
def nH180 : List (Nat × Nat) := [(5, 147), (6, 78), (6, 147), (5, 139), (5, 146), (5, 136), (5, 151), (5, 150), (6, 148), (6, 149), (6, 150), (15, 6), (6, 168), (6, 169), (6, 170), (15, 11), (6, 79), (6, 80), (6, 81), (14, 11), (1, 10), (5, 130)]
set_option maxRecDepth 100000 in
theorem nV180 : kVM (nS nH180) nCl nZ0 nDflt nStrs nNcs nEX nCt nCods nHn nMt 180 = true := by decide +kernel
def nH181 : List (Nat × Nat) := [(6, 180), (6, 181), (6, 182), (15, 14), (1, 10), (5, 130)]
set_option maxRecDepth 100000 in
theorem nV181 : kVM (nS nH181) nCl nZ0 nDflt nStrs nNcs nEX nCt nCods nHn nMt 181 = true := by decide +kernel
def nH182 : List (Nat × Nat) := [(1, 195), (1, 192), (1, 193), (2, 238), (2, 239), (3, 0), (1, 6), (1, 187)]
set_option maxRecDepth 100000 in
theorem nV182 : kVM (nS nH182) nCl nZ0 nDflt nStrs nNcs nEX nCt nCods nHn nMt 182 = true := by decide +kernel
def nH183 : List (Nat × Nat) := [(7, 184), (3, 21), (3, 18), (3, 19), (3, 20), (3, 22), (3, 23), (3, 24), (1, 17)]
set_option maxRecDepth 100000 in
theorem nV183 : kVM (nS nH183) nCl nZ0 nDflt nStrs nNcs nEX nCt nCods nHn nMt 183 = true := by decide +kernel
def nH184 : List (Nat × Nat) := [(3, 31), (7, 184), (3, 35), (3, 46), (3, 32), (3, 33), (3, 34), (3, 36), (3, 37), (3, 28), (3, 29), (3, 30), (3, 47), (3, 48), (1, 17)]
set_option maxRecDepth 100000 in
theorem nV184 : kVM (nS nH184) nCl nZ0 nDflt nStrs nNcs nEX nCt nCods nHn nMt 184 = true := by decide +kernel
def nH185 : List (Nat × Nat) := [(3, 71), (3, 72), (3, 73), (3, 74), (3, 68), (3, 69), (3, 70), (1, 17)]
set_option maxRecDepth 100000 in
theorem nV185 : kVM (nS nH185) nCl nZ0 nDflt nStrs nNcs nEX nCt nCods nHn nMt 185 = true := by decide +kernel
def nH186 : List (Nat × Nat) := [(1, 146), (1, 151), (1, 142), (3, 177), (3, 178), (3, 179), (1, 4), (1, 137)]
set_option maxRecDepth 100000 in
theorem nV186 : kVM (nS nH186) nCl nZ0 nDflt nStrs nNcs nEX nCt nCods nHn nMt 186 = true := by decide +kernel
def nH187 : List (Nat × Nat) := [(1, 230), (3, 180), (1, 238), (2, 226), (3, 227), (2, 228), (1, 236), (2, 9), (3, 224), (3, 225), (3, 226), (11, 12), (2, 131), (2, 132), (3, 181), (3, 182), (3, 183), (1, 14), (2, 88), (1, 5), (1, 181)]
set_option maxRecDepth 100000 in
theorem nV187 : kVM (nS nH187) nCl nZ0 nDflt nStrs nNcs nEX nCt nCods nHn nMt 187 = true := by decide +kernel
def nH188 : List (Nat × Nat) := [(1, 230), (2, 222), (2, 229), (2, 9), (1, 231), (1, 152), (3, 196), (2, 233), (2, 230), (2, 231), (2, 232), (3, 197), (3, 198), (3, 199), (2, 234), (2, 235), (2, 236), (11, 2), (3, 229), (3, 230), (3, 231), (11, 13), (2, 223), (2, 224), (2, 225), (1, 5), (1, 181)]
set_option maxRecDepth 100000 in
theorem nV188 : kVM (nS nH188) nCl nZ0 nDflt nStrs nNcs nEX nCt nCods nHn nMt 188 = true := by decide +kernel
def nH189 : List (Nat × Nat) := [(1, 230), (3, 180), (3, 192), (3, 204), (3, 208), (3, 193), (3, 194), (3, 195), (11, 11), (3, 189), (3, 190), (3, 191), (11, 10), (3, 181), (3, 182), (3, 183), (3, 205), (3, 206), (3, 207), (3, 209), (3, 210), (1, 5), (1, 181)]
set_option maxRecDepth 100000 in
theorem nV189 : kVM (nS nH189) nCl nZ0 nDflt nStrs nNcs nEX nCt nCods nHn nMt 189 = true := by decide +kernel
def nH190 : List (Nat × Nat) := [(3, 155), (3, 156), (1, 23)]
set_option maxRecDepth 100000 in
theorem nV190 : kVM (nS nH190) nCl nZ0 nDflt nStrs nNcs nEX nCt nCods nHn nMt 190 = true := by decide +kernel
def nH191 : List (Nat × Nat) := [(3, 159), (3, 160), (1, 23)]
set_option maxRecDepth 100000 in
theorem nV191 : kVM (nS nH191) nCl nZ0 nDflt nStrs nNcs nEX nCt nCods nHn nMt 191 = true := by decide +kernel
def nH192 : List (Nat × Nat) := [(3, 220), (3, 221), (3, 218), (3, 219), (1, 23)]
set_option maxRecDepth 100000 in
theorem nV192 : kVM (nS nH192) nCl nZ0 nDflt nStrs nNcs nEX nCt nCods nHn nMt 192 = true := by decide +kernel
def nH193 : List (Nat × Nat) := [(5, 172), (6, 204), (5, 173), (5, 174), (5, 175), (5, 159), (5, 176), (7, 130), (7, 131), (7, 132), (17, 6), (6, 205), (6, 206), (6, 207), (16, 0), (1, 10), (5, 130)]
set_option maxRecDepth 100000 in
theorem nV193 : kVM (nS nH193) nCl nZ0 nDflt nStrs nNcs nEX nCt nCods nHn nMt 193 = true := by decide +kernel
def nH194 : List (Nat × Nat) := [(7, 100), (5, 156), (5, 159), (7, 116), (6, 220), (6, 204), (5, 158), (5, 154), (6, 227), (6, 234), (5, 170), (5, 171), (6, 64), (7, 68), (7, 2), (7, 76), (5, 166), (5, 167), (6, 65), (6, 66), (7, 117), (7, 118), (7, 119), (17, 4), (7, 77), (7, 78), (7, 79), (16, 11), (6, 205), (6, 206), (6, 207), (16, 0), (7, 113), (7, 114), (7, 115), (17, 3), (6, 235), (6, 236), (6, 237), (16, 6), (6, 228), (6, 229), (7, 69), (7, 70), (7, 71), (16, 9), (7, 3), (7, 4), (7, 5), (16, 8), (6, 221), (6, 222), (6, 223), (16, 4), (7, 101), (7, 102), (7, 103), (17, 0), (1, 10), (5, 130)]
set_option maxRecDepth 100000 in
theorem nV194 : kVM (nS nH194) nCl nZ0 nDflt nStrs nNcs nEX nCt nCods nHn nMt 194 = true := by decide +kernel
def nH195 : List (Nat × Nat) := [(7, 122), (7, 123), (1, 10), (5, 130)]
set_option maxRecDepth 100000 in
theorem nV195 : kVM (nS nH195) nCl nZ0 nDflt nStrs nNcs nEX nCt nCods nHn nMt 195 = true := by decide +kernel
def nH196 : List (Nat × Nat) := [(6, 131), (7, 120), (6, 204), (5, 158), (7, 117), (7, 118), (7, 119), (17, 4), (6, 205), (6, 206), (6, 207), (16, 0), (1, 10), (5, 130)]
set_option maxRecDepth 100000 in
theorem nV196 : kVM (nS nH196) nCl nZ0 nDflt nStrs nNcs nEX nCt nCods nHn nMt 196 = true := by decide +kernel
def nH197 : List (Nat × Nat) := [(1, 101), (4, 142), (1, 103), (4, 108), (4, 11), (4, 12), (3, 218), (3, 219), (4, 139), (4, 140), (4, 141), (12, 9), (1, 3), (1, 78)]
set_option maxRecDepth 100000 in
theorem nV197 : kVM (nS nH197) nCl nZ0 nDflt nStrs nNcs nEX nCt nCods nHn nMt 197 = true := by decide +kernel
def nH198 : List (Nat × Nat) := [(1, 85), (4, 117), (4, 147), (1, 87), (4, 148), (4, 149), (3, 202), (3, 203), (3, 159), (3, 160), (4, 144), (4, 145), (4, 146), (12, 10), (3, 162), (3, 163), (1, 3), (1, 78)]
set_option maxRecDepth 100000 in
theorem nV198 : kVM (nS nH198) nCl nZ0 nDflt nStrs nNcs nEX nCt nCods nHn nMt 198 = true := by decide +kernel
def nH199 : List (Nat × Nat) := [(1, 85), (4, 148), (4, 113), (4, 149), (4, 154), (4, 151), (4, 152), (4, 153), (12, 11), (3, 148), (3, 149), (3, 159), (3, 160), (3, 162), (3, 163), (1, 3), (1, 78)]
set_option maxRecDepth 100000 in
theorem nV199 : kVM (nS nH199) nCl nZ0 nDflt nStrs nNcs nEX nCt nCods nHn nMt 199 = true := by decide +kernel
def nH200 : List (Nat × Nat) := [(1, 85), (4, 113), (1, 87), (4, 159), (4, 148), (4, 149), (3, 162), (3, 163), (4, 156), (4, 157), (4, 158), (12, 12), (3, 159), (3, 160), (3, 148), (3, 149), (4, 160), (4, 161), (4, 162), (12, 13), (1, 3), (1, 78)]
set_option maxRecDepth 100000 in
theorem nV200 : kVM (nS nH200) nCl nZ0 nDflt nStrs nNcs nEX nCt nCods nHn nMt 200 = true := by decide +kernel
def nH201 : List (Nat × Nat) := [(4, 159), (4, 171), (4, 172), (4, 154), (4, 173), (4, 168), (4, 169), (4, 170), (12, 15), (4, 174), (4, 175), (4, 176), (13, 0), (4, 160), (4, 161), (4, 162), (12, 13), (1, 3), (1, 78)]
set_option maxRecDepth 100000 in
theorem nV201 : kVM (nS nH201) nCl nZ0 nDflt nStrs nNcs nEX nCt nCods nHn nMt 201 = true := by decide +kernel
def nH202 : List (Nat × Nat) := [(1, 85), (4, 113), (4, 181), (4, 178), (4, 179), (4, 180), (13, 1), (4, 182), (4, 183), (4, 184), (13, 2), (3, 148), (3, 149), (1, 3), (1, 78)]
set_option maxRecDepth 100000 in
theorem nV202 : kVM (nS nH202) nCl nZ0 nDflt nStrs nNcs nEX nCt nCods nHn nMt 202 = true := by decide +kernel
def nH203 : List (Nat × Nat) := [(1, 85), (4, 113), (3, 148), (3, 149), (4, 160), (4, 161), (4, 162), (12, 13), (1, 3), (1, 78)]
set_option maxRecDepth 100000 in
theorem nV203 : kVM (nS nH203) nCl nZ0 nDflt nStrs nNcs nEX nCt nCods nHn nMt 203 = true := by decide +kernel
def nH204 : List (Nat × Nat) := [(1, 85), (4, 148), (4, 149), (4, 174), (4, 175), (4, 176), (13, 0), (3, 159), (3, 160), (3, 162), (3, 163), (1, 3), (1, 78)]
set_option maxRecDepth 100000 in
theorem nV204 : kVM (nS nH204) nCl nZ0 nDflt nStrs nNcs nEX nCt nCods nHn nMt 204 = true := by decide +kernel
def nH205 : List (Nat × Nat) := [(4, 173), (4, 154), (4, 182), (4, 183), (4, 184), (13, 2), (4, 174), (4, 175), (4, 176), (13, 0), (1, 3), (1, 78)]
set_option maxRecDepth 100000 in
theorem nV205 : kVM (nS nH205) nCl nZ0 nDflt nStrs nNcs nEX nCt nCods nHn nMt 205 = true := by decide +kernel
def nH206 : List (Nat × Nat) := [(4, 196), (4, 197), (1, 1), (1, 29)]
set_option maxRecDepth 100000 in
theorem nV206 : kVM (nS nH206) nCl nZ0 nDflt nStrs nNcs nEX nCt nCods nHn nMt 206 = true := by decide +kernel
def nH207 : List (Nat × Nat) := [(1, 85), (4, 113), (4, 148), (4, 149), (4, 203), (4, 204), (4, 205), (13, 6), (3, 148), (3, 149), (3, 159), (3, 160), (3, 162), (3, 163), (1, 3), (1, 78)]
set_option maxRecDepth 100000 in
theorem nV207 : kVM (nS nH207) nCl nZ0 nDflt nStrs nNcs nEX nCt nCods nHn nMt 207 = true := by decide +kernel
def nH208 : List (Nat × Nat) := [(4, 219), (1, 49), (1, 42), (4, 216), (4, 217), (4, 218), (4, 220), (4, 221), (4, 222), (13, 9), (1, 2), (1, 37)]
set_option maxRecDepth 100000 in
theorem nV208 : kVM (nS nH208) nCl nZ0 nDflt nStrs nNcs nEX nCt nCods nHn nMt 208 = true := by decide +kernel
def nH209 : List (Nat × Nat) := [(1, 99), (5, 7), (1, 85), (4, 118), (3, 137), (3, 138), (5, 4), (5, 5), (5, 6), (13, 14), (5, 8), (5, 9), (5, 10), (13, 15), (1, 3), (1, 78)]
set_option maxRecDepth 100000 in
theorem nV209 : kVM (nS nH209) nCl nZ0 nDflt nStrs nNcs nEX nCt nCods nHn nMt 209 = true := by decide +kernel
def nH210 : List (Nat × Nat) := [(1, 103), (4, 108), (1, 99), (4, 11), (4, 12), (5, 8), (5, 9), (5, 10), (13, 15), (1, 3), (1, 78)]
set_option maxRecDepth 100000 in
theorem nV210 : kVM (nS nH210) nCl nZ0 nDflt nStrs nNcs nEX nCt nCods nHn nMt 210 = true := by decide +kernel
def nH211 : List (Nat × Nat) := [(1, 87), (5, 3), (5, 4), (5, 5), (5, 6), (13, 14), (5, 16), (5, 17), (5, 18), (14, 1), (1, 3), (1, 78)]
set_option maxRecDepth 100000 in
theorem nV211 : kVM (nS nH211) nCl nZ0 nDflt nStrs nNcs nEX nCt nCods nHn nMt 211 = true := by decide +kernel
def nH212 : List (Nat × Nat) := [(5, 20), (5, 21), (1, 3), (1, 78)]
set_option maxRecDepth 100000 in
theorem nV212 : kVM (nS nH212) nCl nZ0 nDflt nStrs nNcs nEX nCt nCods nHn nMt 212 = true := by decide +kernel
def nH213 : List (Nat × Nat) := [(5, 35), (5, 36), (1, 26)]
set_option maxRecDepth 100000 in
theorem nV213 : kVM (nS nH213) nCl nZ0 nDflt nStrs nNcs nEX nCt nCods nHn nMt 213 = true := by decide +kernel
def nH214 : List (Nat × Nat) := [(6, 88), (6, 86), (6, 87), (6, 89), (6, 90), (1, 10), (5, 130)]
set_option maxRecDepth 100000 in
theorem nV214 : kVM (nS nH214) nCl nZ0 nDflt nStrs nNcs nEX nCt nCods nHn nMt 214 = true := by decide +kernel
def nH215 : List (Nat × Nat) := [(5, 137), (6, 51), (6, 61), (6, 91), (6, 107), (6, 62), (6, 63), (6, 104), (6, 105), (6, 106), (14, 14), (6, 52), (6, 53), (6, 92), (6, 93), (1, 10), (5, 130)]
set_option maxRecDepth 100000 in
theorem nV215 : kVM (nS nH215) nCl nZ0 nDflt nStrs nNcs nEX nCt nCods nHn nMt 215 = true := by decide +kernel
def nH216 : List (Nat × Nat) := [(6, 51), (5, 137), (5, 138), (6, 61), (6, 91), (6, 62), (6, 63), (6, 52), (6, 53), (6, 92), (6, 93), (6, 109), (6, 110), (6, 111), (14, 15), (1, 10), (5, 130)]
set_option maxRecDepth 100000 in
theorem nV216 : kVM (nS nH216) nCl nZ0 nDflt nStrs nNcs nEX nCt nCods nHn nMt 216 = true := by decide +kernel
def nH217 : List (Nat × Nat) := [(3, 25), (7, 185), (3, 22), (3, 23), (3, 24), (1, 17)]
set_option maxRecDepth 100000 in
theorem nV217 : kVM (nS nH217) nCl nZ0 nDflt nStrs nNcs nEX nCt nCods nHn nMt 217 = true := by decide +kernel
def nH218 : List (Nat × Nat) := [(3, 25), (7, 185), (3, 32), (3, 33), (3, 34), (1, 17)]
set_option maxRecDepth 100000 in
theorem nV218 : kVM (nS nH218) nCl nZ0 nDflt nStrs nNcs nEX nCt nCods nHn nMt 218 = true := by decide +kernel
def nH219 : List (Nat × Nat) := [(3, 38), (3, 39), (3, 40), (3, 36), (3, 37), (1, 18)]
set_option maxRecDepth 100000 in
theorem nV219 : kVM (nS nH219) nCl nZ0 nDflt nStrs nNcs nEX nCt nCods nHn nMt 219 = true := by decide +kernel
def nH220 : List (Nat × Nat) := [(3, 31), (7, 184), (3, 75), (3, 76), (3, 91), (3, 77), (3, 78), (3, 92), (3, 93), (3, 18), (3, 19), (3, 20), (3, 32), (3, 33), (3, 34), (3, 72), (3, 73), (3, 74), (1, 17)]
set_option maxRecDepth 100000 in
theorem nV220 : kVM (nS nH220) nCl nZ0 nDflt nStrs nNcs nEX nCt nCods nHn nMt 220 = true := by decide +kernel
def nH221 : List (Nat × Nat) := [(1, 230), (3, 180), (1, 239), (2, 218), (2, 222), (1, 157), (1, 237), (2, 229), (1, 231), (1, 152), (3, 196), (2, 226), (3, 200), (2, 228), (3, 201), (2, 230), (2, 231), (2, 232), (3, 197), (3, 198), (3, 199), (3, 193), (3, 194), (3, 195), (11, 11), (3, 181), (3, 182), (3, 183), (3, 202), (3, 203), (2, 219), (2, 220), (2, 221), (2, 131), (2, 132), (2, 223), (2, 224), (2, 225), (1, 14), (2, 88), (1, 5), (1, 181)]
set_option maxRecDepth 100000 in
theorem nV221 : kVM (nS nH221) nCl nZ0 nDflt nStrs nNcs nEX nCt nCods nHn nMt 221 = true := by decide +kernel
def nH222 : List (Nat × Nat) := [(1, 146), (1, 151), (1, 142), (3, 205), (3, 206), (3, 207), (1, 4), (1, 137)]
set_option maxRecDepth 100000 in
theorem nV222 : kVM (nS nH222) nCl nZ0 nDflt nStrs nNcs nEX nCt nCods nHn nMt 222 = true := by decide +kernel
def nH223 : List (Nat × Nat) := [(2, 226), (3, 211), (2, 228), (3, 212), (3, 213), (3, 214), (3, 215), (3, 209), (3, 210), (2, 131), (2, 132), (1, 14), (2, 88), (1, 5), (1, 181)]
set_option maxRecDepth 100000 in
theorem nV223 : kVM (nS nH223) nCl nZ0 nDflt nStrs nNcs nEX nCt nCods nHn nMt 223 = true := by decide +kernel
def nH224 : List (Nat × Nat) := [(4, 223), (4, 229), (4, 235), (4, 239), (4, 236), (4, 237), (4, 238), (13, 12), (4, 224), (4, 225), (4, 226), (13, 10), (4, 220), (4, 221), (4, 222), (13, 9), (5, 0), (5, 1), (5, 2), (13, 13), (4, 230), (4, 231), (4, 232), (13, 11), (1, 2), (1, 37)]
set_option maxRecDepth 100000 in
theorem nV224 : kVM (nS nH224) nCl nZ0 nDflt nStrs nNcs nEX nCt nCods nHn nMt 224 = true := by decide +kernel
def nH225 : List (Nat × Nat) := [(6, 89), (6, 90), (1, 10), (5, 130)]
set_option maxRecDepth 100000 in
theorem nV225 : kVM (nS nH225) nCl nZ0 nDflt nStrs nNcs nEX nCt nCods nHn nMt 225 = true := by decide +kernel
def nH226 : List (Nat × Nat) := [(3, 41), (3, 43), (3, 39), (3, 40), (3, 44), (3, 45), (1, 17)]
set_option maxRecDepth 100000 in
theorem nV226 : kVM (nS nH226) nCl nZ0 nDflt nStrs nNcs nEX nCt nCods nHn nMt 226 = true := by decide +kernel
def nH227 : List (Nat × Nat) := [(3, 79), (3, 82), (3, 85), (3, 88), (3, 86), (3, 87), (3, 77), (3, 78), (3, 80), (3, 81), (3, 83), (3, 84), (3, 89), (3, 90), (1, 18), (1, 21)]
set_option maxRecDepth 100000 in
theorem nV227 : kVM (nS nH227) nCl nZ0 nDflt nStrs nNcs nEX nCt nCods nHn nMt 227 = true := by decide +kernel
def nH228 : List (Nat × Nat) := [(1, 50), (4, 227), (4, 228), (3, 86), (3, 87), (4, 224), (4, 225), (4, 226), (13, 10), (3, 83), (3, 84), (1, 2), (1, 37), (1, 21)]
set_option maxRecDepth 100000 in
theorem nV228 : kVM (nS nH228) nCl nZ0 nDflt nStrs nNcs nEX nCt nCods nHn nMt 228 = true := by decide +kernel
def nH229 : List (Nat × Nat) := [(1, 50), (4, 233), (1, 45), (1, 44), (4, 234), (4, 230), (4, 231), (4, 232), (13, 11), (4, 60), (4, 61), (4, 196), (4, 197), (1, 2), (1, 37), (1, 24)]
set_option maxRecDepth 100000 in
theorem nV229 : kVM (nS nH229) nCl nZ0 nDflt nStrs nNcs nEX nCt nCods nHn nMt 229 = true := by decide +kernel
def nH230 : List (Nat × Nat) := [(1, 53), (4, 233), (1, 47), (1, 52), (1, 44), (4, 234), (4, 60), (4, 61), (4, 196), (4, 197), (4, 236), (4, 237), (4, 238), (13, 12), (1, 2), (1, 37), (1, 24)]
set_option maxRecDepth 100000 in
theorem nV230 : kVM (nS nH230) nCl nZ0 nDflt nStrs nNcs nEX nCt nCods nHn nMt 230 = true := by decide +kernel
def nH231 : List (Nat × Nat) := [(4, 233), (1, 44), (1, 48), (1, 55), (4, 234), (5, 0), (5, 1), (5, 2), (13, 13), (4, 60), (4, 61), (4, 196), (4, 197), (1, 2), (1, 37), (1, 24)]
set_option maxRecDepth 100000 in
theorem nV231 : kVM (nS nH231) nCl nZ0 nDflt nStrs nNcs nEX nCt nCods nHn nMt 231 = true := by decide +kernel
def nH232 : List (Nat × Nat) := [(3, 44), (3, 45), (1, 19)]
set_option maxRecDepth 100000 in
theorem nV232 : kVM (nS nH232) nCl nZ0 nDflt nStrs nNcs nEX nCt nCods nHn nMt 232 = true := by decide +kernel
def nH233 : List (Nat × Nat) := [(3, 80), (3, 81), (1, 18)]
set_option maxRecDepth 100000 in
theorem nV233 : kVM (nS nH233) nCl nZ0 nDflt nStrs nNcs nEX nCt nCods nHn nMt 233 = true := by decide +kernel
def nH234 : List (Nat × Nat) := [(3, 89), (3, 90), (1, 18)]
set_option maxRecDepth 100000 in
theorem nV234 : kVM (nS nH234) nCl nZ0 nDflt nStrs nNcs nEX nCt nCods nHn nMt 234 = true := by decide +kernel
end
section
theorem nOall (x : Nat) : ∃ xk, kOwn (kM nTb) (nEX x) xk = true := by
  match x with
  | 0 => exact ⟨_, nO0⟩
  | 1 => exact ⟨_, nO1⟩
  | 2 => exact ⟨_, nO2⟩
  | 3 => exact ⟨_, nO3⟩
  | k + 4 => exact ⟨_, nO0⟩
/-- every method of the table, at statics zv besides -/
theorem nVM (zv : List (String × String × String × Value)) (mi : Nat) (h : mP' nCods mi 0 ≠ none) : mVM nCl (nZ0 ++ zv) (mTs' nTb) nDflt nStrs nNcs nEX nCt (mP' nCods) nHn (fun i => (nMt i).2.2.1) nMt mi := by
  have go : ∀ {hs : List (Nat × Nat)} {mi : Nat}, kVM (nS hs) nCl nZ0 nDflt nStrs nNcs nEX nCt nCods nHn nMt mi = true → mVM nCl (nZ0 ++ zv) (mTs' nTb) nDflt nStrs nNcs nEX nCt (mP' nCods) nHn (fun i => (nMt i).2.2.1) nMt mi := fun {hs mi} hv => kVM_ok (nS_ok hs) (fun _ hw => kM_ok hw) (List.all_eq_true.mp nCl_ok) nOall hv
  match mi, h with
  | 0, _ => exact go nV0
  | 1, _ => exact go nV1
  | 2, _ => exact go nV2
  | 3, _ => exact go nV3
  | 4, _ => exact go nV4
  | 5, _ => exact go nV5
  | 6, _ => exact go nV6
  | 7, _ => exact go nV7
  | 8, _ => exact go nV8
  | 9, _ => exact go nV9
  | 10, _ => exact go nV10
  | 11, _ => exact go nV11
  | 12, _ => exact go nV12
  | 13, _ => exact go nV13
  | 14, _ => exact go nV14
  | 15, _ => exact go nV15
  | 16, _ => exact go nV16
  | 17, _ => exact go nV17
  | 18, _ => exact go nV18
  | 19, _ => exact go nV19
  | 20, _ => exact go nV20
  | 21, _ => exact go nV21
  | 22, _ => exact go nV22
  | 23, _ => exact go nV23
  | 24, _ => exact go nV24
  | 25, _ => exact go nV25
  | 26, _ => exact go nV26
  | 27, _ => exact go nV27
  | 28, _ => exact go nV28
  | 29, _ => exact go nV29
  | 30, _ => exact go nV30
  | 31, _ => exact go nV31
  | 32, _ => exact go nV32
  | 33, _ => exact go nV33
  | 34, _ => exact go nV34
  | 35, _ => exact go nV35
  | 36, _ => exact go nV36
  | 37, _ => exact go nV37
  | 38, _ => exact go nV38
  | 39, _ => exact go nV39
  | 40, _ => exact go nV40
  | 41, _ => exact go nV41
  | 42, _ => exact go nV42
  | 43, _ => exact go nV43
  | 44, _ => exact go nV44
  | 45, _ => exact go nV45
  | 46, _ => exact go nV46
  | 47, _ => exact go nV47
  | 48, _ => exact go nV48
  | 49, _ => exact go nV49
  | 50, _ => exact go nV50
  | 51, _ => exact go nV51
  | 52, _ => exact go nV52
  | 53, _ => exact go nV53
  | 54, _ => exact go nV54
  | 55, _ => exact go nV55
  | 56, _ => exact go nV56
  | 57, _ => exact go nV57
  | 58, _ => exact go nV58
  | 59, _ => exact go nV59
  | 60, _ => exact go nV60
  | 61, _ => exact go nV61
  | 62, _ => exact go nV62
  | 63, _ => exact go nV63
  | 64, _ => exact go nV64
  | 65, _ => exact go nV65
  | 66, _ => exact go nV66
  | 67, _ => exact go nV67
  | 68, _ => exact go nV68
  | 69, _ => exact go nV69
  | 70, _ => exact go nV70
  | 71, _ => exact go nV71
  | 72, _ => exact go nV72
  | 73, _ => exact go nV73
  | 74, _ => exact go nV74
  | 75, _ => exact go nV75
  | 76, _ => exact go nV76
  | 77, _ => exact go nV77
  | 78, _ => exact go nV78
  | 79, _ => exact go nV79
  | 80, _ => exact go nV80
  | 81, _ => exact go nV81
  | 82, _ => exact go nV82
  | 83, _ => exact go nV83
  | 84, _ => exact go nV84
  | 85, _ => exact go nV85
  | 86, _ => exact go nV86
  | 87, _ => exact go nV87
  | 88, _ => exact go nV88
  | 89, _ => exact go nV89
  | 90, _ => exact go nV90
  | 91, _ => exact go nV91
  | 92, _ => exact go nV92
  | 93, _ => exact go nV93
  | 94, _ => exact go nV94
  | 95, _ => exact go nV95
  | 96, _ => exact go nV96
  | 97, _ => exact go nV97
  | 98, _ => exact go nV98
  | 99, _ => exact go nV99
  | 100, _ => exact go nV100
  | 101, _ => exact go nV101
  | 102, _ => exact go nV102
  | 103, _ => exact go nV103
  | 104, _ => exact go nV104
  | 105, _ => exact go nV105
  | 106, _ => exact go nV106
  | 107, _ => exact go nV107
  | 108, _ => exact go nV108
  | 109, _ => exact go nV109
  | 110, _ => exact go nV110
  | 111, _ => exact go nV111
  | 112, _ => exact go nV112
  | 113, _ => exact go nV113
  | 114, _ => exact go nV114
  | 115, _ => exact go nV115
  | 116, _ => exact go nV116
  | 117, _ => exact go nV117
  | 118, _ => exact go nV118
  | 119, _ => exact go nV119
  | 120, _ => exact go nV120
  | 121, _ => exact go nV121
  | 122, _ => exact go nV122
  | 123, _ => exact go nV123
  | 124, _ => exact go nV124
  | 125, _ => exact go nV125
  | 126, _ => exact go nV126
  | 127, _ => exact go nV127
  | 128, _ => exact go nV128
  | 129, _ => exact go nV129
  | 130, _ => exact go nV130
  | 131, _ => exact go nV131
  | 132, _ => exact go nV132
  | 133, _ => exact go nV133
  | 134, _ => exact go nV134
  | 135, _ => exact go nV135
  | 136, _ => exact go nV136
  | 137, _ => exact go nV137
  | 138, _ => exact go nV138
  | 139, _ => exact go nV139
  | 140, _ => exact go nV140
  | 141, _ => exact go nV141
  | 142, _ => exact go nV142
  | 143, _ => exact go nV143
  | 144, _ => exact go nV144
  | 145, _ => exact go nV145
  | 146, _ => exact go nV146
  | 147, _ => exact go nV147
  | 148, _ => exact go nV148
  | 149, _ => exact go nV149
  | 150, _ => exact go nV150
  | 151, _ => exact go nV151
  | 152, _ => exact go nV152
  | 153, _ => exact go nV153
  | 154, _ => exact go nV154
  | 155, _ => exact go nV155
  | 156, _ => exact go nV156
  | 157, _ => exact go nV157
  | 158, _ => exact go nV158
  | 159, _ => exact go nV159
  | 160, _ => exact go nV160
  | 161, _ => exact go nV161
  | 162, _ => exact go nV162
  | 163, _ => exact go nV163
  | 164, _ => exact go nV164
  | 165, _ => exact go nV165
  | 166, _ => exact go nV166
  | 167, _ => exact go nV167
  | 168, _ => exact go nV168
  | 169, _ => exact go nV169
  | 170, _ => exact go nV170
  | 171, _ => exact go nV171
  | 172, _ => exact go nV172
  | 173, _ => exact go nV173
  | 174, _ => exact go nV174
  | 175, _ => exact go nV175
  | 176, _ => exact go nV176
  | 177, _ => exact go nV177
  | 178, _ => exact go nV178
  | 179, _ => exact go nV179
  | 180, _ => exact go nV180
  | 181, _ => exact go nV181
  | 182, _ => exact go nV182
  | 183, _ => exact go nV183
  | 184, _ => exact go nV184
  | 185, _ => exact go nV185
  | 186, _ => exact go nV186
  | 187, _ => exact go nV187
  | 188, _ => exact go nV188
  | 189, _ => exact go nV189
  | 190, _ => exact go nV190
  | 191, _ => exact go nV191
  | 192, _ => exact go nV192
  | 193, _ => exact go nV193
  | 194, _ => exact go nV194
  | 195, _ => exact go nV195
  | 196, _ => exact go nV196
  | 197, _ => exact go nV197
  | 198, _ => exact go nV198
  | 199, _ => exact go nV199
  | 200, _ => exact go nV200
  | 201, _ => exact go nV201
  | 202, _ => exact go nV202
  | 203, _ => exact go nV203
  | 204, _ => exact go nV204
  | 205, _ => exact go nV205
  | 206, _ => exact go nV206
  | 207, _ => exact go nV207
  | 208, _ => exact go nV208
  | 209, _ => exact go nV209
  | 210, _ => exact go nV210
  | 211, _ => exact go nV211
  | 212, _ => exact go nV212
  | 213, _ => exact go nV213
  | 214, _ => exact go nV214
  | 215, _ => exact go nV215
  | 216, _ => exact go nV216
  | 217, _ => exact go nV217
  | 218, _ => exact go nV218
  | 219, _ => exact go nV219
  | 220, _ => exact go nV220
  | 221, _ => exact go nV221
  | 222, _ => exact go nV222
  | 223, _ => exact go nV223
  | 224, _ => exact go nV224
  | 225, _ => exact go nV225
  | 226, _ => exact go nV226
  | 227, _ => exact go nV227
  | 228, _ => exact go nV228
  | 229, _ => exact go nV229
  | 230, _ => exact go nV230
  | 231, _ => exact go nV231
  | 232, _ => exact go nV232
  | 233, _ => exact go nV233
  | 234, _ => exact go nV234
  | k + 235, h => exact absurd rfl h
end
section
/-! THE START: its data, printed by program -/
def nOps : List (String × Nat × Int32 × Int32) := [("NOP", 204, 0, 0), ("ADD", 208, 1, 5), ("SUB", 209, 2, 5), ("MUL", 210, 3, 5), ("DIV", 211, 4, 5), ("NUM", 212, 5, 0), ("CHAR", 213, 5, 1), ("HLT", 214, 5, 2), ("SLA", 215, 6, 0), ("SRA", 216, 6, 1), ("SLAX", 217, 6, 2), ("SRAX", 218, 6, 3), ("SLC", 219, 6, 4), ("SRC", 220, 6, 5), ("MOVE", 221, 7, 1), ("LD", 223, 8, 5), ("LDN", 226, 16, 5), ("ST", 229, 24, 5), ("STJ", 231, 32, 2), ("STZ", 232, 33, 5), ("JBUS", 233, 34, 0), ("IOC", 234, 35, 0), ("IN", 235, 36, 0), ("OUT", 236, 37, 0), ("JRED", 237, 38, 0), ("JMP", 238, 39, 0), ("JSJ", 239, 39, 1), ("JOV", 240, 39, 2), ("JNOV", 241, 39, 3), ("JL", 242, 39, 4), ("JE", 243, 39, 5), ("JG", 244, 39, 6), ("JGE", 245, 39, 7), ("JNE", 246, 39, 8), ("JLE", 247, 39, 9), ("JN", 249, 40, 0), ("JZ", 252, 40, 1), ("JP", 255, 40, 2), ("JNN", 258, 40, 3), ("JNZ", 261, 40, 4), ("JNP", 264, 40, 5), ("INC", 267, 48, 0), ("DEC", 270, 48, 1), ("ENT", 273, 48, 2), ("ENN", 276, 48, 3), ("CMP", 279, 56, 5), ("EQU", 281, 64, 0), ("ORIG", 282, 64, 0), ("CON", 283, 64, 0), ("END", 284, 64, 0)]
def nByt : List (List Int32) := [[78, 79, 80], [65, 68, 68], [83, 85, 66], [77, 85, 76], [68, 73, 86], [78, 85, 77], [67, 72, 65, 82], [72, 76, 84], [83, 76, 65], [83, 82, 65], [83, 76, 65, 88], [83, 82, 65, 88], [83, 76, 67], [83, 82, 67], [77, 79, 86, 69], [76, 68, 63], [76, 68, 63, 78], [83, 84, 63], [83, 84, 74], [83, 84, 90], [74, 66, 85, 83], [73, 79, 67], [73, 78], [79, 85, 84], [74, 82, 69, 68], [74, 77, 80], [74, 83, 74], [74, 79, 86], [74, 78, 79, 86], [74, 76], [74, 69], [74, 71], [74, 71, 69], [74, 78, 69], [74, 76, 69], [74, 63, 78], [74, 63, 90], [74, 63, 80], [74, 63, 78, 78], [74, 63, 78, 90], [74, 63, 78, 80], [73, 78, 67, 63], [68, 69, 67, 63], [69, 78, 84, 63], [69, 78, 78, 63], [67, 77, 80, 63], [69, 81, 85], [79, 82, 73, 71], [67, 79, 78], [69, 78, 68], [65, 49, 50, 51, 52, 53, 54, 88]]
def nCs0 : List (Nat × Nat × Nat) := [(0, 0, 0), (1, 0, 0), (2, 0, 0), (3, 0, 0), (4, 0, 0), (11, 0, 0), (12, 0, 0), (10, 0, 0), (10, 1, 0), (10, 2, 0), (10, 3, 0), (10, 4, 0), (10, 5, 0), (10, 6, 0), (10, 7, 0), (10, 8, 0), (10, 9, 0), (10, 10, 0), (10, 11, 0), (10, 12, 0), (10, 13, 0), (10, 14, 0), (10, 15, 0), (10, 16, 0), (10, 17, 0), (10, 18, 0), (10, 19, 0), (10, 20, 0), (10, 21, 0), (10, 22, 0), (10, 23, 0), (10, 24, 0), (10, 25, 0), (10, 26, 0), (10, 27, 0), (10, 28, 0), (10, 29, 0), (10, 30, 0), (10, 31, 0), (10, 32, 0), (10, 33, 0), (10, 34, 0), (10, 35, 0), (10, 36, 0), (10, 37, 0), (10, 38, 0), (10, 39, 0), (10, 40, 0), (10, 41, 0), (10, 42, 0), (10, 43, 0), (10, 44, 0), (10, 45, 0), (10, 46, 0), (10, 47, 0), (10, 48, 0), (10, 49, 0), (0, 46, 0), (1, 46, 0), (2, 46, 0), (3, 46, 0), (4, 46, 0), (0, 49, 0), (1, 49, 0), (2, 49, 0), (3, 49, 0), (4, 49, 0), (0, 47, 0), (1, 47, 0), (2, 47, 0), (3, 47, 0), (4, 47, 0), (0, 48, 0), (1, 48, 0), (2, 48, 0), (3, 48, 0), (4, 48, 0), (0, 1, 0), (1, 1, 0), (2, 1, 0), (3, 1, 0), (4, 1, 0), (0, 2, 0), (1, 2, 0), (2, 2, 0), (3, 2, 0), (4, 2, 0), (0, 3, 0), (1, 3, 0), (2, 3, 0), (3, 3, 0), (4, 3, 0), (0, 4, 0), (1, 4, 0), (2, 4, 0), (3, 4, 0), (4, 4, 0), (0, 5, 0), (1, 5, 0), (2, 5, 0)]
def nCs1 : List (Nat × Nat × Nat) := [(3, 5, 0), (4, 5, 0), (0, 6, 0), (1, 6, 0), (2, 6, 0), (3, 6, 0), (4, 6, 0), (0, 7, 0), (1, 7, 0), (2, 7, 0), (3, 7, 0), (4, 7, 0), (0, 8, 0), (1, 8, 0), (2, 8, 0), (3, 8, 0), (4, 8, 0), (0, 9, 0), (1, 9, 0), (2, 9, 0), (3, 9, 0), (4, 9, 0), (0, 10, 0), (1, 10, 0), (2, 10, 0), (3, 10, 0), (4, 10, 0), (0, 11, 0), (1, 11, 0), (2, 11, 0), (3, 11, 0), (4, 11, 0), (0, 12, 0), (1, 12, 0), (2, 12, 0), (3, 12, 0), (4, 12, 0), (0, 13, 0), (1, 13, 0), (2, 13, 0), (3, 13, 0), (4, 13, 0), (0, 14, 0), (1, 14, 0), (2, 14, 0), (3, 14, 0), (4, 14, 0), (0, 15, 0), (1, 15, 0), (2, 15, 0), (3, 15, 0), (4, 15, 0), (0, 16, 0), (1, 16, 0), (2, 16, 0), (3, 16, 0), (4, 16, 0), (0, 17, 0), (1, 17, 0), (2, 17, 0), (3, 17, 0), (4, 17, 0), (0, 18, 0), (1, 18, 0), (2, 18, 0), (3, 18, 0), (4, 18, 0), (0, 19, 0), (1, 19, 0), (2, 19, 0), (3, 19, 0), (4, 19, 0), (0, 20, 0), (1, 20, 0), (2, 20, 0), (3, 20, 0), (4, 20, 0), (0, 21, 0), (1, 21, 0), (2, 21, 0), (3, 21, 0), (4, 21, 0), (0, 22, 0), (1, 22, 0), (2, 22, 0), (3, 22, 0), (4, 22, 0), (0, 23, 0), (1, 23, 0), (2, 23, 0), (3, 23, 0), (4, 23, 0), (0, 24, 0), (1, 24, 0), (2, 24, 0), (3, 24, 0), (4, 24, 0), (0, 25, 0), (1, 25, 0), (2, 25, 0)]
def nCs2 : List (Nat × Nat × Nat) := [(3, 25, 0), (4, 25, 0), (0, 26, 0), (1, 26, 0), (2, 26, 0), (3, 26, 0), (4, 26, 0), (0, 27, 0), (1, 27, 0), (2, 27, 0), (3, 27, 0), (4, 27, 0), (0, 28, 0), (1, 28, 0), (2, 28, 0), (3, 28, 0), (4, 28, 0), (0, 29, 0), (1, 29, 0), (2, 29, 0), (3, 29, 0), (4, 29, 0), (0, 30, 0), (1, 30, 0), (2, 30, 0), (3, 30, 0), (4, 30, 0), (0, 31, 0), (1, 31, 0), (2, 31, 0), (3, 31, 0), (4, 31, 0), (0, 32, 0), (1, 32, 0), (2, 32, 0), (3, 32, 0), (4, 32, 0), (0, 33, 0), (1, 33, 0), (2, 33, 0), (3, 33, 0), (4, 33, 0), (0, 34, 0), (1, 34, 0), (2, 34, 0), (3, 34, 0), (4, 34, 0), (0, 35, 0), (1, 35, 0), (2, 35, 0), (3, 35, 0), (4, 35, 0), (0, 36, 0), (1, 36, 0), (2, 36, 0), (3, 36, 0), (4, 36, 0), (0, 37, 0), (1, 37, 0), (2, 37, 0), (3, 37, 0), (4, 37, 0), (0, 38, 0), (1, 38, 0), (2, 38, 0), (3, 38, 0), (4, 38, 0), (0, 39, 0), (1, 39, 0), (2, 39, 0), (3, 39, 0), (4, 39, 0), (0, 40, 0), (1, 40, 0), (2, 40, 0), (3, 40, 0), (4, 40, 0), (0, 41, 0), (1, 41, 0), (2, 41, 0), (3, 41, 0), (4, 41, 0), (0, 42, 0), (1, 42, 0), (2, 42, 0), (3, 42, 0), (4, 42, 0), (0, 43, 0), (1, 43, 0), (2, 43, 0), (3, 43, 0), (4, 43, 0), (0, 44, 0), (1, 44, 0), (2, 44, 0), (3, 44, 0), (4, 44, 0), (0, 45, 0), (1, 45, 0), (2, 45, 0)]
def nCs3 : List (Nat × Nat × Nat) := [(3, 45, 0), (4, 45, 0), (5, 50, 0), (6, 50, 0), (7, 50, 0), (8, 50, 0), (9, 50, 0), (9, 50, 1), (9, 50, 2), (9, 50, 3), (9, 50, 4), (9, 50, 5), (9, 50, 6), (9, 50, 7), (5, 0, 0), (6, 0, 0), (7, 0, 0), (8, 0, 0), (9, 0, 0), (9, 0, 1), (9, 0, 2), (5, 46, 0), (6, 46, 0), (7, 46, 0), (8, 46, 0), (9, 46, 0), (9, 46, 1), (9, 46, 2), (5, 49, 0), (6, 49, 0), (7, 49, 0), (8, 49, 0), (9, 49, 0), (9, 49, 1), (9, 49, 2), (5, 47, 0), (6, 47, 0), (7, 47, 0), (8, 47, 0), (9, 47, 0), (9, 47, 1), (9, 47, 2), (9, 47, 3), (5, 48, 0), (6, 48, 0), (7, 48, 0), (8, 48, 0), (9, 48, 0), (9, 48, 1), (9, 48, 2), (5, 1, 0), (6, 1, 0), (7, 1, 0), (8, 1, 0), (9, 1, 0), (9, 1, 1), (9, 1, 2), (5, 2, 0), (6, 2, 0), (7, 2, 0), (8, 2, 0), (9, 2, 0), (9, 2, 1), (9, 2, 2), (5, 3, 0), (6, 3, 0), (7, 3, 0), (8, 3, 0), (9, 3, 0), (9, 3, 1), (9, 3, 2), (5, 4, 0), (6, 4, 0), (7, 4, 0), (8, 4, 0), (9, 4, 0), (9, 4, 1), (9, 4, 2), (5, 5, 0), (6, 5, 0), (7, 5, 0), (8, 5, 0), (9, 5, 0), (9, 5, 1), (9, 5, 2), (5, 6, 0), (6, 6, 0), (7, 6, 0), (8, 6, 0), (9, 6, 0), (9, 6, 1), (9, 6, 2), (9, 6, 3), (5, 7, 0), (6, 7, 0), (7, 7, 0), (8, 7, 0), (9, 7, 0), (9, 7, 1), (9, 7, 2)]
def nCs4 : List (Nat × Nat × Nat) := [(5, 8, 0), (6, 8, 0), (7, 8, 0), (8, 8, 0), (9, 8, 0), (9, 8, 1), (9, 8, 2), (5, 9, 0), (6, 9, 0), (7, 9, 0), (8, 9, 0), (9, 9, 0), (9, 9, 1), (9, 9, 2), (5, 10, 0), (6, 10, 0), (7, 10, 0), (8, 10, 0), (9, 10, 0), (9, 10, 1), (9, 10, 2), (9, 10, 3), (5, 11, 0), (6, 11, 0), (7, 11, 0), (8, 11, 0), (9, 11, 0), (9, 11, 1), (9, 11, 2), (9, 11, 3), (5, 12, 0), (6, 12, 0), (7, 12, 0), (8, 12, 0), (9, 12, 0), (9, 12, 1), (9, 12, 2), (5, 13, 0), (6, 13, 0), (7, 13, 0), (8, 13, 0), (9, 13, 0), (9, 13, 1), (9, 13, 2), (5, 14, 0), (6, 14, 0), (7, 14, 0), (8, 14, 0), (9, 14, 0), (9, 14, 1), (9, 14, 2), (9, 14, 3), (5, 15, 0), (6, 15, 0), (7, 15, 0), (8, 15, 0), (9, 15, 0), (9, 15, 1), (9, 15, 2), (5, 16, 0), (6, 16, 0), (7, 16, 0), (8, 16, 0), (9, 16, 0), (9, 16, 1), (9, 16, 2), (9, 16, 3), (5, 17, 0), (6, 17, 0), (7, 17, 0), (8, 17, 0), (9, 17, 0), (9, 17, 1), (9, 17, 2), (5, 18, 0), (6, 18, 0), (7, 18, 0), (8, 18, 0), (9, 18, 0), (9, 18, 1), (9, 18, 2), (5, 19, 0), (6, 19, 0), (7, 19, 0), (8, 19, 0), (9, 19, 0), (9, 19, 1), (9, 19, 2), (5, 20, 0), (6, 20, 0), (7, 20, 0), (8, 20, 0), (9, 20, 0), (9, 20, 1), (9, 20, 2), (9, 20, 3), (5, 21, 0), (6, 21, 0), (7, 21, 0), (8, 21, 0)]
def nCs5 : List (Nat × Nat × Nat) := [(9, 21, 0), (9, 21, 1), (9, 21, 2), (5, 22, 0), (6, 22, 0), (7, 22, 0), (8, 22, 0), (9, 22, 0), (9, 22, 1), (5, 23, 0), (6, 23, 0), (7, 23, 0), (8, 23, 0), (9, 23, 0), (9, 23, 1), (9, 23, 2), (5, 24, 0), (6, 24, 0), (7, 24, 0), (8, 24, 0), (9, 24, 0), (9, 24, 1), (9, 24, 2), (9, 24, 3), (5, 25, 0), (6, 25, 0), (7, 25, 0), (8, 25, 0), (9, 25, 0), (9, 25, 1), (9, 25, 2), (5, 26, 0), (6, 26, 0), (7, 26, 0), (8, 26, 0), (9, 26, 0), (9, 26, 1), (9, 26, 2), (5, 27, 0), (6, 27, 0), (7, 27, 0), (8, 27, 0), (9, 27, 0), (9, 27, 1), (9, 27, 2), (5, 28, 0), (6, 28, 0), (7, 28, 0), (8, 28, 0), (9, 28, 0), (9, 28, 1), (9, 28, 2), (9, 28, 3), (5, 29, 0), (6, 29, 0), (7, 29, 0), (8, 29, 0), (9, 29, 0), (9, 29, 1), (5, 30, 0), (6, 30, 0), (7, 30, 0), (8, 30, 0), (9, 30, 0), (9, 30, 1), (5, 31, 0), (6, 31, 0), (7, 31, 0), (8, 31, 0), (9, 31, 0), (9, 31, 1), (5, 32, 0), (6, 32, 0), (7, 32, 0), (8, 32, 0), (9, 32, 0), (9, 32, 1), (9, 32, 2), (5, 33, 0), (6, 33, 0), (7, 33, 0), (8, 33, 0), (9, 33, 0), (9, 33, 1), (9, 33, 2), (5, 34, 0), (6, 34, 0), (7, 34, 0), (8, 34, 0), (9, 34, 0), (9, 34, 1), (9, 34, 2), (5, 35, 0), (6, 35, 0), (7, 35, 0), (8, 35, 0), (9, 35, 0), (9, 35, 1), (9, 35, 2), (5, 36, 0)]
def nCs6 : List (Nat × Nat × Nat) := [(6, 36, 0), (7, 36, 0), (8, 36, 0), (9, 36, 0), (9, 36, 1), (9, 36, 2), (5, 37, 0), (6, 37, 0), (7, 37, 0), (8, 37, 0), (9, 37, 0), (9, 37, 1), (9, 37, 2), (5, 38, 0), (6, 38, 0), (7, 38, 0), (8, 38, 0), (9, 38, 0), (9, 38, 1), (9, 38, 2), (9, 38, 3), (5, 39, 0), (6, 39, 0), (7, 39, 0), (8, 39, 0), (9, 39, 0), (9, 39, 1), (9, 39, 2), (9, 39, 3), (5, 40, 0), (6, 40, 0), (7, 40, 0), (8, 40, 0), (9, 40, 0), (9, 40, 1), (9, 40, 2), (9, 40, 3), (5, 41, 0), (6, 41, 0), (7, 41, 0), (8, 41, 0), (9, 41, 0), (9, 41, 1), (9, 41, 2), (9, 41, 3), (5, 42, 0), (6, 42, 0), (7, 42, 0), (8, 42, 0), (9, 42, 0), (9, 42, 1), (9, 42, 2), (9, 42, 3), (5, 43, 0), (6, 43, 0), (7, 43, 0), (8, 43, 0), (9, 43, 0), (9, 43, 1), (9, 43, 2), (9, 43, 3), (5, 44, 0), (6, 44, 0), (7, 44, 0), (8, 44, 0), (9, 44, 0), (9, 44, 1), (9, 44, 2), (9, 44, 3), (5, 45, 0), (6, 45, 0), (7, 45, 0), (8, 45, 0), (9, 45, 0), (9, 45, 1), (9, 45, 2), (9, 45, 3)]
def nCs : List (Nat × Nat × Nat) := nCs0 ++ (nCs1 ++ (nCs2 ++ (nCs3 ++ (nCs4 ++ (nCs5 ++ (nCs6))))))
end
section
/-! THE START: the small machine's heap, of the state at the law's entry -/
def nOp (k : Nat) : String × Nat × Int32 × Int32 := nOps.getD k ("", 0, 0, 0)
def nSo (k : Nat) : Term := .static "MixMachine$Operation" (nOp k).1 "LMixMachine$Operation;"
def nSg (k : Nat) : Term := .string "MixMachine$Operation" (if k = 50 then 198 else (nOp k).2.1)
def nSv (k : Nat) : Term := .field (nSg k) "java/lang/String" "value" "[B"
def nSa : Term := .static "MixMachine$Operation" "ALL" "[LMixMachine$Operation;"
def nBy (k : Nat) : List Int32 := nByt.getD k []
/-- the premises that are used -/
def nCd (q : Nat × Nat × Nat) : Cond := match q.1 with
  | 0 => .exactly (nSo q.2.1) "MixMachine$Operation"
  | 1 => .eq (.field (nSo q.2.1) "java/lang/Enum" "ordinal" "I") (.int (Int32.ofNat q.2.1))
  | 2 => .eq (.field (nSo q.2.1) "MixMachine$Operation" "pattern" "Ljava/lang/String;") (nSg q.2.1)
  | 3 => .eq (.field (nSo q.2.1) "MixMachine$Operation" "code" "I") (.int (nOp q.2.1).2.2.1)
  | 4 => .eq (.field (nSo q.2.1) "MixMachine$Operation" "f" "I") (.int (nOp q.2.1).2.2.2)
  | 5 => .exactly (nSg q.2.1) "java/lang/String"
  | 6 => .eq (.field (nSg q.2.1) "java/lang/String" "coder" "B") (.int 0)
  | 7 => .arrayOf (nSv q.2.1) .byte
  | 8 => .eq (.length (nSv q.2.1)) (.int (Int32.ofNat (nBy q.2.1).length))
  | 9 => .eq (.elem (nSv q.2.1) (.int (Int32.ofNat q.2.2))) (.int ((nBy q.2.1).getD q.2.2 0))
  | 10 => .eq (.elem nSa (.int (Int32.ofNat q.2.1))) (nSo q.2.1)
  | 11 => .arrayOf nSa (.object "MixMachine$Operation")
  | _ => .eq (.length nSa) (.int 50)
def kSub : List Cond → List Cond → Bool
  | [], _ => true
  | _ :: _, [] => false
  | a :: l, b :: r => if a = b then kSub l r else kSub (a :: l) r
theorem kSub_ok : ∀ (l r : List Cond), kSub l r = true → ∀ w ∈ l, w ∈ r
  | [], _, _, w, hw => by cases hw
  | a :: l, [], h, w, hw => by cases h
  | a :: l, b :: r, h, w, hw => by
    unfold kSub at h
    split at h
    · rename_i hab
      rcases List.mem_cons.mp hw with rfl | hw
      · rw [hab]; exact List.mem_cons_self
      · exact List.mem_cons_of_mem _ (kSub_ok l r h w hw)
    · exact List.mem_cons_of_mem _ (kSub_ok (a :: l) r h w hw)
def nGv : List Cond := flatC (Jvm.Cond.and given_1 narrow_1)
set_option maxRecDepth 100000 in
theorem nCs_ok : kSub (nCs.map nCd) nGv = true := by decide +kernel
/-- all that is wanted stands among them -/
def nAll : Bool := (List.range 50).all (fun k => [0, 1, 2, 3, 4, 10].all (fun a => nCs.contains (a, k, 0))) && ((List.range 51).all (fun k => [5, 6, 7, 8].all (fun a => nCs.contains (a, k, 0)) && (List.range (nBy k).length).all (fun j => nCs.contains (9, k, j))) && (nCs.contains (11, 0, 0) && nCs.contains (12, 0, 0)))
set_option maxRecDepth 100000 in
theorem nAll_ok : nAll = true := by decide +kernel
theorem nPr {args : Array Value} {s : State} (hgv : ∀ w ∈ nGv, w.before args s = true) {q : Nat × Nat × Nat} (hq : nCs.contains q = true) : (nCd q).before args s = true := hgv _ (kSub_ok _ _ nCs_ok _ (List.mem_map.mpr ⟨q, List.contains_iff_mem.mp hq, rfl⟩))
theorem nPo {a k : Nat} (ha : a ∈ [0, 1, 2, 3, 4, 10]) (hk : k < 50) : nCs.contains (a, k, 0) = true := by
  have h := nAll_ok
  unfold nAll at h
  rw [Bool.and_eq_true] at h
  exact List.all_eq_true.mp (List.all_eq_true.mp h.1 k (List.mem_range.mpr hk)) a ha
theorem nPs {a k : Nat} (ha : a ∈ [5, 6, 7, 8]) (hk : k < 51) : nCs.contains (a, k, 0) = true := by
  have h := nAll_ok
  unfold nAll at h
  rw [Bool.and_eq_true, Bool.and_eq_true] at h
  have h2 := List.all_eq_true.mp h.2.1 k (List.mem_range.mpr hk)
  rw [Bool.and_eq_true] at h2
  exact List.all_eq_true.mp h2.1 a ha
theorem nPb {k j : Nat} (hk : k < 51) (hj : j < (nBy k).length) : nCs.contains (9, k, j) = true := by
  have h := nAll_ok
  unfold nAll at h
  rw [Bool.and_eq_true, Bool.and_eq_true] at h
  have h2 := List.all_eq_true.mp h.2.1 k (List.mem_range.mpr hk)
  rw [Bool.and_eq_true] at h2
  exact List.all_eq_true.mp h2.2 j (List.mem_range.mpr hj)
theorem nPa : nCs.contains (11, 0, 0) = true ∧ nCs.contains (12, 0, 0) = true := by
  have h := nAll_ok
  unfold nAll at h
  rw [Bool.and_eq_true, Bool.and_eq_true, Bool.and_eq_true] at h
  exact h.2.2
def nBusy : Nat → Int32 := fun j => match j with
  | 0 => 4
  | 1 => 8
  | _ => 6
def nSix (k : Nat) : Nat := if k = 50 then 53 else 55 + 2 * k
def nStr (k : Nat) : mC := some (.inr (14, [.ref (nSix k + 1), .int 0]))
def nBa (k : Nat) : mC := some (.inl (7, (nBy k).length, .inl (fun j => (nBy k).getD j 0)))
/-- the old cells: 0 the script, 1 BUSY_STEPS, 2 to 51 the operations, 52 ALL, 53 the registers' names, 54 their bytes, from 55 the patterns and their bytes, 155 to 157 three that nobody looks into -/
def nCell (L : Nat) (xs : Nat → Int32) (i : Nat) : mC :=
  if i = 0 then some (.inl (4, L, .inl xs)) else if i = 1 then some (.inl (4, 3, .inl nBusy))
  else if i < 52 then some (.inr (13, [.ref (nSix (i - 2)), .int (nOp (i - 2)).2.2.1, .int (nOp (i - 2)).2.2.2]))
  else if i = 52 then some (.inl (6, 50, .inr (.inr (.inr (.inr (fun j => some (j + 2)))))))
  else if i = 53 then nStr 50 else if i = 54 then nBa 50
  else if i < 155 then (if (i - 55) % 2 = 0 then nStr ((i - 55) / 2) else nBa ((i - 55) / 2)) else none
def nOld (L : Nat) (xs : Nat → Int32) : mH := (List.range 158).map (nCell L xs)
def nAd (sz b a1 : Nat) (aO aS aB : Nat → Nat) (aA a3 a4 a5 : Nat) (i : Nat) : Nat :=
  if i = 0 then b else if i = 1 then a1 else if i < 52 then aO (i - 2) else if i = 52 then aA else if i = 53 then aS 50 else if i = 54 then aB 50
  else if i < 155 then (if (i - 55) % 2 = 0 then aS ((i - 55) / 2) else aB ((i - 55) / 2)) else if i = 155 then a3 else if i = 156 then a4 else if i = 157 then a5 else sz + (i - 158)
theorem nAd_S {sz b a1 : Nat} {aO aS aB : Nat → Nat} {aA a3 a4 a5 k : Nat} (hk : k < 51) : nAd sz b a1 aO aS aB aA a3 a4 a5 (nSix k) = aS k ∧ nAd sz b a1 aO aS aB aA a3 a4 a5 (nSix k + 1) = aB k := by
  unfold nSix
  by_cases h : k = 50
  · subst h
    exact ⟨rfl, rfl⟩
  · rw [if_neg h]
    unfold nAd
    refine ⟨?_, ?_⟩
    · rw [if_neg (by omega), if_neg (by omega), if_neg (by omega), if_neg (by omega), if_neg (by omega), if_neg (by omega), if_pos (by omega), if_pos (by omega)]
      congr 1
      omega
    · rw [if_neg (by omega), if_neg (by omega), if_neg (by omega), if_neg (by omega), if_neg (by omega), if_neg (by omega), if_pos (by omega), if_neg (by omega)]
      congr 1
      omega
theorem nAd_O {sz b a1 : Nat} {aO aS aB : Nat → Nat} {aA a3 a4 a5 k : Nat} (hk : k < 50) : nAd sz b a1 aO aS aB aA a3 a4 a5 (k + 2) = aO k := by
  unfold nAd
  rw [if_neg (by omega), if_neg (by omega), if_pos (by omega), Nat.add_sub_cancel]
theorem mOF.of {args : Array Value} {s : State} {t : Term} {a : Nat} {o n d : String} {v : Value} (ht : t.eval args s none [] s = some (.ref a)) (hv : (Term.field t o n d).eval args s none [] s = some v) : mOF o n d v a s s.heap := by
  obtain ⟨cf, k, fi, f, cell, h1, h2, h3, h4, h5, -⟩ := vk_OFof (A := fun _ => False) ht hv (fun _ _ h => h)
  exact ⟨cf, k, fi, f, cell, h1, h2, h3, h4, h5⟩
def nZv (v3 v4 v5 : Value) : List (String × String × String × Value) := [("java/lang/Throwable", "UNASSIGNED_STACK", "[Ljava/lang/StackTraceElement;", v3), ("java/lang/Throwable", "SUPPRESSED_SENTINEL", "Ljava/util/List;", v4), ("jdk/internal/util/Preconditions", "SIOOBE_FORMATTER", "Ljava/util/function/BiFunction;", v5)]
set_option maxRecDepth 100000 in
theorem nInst : nCl.all (fun q => nTb.any (fun w => match w with
  | .instantiable C _ => C == q.1
  | _ => false)) = true := by decide +kernel
set_option maxRecDepth 100000 in
theorem nStrs_tb : nStrs.all (fun q => nTb.any (fun v => kPre v (.stringRef q.1 q.2.1 q.2.2) && decide (v = .stringRef q.1 q.2.1 q.2.2))) = true := by decide +kernel
set_option maxRecDepth 100000 in
theorem nStrs_gv : nStrs.all (fun q => decide (Cond.exactly (.string q.1 q.2.1) "java/lang/String" ∈ nGv)) = true := by decide +kernel
set_option maxRecDepth 100000 in
theorem nNcs_gv : nNcs.all (fun q => decide (Cond.not (.castable (nEX q.1) (nEX q.2)) ∈ nGv)) = true := by decide +kernel
set_option maxRecDepth 100000 in
theorem nArr_tb : ([.int, .long, .char, .boolean] : List FieldType).all (fun t => decide (Cond.arrayClass t ∈ nTb)) = true := by decide +kernel
abbrev nFmL : Cond := .laysStatic "jdk/internal/util/Preconditions" "SIOOBE_FORMATTER" "Ljava/util/function/BiFunction;"
abbrev nFm : Cond := .isRef (.static "jdk/internal/util/Preconditions" "SIOOBE_FORMATTER" "Ljava/util/function/BiFunction;")
abbrev nLo (n : String) : Cond := .laysStatic "MixMachine$Operation" n "LMixMachine$Operation;"
abbrev nW1 : List Cond := [Cond.laysStatic "MixMachine$Units" "BUSY_STEPS" "[I", .initialized "MixMachine$Units", .initialized "MixMachine$Operation", .laysStatic "MixMachine$Operation" "ALL" "[LMixMachine$Operation;", nLo "NOP", nLo "EQU", nLo "ORIG", nLo "CON", nLo "END", .laysStatic "java/lang/String" "COMPACT_STRINGS" "Z", .initialized "java/lang/String", nFmL, .initialized "jdk/internal/util/Preconditions", mUnasL, mSentL, .initialized "java/lang/Throwable", .stringRef "MixMachine$Operation" 198 "A123456X"]
set_option maxRecDepth 100000 in
theorem nSt_tb : nW1.all (fun w => decide (w ∈ nTb)) = true := by decide +kernel
abbrev nBt : Term := .static "MixMachine$Units" "BUSY_STEPS" "[I"
abbrev nW2 : List Cond := [Cond.arrayOf nBt .int, .eq (.length nBt) (.int 3), .eq (.elem nBt (.int 0)) (.int 4), .eq (.elem nBt (.int 1)) (.int 8), .eq (.elem nBt (.int 2)) (.int 6), .eq (.static "java/lang/String" "COMPACT_STRINGS" "Z") (.int 1), mUnas, mSent, nFm]
set_option maxRecDepth 100000 in
theorem nSt_gv : nW2.all (fun w => decide (w ∈ nGv)) = true := by decide +kernel
theorem nMem {l r : List Cond} (h : l.all (fun w => decide (w ∈ r)) = true) {w : Cond} (hw : w ∈ l) : w ∈ r := of_decide_eq_true (List.all_eq_true.mp h w hw)
theorem mRefV {args : Array Value} {s : State} {C n d : String} (h : (Cond.isRef (.static C n d)).before args s = true) : (Term.static C n d).eval args s none [] s = some .null ∨ ∃ t, (Term.static C n d).eval args s none [] s = some (.ref t) := by
  cases hv : (Term.static C n d).eval args s none [] s with
  | none => simp [Cond.before, Cond.holds, Cond.value, hv] at h
  | some w =>
    simp only [Cond.before, Cond.holds, Cond.value, hv] at h
    cases w with
    | null => exact Or.inl rfl
    | ref t => exact Or.inr ⟨t, rfl⟩
    | _ => simp at h
def nRv (sz k b : Nat) (v : Value) : Nat × Value := match v with
  | .ref t => if t < sz then (t, .ref k) else (b, .ref (158 + (t - sz)))
  | v => (b, v)
theorem nRv_lt {sz k b : Nat} {v : Value} (hb : b < sz) : (nRv sz k b v).1 < sz := by
  unfold nRv
  split
  · split
    · assumption
    · exact hb
  · exact hb
theorem nRv_eq (sz k b t : Nat) : nRv sz k b (.ref t) = if t < sz then (t, .ref k) else (b, .ref (158 + (t - sz))) := rfl
theorem nRv_ad {sz k b : Nat} {v : Value} {ad : Nat → Nat} (hv : v = .null ∨ ∃ t, v = .ref t) (h1 : ad k = (nRv sz k b v).1) (h2 : ∀ i, ad (158 + i) = sz + i) : mT ad (nRv sz k b v).2 = v := by
  rcases hv with rfl | ⟨t, rfl⟩
  · rfl
  · rw [nRv_eq] at h1 ⊢
    by_cases hlt : t < sz
    · rw [if_pos hlt] at h1 ⊢
      exact congrArg Value.ref h1
    · rw [if_neg hlt]
      exact congrArg Value.ref ((h2 (t - sz)).trans (Nat.add_sub_of_le (Nat.not_lt.mp hlt)))
theorem nRv_ref {sz k b : Nat} {v : Value} (hv : v = .null ∨ ∃ t, v = .ref t) : (nRv sz k b v).2 = .null ∨ ∃ t, (nRv sz k b v).2 = .ref t := by
  rcases hv with rfl | ⟨t, rfl⟩
  · exact Or.inl rfl
  · rw [nRv_eq]
    by_cases hlt : t < sz
    · rw [if_pos hlt]
      exact Or.inr ⟨_, rfl⟩
    · rw [if_neg hlt]
      exact Or.inr ⟨_, rfl⟩
theorem nOrd : ∀ k k' : Fin 50, Int32.ofNat k.val = Int32.ofNat k'.val → k = k' := by decide +kernel
theorem nBl : ∀ k : Fin 51, (nBy k.val).length < 100 := by decide +kernel
set_option maxHeartbeats 4000000 in
theorem nStart {s : State} {args : Array Value} {b L : Nat} {xs : Nat → Int32} (hts : ∀ w ∈ nTb, w.before args s = true) (hX : va_X b L xs s s.heap) (hb : b < s.heap.size) (hg : (Jvm.Cond.and given_1 narrow_1).before args s = true) :
    ∃ (D : va_G) (tyC : Nat → ClassId) (ad : Nat → Nat) (v3 v4 v5 : Value), mAd 158 s.heap.size ad ∧ ad 0 = b ∧ (v3 = .null ∨ ∃ t, v3 = .ref t) ∧ (v4 = .null ∨ ∃ t, v4 = .ref t) ∧ (v5 = .null ∨ ∃ t, v5 = .ref t) ∧ mOK D nCl tyC 158 s.heap.size ad (nZ0 ++ nZv v3 v4 v5) s (nOld L xs) s.heap ∧ mK2 ad nStrs nNcs nEX s := by
  have hgv : ∀ w ∈ nGv, w.before args s = true := flat_of_before _ hg
  have hA : ∀ a : Nat, a < s.heap.size → ¬ mNew s.heap.size a := fun a h1 h2 => absurd h1 (Nat.not_lt.mpr h2)
  have hcls : ∀ c : Nat, ∃ r : ClassId × (Nat → Nat), ∀ q : vw_C, nCl[c]? = some q → u_Kn s q.1 q.2.1 q.2.2 r.1 r.2 := fun c => by
    cases hq : nCl[c]? with
    | none => exact ⟨(0, fun _ => 0), fun q h => by cases h⟩
    | some q =>
      obtain ⟨w, hw, hw1⟩ := List.any_eq_true.mp (List.all_eq_true.mp nInst q (List.mem_of_getElem? hq))
      obtain ⟨C, T, N⟩ := q
      dsimp only at hw1
      split at hw1
      · rename_i C' n
        have hC : C' = C := by simpa using hw1
        subst hC
        obtain ⟨k1, -, -⟩ := kCl_ok (S := kM nTb) (Ts := mTs' nTb) (fun _ h => kM_ok h) (List.all_eq_true.mp nCl_ok _ (List.mem_of_getElem? hq))
        obtain ⟨cC, iS, hk⟩ := u_known (ws := mTs' nTb) (fun w hw => hts w (List.mem_filter.mp hw).1) k1 (hts _ hw)
        exact ⟨(cC, iS), fun q h => by cases h; exact hk⟩
      · cases hw1
  obtain ⟨f, hf⟩ := Classical.axiomOfChoice hcls
  have harr : ∀ t ∈ ([.int, .long, .char, .boolean] : List FieldType), ∃ cA : ClassId, ArrOfT s cA t ∧ s.vm.findClass ("[" ++ t.toString) = some cA := fun t ht => by
    obtain ⟨c, k, comp, h1, h2, h3⟩ := Cond.arrayClass_spec (hts _ (of_decide_eq_true (List.all_eq_true.mp nArr_tb t ht)))
    exact ⟨c, fun n z => ⟨fun _ h => (by cases h), k, h2, comp, h3⟩, h1⟩
  obtain ⟨ci, ci1, ci2⟩ := harr .int (by decide)
  obtain ⟨cj, cj1, cj2⟩ := harr .long (by decide)
  obtain ⟨cc, cc1, cc2⟩ := harr .char (by decide)
  obtain ⟨cz, cz1, cz2⟩ := harr .boolean (by decide)
  have gv : ∀ {w : Cond}, w ∈ nW2 → w.before args s = true := fun hw => hgv _ (nMem nSt_gv hw)
  have tb : ∀ {w : Cond}, w ∈ nW1 → w.before args s = true := fun hw => hts _ (nMem nSt_tb hw)
  -- BUSY_STEPS
  obtain ⟨t1, ht1, cell1, e1, e2, e3, e4, e5, e6, -⟩ := va_Tof (tm := nBt) (ty := .int) (N := 3) (f := fun j => .int (nBusy j)) (A := mNew s.heap.size) (by decide) (gv (by simp)) (va_eqt (gv (by simp))) (fun j hj => by
    match j, hj with
    | 0, _ => exact va_eqt (z := 4) (gv (w := .eq (.elem nBt (.int 0)) (.int 4)) (by simp))
    | 1, _ => exact va_eqt (z := 8) (gv (w := .eq (.elem nBt (.int 1)) (.int 8)) (by simp))
    | 2, _ => exact va_eqt (z := 6) (gv (w := .eq (.elem nBt (.int 2)) (.int 6)) (by simp))) hA
  have l1 : t1 < s.heap.size := (Array.getElem?_eq_some_iff.mp e1).1
  -- the operations
  have hO0 : ∀ k : Nat, ∃ a : Nat, k < 50 → (nSo k).eval args s none [] s = some (.ref a) ∧ a < s.heap.size ∧ ∃ cell : Cell, s.heap[a]? = some cell ∧ cell.vm.isStatics = false ∧ s.vm.findClass "MixMachine$Operation" = some cell.cls := fun k => by
    by_cases hk : k < 50
    · obtain ⟨a, c, cell, kk, q1, q2, q3, q4, q5, q6, -⟩ := Cond.exactly_spec (nPr hgv (nPo (a := 0) (by simp) hk))
      exact ⟨a, fun _ => ⟨q1, (Array.getElem?_eq_some_iff.mp q3).1, cell, q3, q5, by rw [q6]; exact q2⟩⟩
    · exact ⟨0, fun h => absurd h hk⟩
  obtain ⟨aO, hO⟩ := Classical.axiomOfChoice hO0
  -- the Strings
  have hS0 : ∀ k : Nat, ∃ a : Nat, k < 51 → (nSg k).eval args s none [] s = some (.ref a) ∧ a < s.heap.size ∧ ∃ cell : Cell, s.heap[a]? = some cell ∧ cell.vm.isStatics = false ∧ s.vm.findClass "java/lang/String" = some cell.cls := fun k => by
    by_cases hk : k < 51
    · obtain ⟨a, c, cell, kk, q1, q2, q3, q4, q5, q6, -⟩ := Cond.exactly_spec (nPr hgv (nPs (a := 5) (by simp) hk))
      exact ⟨a, fun _ => ⟨q1, (Array.getElem?_eq_some_iff.mp q3).1, cell, q3, q5, by rw [q6]; exact q2⟩⟩
    · exact ⟨0, fun h => absurd h hk⟩
  obtain ⟨aS, hS⟩ := Classical.axiomOfChoice hS0
  have hB0 : ∀ k : Nat, ∃ a : Nat, k < 51 → (nSv k).eval args s none [] s = some (.ref a) ∧ a < s.heap.size ∧ mOld .byte a (nBy k).length (fun j => .int ((nBy k).getD j 0)) s s.heap := fun k => by
    by_cases hk : k < 51
    · obtain ⟨t, ht, cell, g1, g2, g3, g4, g5, g6, -⟩ := va_Tof (tm := nSv k) (ty := .byte) (N := (nBy k).length) (f := fun j => .int ((nBy k).getD j 0)) (A := mNew s.heap.size) (by have := nBl ⟨k, hk⟩; have h2 : (nBy k).length < 100 := this; omega) (nPr hgv (nPs (a := 7) (by simp) hk)) (va_eqt (nPr hgv (nPs (a := 8) (by simp) hk))) (fun j hj => va_eqt (nPr hgv (nPb hk hj))) hA
      exact ⟨t, fun _ => ⟨ht, (Array.getElem?_eq_some_iff.mp g1).1, cell, g1, g2, g3, g4, g5, g6⟩⟩
    · exact ⟨0, fun h => absurd h hk⟩
  obtain ⟨aB, hB⟩ := Classical.axiomOfChoice hB0
  -- ALL
  obtain ⟨tA, htA, cellA, u1, u2, u3, u4, u5, u6, -⟩ := va_Tof (tm := nSa) (ty := .object "MixMachine$Operation") (N := 50) (f := fun j => .ref (aO j)) (A := mNew s.heap.size) (by decide) (nPr hgv nPa.1) (va_eqt (nPr hgv nPa.2)) (fun j hj => va_eqv (nPr hgv (nPo (a := 10) (by simp) hj)) (hO j hj).1) hA
  have lA : tA < s.heap.size := (Array.getElem?_eq_some_iff.mp u1).1
  -- the statics that nobody looks into
  have hvr : ∀ {C n d : String}, (Cond.isRef (.static C n d)).before args s = true → ∃ v, (Term.static C n d).eval args s none [] s = some v ∧ (v = .null ∨ ∃ t, v = .ref t) := fun h => (mRefV h).elim (fun h => ⟨_, h, Or.inl rfl⟩) (fun ⟨t, h⟩ => ⟨_, h, Or.inr ⟨t, rfl⟩⟩)
  obtain ⟨v3, h3, h3r⟩ := hvr (gv (w := mUnas) (by simp))
  obtain ⟨v4, h4, h4r⟩ := hvr (gv (w := mSent) (by simp))
  obtain ⟨v5, h5, h5r⟩ := hvr (gv (w := nFm) (by simp))
  generalize hA3 : (nRv s.heap.size 155 b v3).1 = a3
  generalize hA4 : (nRv s.heap.size 156 b v4).1 = a4
  generalize hA5 : (nRv s.heap.size 157 b v5).1 = a5
  have q3 : a3 < s.heap.size := by rw [← hA3]; exact nRv_lt hb
  have q4 : a4 < s.heap.size := by rw [← hA4]; exact nRv_lt hb
  have q5 : a5 < s.heap.size := by rw [← hA5]; exact nRv_lt hb
  generalize hadd : nAd s.heap.size b t1 aO aS aB tA a3 a4 a5 = ad
  have adS : ∀ k, k < 51 → ad (nSix k) = aS k ∧ ad (nSix k + 1) = aB k := fun k hk => by rw [← hadd]; exact nAd_S hk
  have adO : ∀ k, k < 50 → ad (k + 2) = aO k := fun k hk => by rw [← hadd]; exact nAd_O hk
  have adN : ∀ i, ad (158 + i) = s.heap.size + i := fun i => by
    rw [← hadd]
    unfold nAd
    rw [if_neg (by omega), if_neg (by omega), if_neg (by omega), if_neg (by omega), if_neg (by omega), if_neg (by omega), if_neg (by omega), if_neg (by omega), if_neg (by omega), if_neg (by omega), Nat.add_sub_cancel_left]
  have ad0 : ad 0 = b := by rw [← hadd]; rfl
  have ad1 : ad 1 = t1 := by rw [← hadd]; rfl
  have ad52 : ad 52 = tA := by rw [← hadd]; rfl
  have ad155 : ad 155 = a3 := by rw [← hadd]; rfl
  have ad156 : ad 156 = a4 := by rw [← hadd]; rfl
  have ad157 : ad 157 = a5 := by rw [← hadd]; rfl
  -- where a cell of the third part lies
  have cut : ∀ i, i < 158 → i = 0 ∨ i = 1 ∨ (∃ k, k < 50 ∧ i = k + 2) ∨ i = 52 ∨ (∃ k, k < 51 ∧ i = nSix k) ∨ (∃ k, k < 51 ∧ i = nSix k + 1) ∨ i = 155 ∨ i = 156 ∨ i = 157 := fun i hi => by
    by_cases c1 : i < 52
    · by_cases c0 : i < 2
      · omega
      · exact Or.inr (Or.inr (Or.inl ⟨i - 2, by omega, by omega⟩))
    · by_cases c2 : i = 53
      · exact Or.inr (Or.inr (Or.inr (Or.inr (Or.inl ⟨50, by omega, c2⟩))))
      · by_cases c3 : i = 54
        · exact Or.inr (Or.inr (Or.inr (Or.inr (Or.inr (Or.inl ⟨50, by omega, c3⟩)))))
        · by_cases c4 : 55 ≤ i ∧ i < 155
          · by_cases c5 : (i - 55) % 2 = 0
            · refine Or.inr (Or.inr (Or.inr (Or.inr (Or.inl ⟨(i - 55) / 2, by omega, ?_⟩))))
              unfold nSix
              rw [if_neg (by omega)]
              omega
            · refine Or.inr (Or.inr (Or.inr (Or.inr (Or.inr (Or.inl ⟨(i - 55) / 2, by omega, ?_⟩)))))
              unfold nSix
              rw [if_neg (by omega)]
              omega
          · omega
  have cO : ∀ k, k < 50 → nCell L xs (k + 2) = some (.inr (13, [.ref (nSix k), .int (nOp k).2.2.1, .int (nOp k).2.2.2])) := fun k hk => by
    unfold nCell
    rw [if_neg (by omega), if_neg (by omega), if_pos (by omega), Nat.add_sub_cancel]
  have cS : ∀ k, k < 51 → nCell L xs (nSix k) = nStr k ∧ nCell L xs (nSix k + 1) = nBa k := fun k hk => by
    unfold nSix
    by_cases h : k = 50
    · subst h
      exact ⟨rfl, rfl⟩
    · rw [if_neg h]
      unfold nCell
      refine ⟨?_, ?_⟩
      · rw [if_neg (by omega), if_neg (by omega), if_neg (by omega), if_neg (by omega), if_neg (by omega), if_neg (by omega), if_pos (by omega), if_pos (by omega)]
        congr 1
        omega
      · rw [if_neg (by omega), if_neg (by omega), if_neg (by omega), if_neg (by omega), if_neg (by omega), if_neg (by omega), if_pos (by omega), if_neg (by omega)]
        congr 1
        omega
  have ordE : ∀ k, k < 50 → s.fieldOf? (aO k) "java/lang/Enum" "ordinal" "I" = some (.int (Int32.ofNat k)) := fun k hk => by
    have o := va_eqt (nPr hgv (nPo (a := 1) (by simp) hk))
    rw [va_fe (hO k hk).1] at o
    exact o
  have len0 : (nOld L xs).length = 158 := by unfold nOld; rw [List.length_map, List.length_range]
  refine ⟨(fun c => (f c).1, fun c => (f c).2), fun t => match t with
    | 0 => ci
    | 1 => cj
    | 2 => cc
    | _ => cz, ad, (nRv s.heap.size 155 b v3).2, (nRv s.heap.size 156 b v4).2, (nRv s.heap.size 157 b v5).2, ⟨fun i hi => ?_, fun i hi => ?_, fun i j hi hj he => ?_⟩, ad0, nRv_ref h3r, nRv_ref h4r, nRv_ref h5r, ⟨⟨fun c q hq => hf c q hq, fun k q hk => ?_⟩, ⟨by rw [len0]; exact Nat.le_refl _, fun i h1 h2 => ?_⟩, by rw [len0]; rfl, fun i c hc => ?_, fun z hz => ?_⟩, fun q hq => ?_, fun q hq => ?_, ?_⟩
  · rcases cut i hi with rfl | rfl | ⟨k, hk, rfl⟩ | rfl | ⟨k, hk, rfl⟩ | ⟨k, hk, rfl⟩ | rfl | rfl | rfl
    · rw [ad0]; exact hb
    · rw [ad1]; exact l1
    · rw [adO k hk]; exact (hO k hk).2.1
    · rw [ad52]; exact lA
    · rw [(adS k hk).1]; exact (hS k hk).2.1
    · rw [(adS k hk).2]; exact (hB k hk).2.1
    · rw [ad155]; exact q3
    · rw [ad156]; exact q4
    · rw [ad157]; exact q5
  · have := adN (i - 158)
    rw [Nat.add_sub_of_le hi] at this
    exact this
  · obtain ⟨i1, i2⟩ := hi
    obtain ⟨j1, j2⟩ := hj
    have hi' : ad (i - 2 + 2) = ad (j - 2 + 2) := by rw [Nat.sub_add_cancel i1, Nat.sub_add_cancel j1]; exact he
    rw [adO _ (by omega), adO _ (by omega)] at hi'
    have o1 := ordE (i - 2) (by omega)
    have o2 := ordE (j - 2) (by omega)
    rw [← hi', o1] at o2
    have o3 := nOrd ⟨i - 2, by omega⟩ ⟨j - 2, by omega⟩ (Value.int.inj (Option.some.inj o2))
    have o4 : i - 2 = j - 2 := congrArg Fin.val o3
    omega
  · match k, hk with
    | 0, hk => cases hk; exact ⟨ci1, ci2⟩
    | 1, hk => cases hk; exact ⟨cj1, cj2⟩
    | 2, hk => cases hk; exact ⟨cc1, cc2⟩
    | 3, hk => cases hk; exact ⟨cz1, cz2⟩
    | k + 4, hk => cases hk
  · rw [len0] at h2
    exact absurd h2 (Nat.not_lt.mpr h1)
  · have hi : i < 158 := by
      have := (List.getElem?_eq_some_iff.mp hc).1
      rw [len0] at this
      exact this
    have hc' : nCell L xs i = some c := by
      unfold nOld at hc
      rw [List.getElem?_map, List.getElem?_range hi] at hc
      exact Option.some.inj hc
    rcases cut i hi with rfl | rfl | ⟨k, hk, rfl⟩ | rfl | ⟨k, hk, rfl⟩ | ⟨k, hk, rfl⟩ | rfl | rfl | rfl
    · cases hc'
      obtain ⟨scr, x1, x2, x3, x4, x5⟩ := hX
      exact ⟨scr, by rw [ad0]; exact x1, x2, x3, by omega, by rw [x4], x5⟩
    · cases hc'
      exact ⟨cell1, by rw [ad1]; exact e1, e2, e3, e4, e5, e6⟩
    · rw [cO k hk] at hc'
      cases hc'
      refine Or.inr ⟨rfl, ?_⟩
      rw [adO k hk]
      obtain ⟨o1, -, o2⟩ := hO k hk
      refine ⟨o2, fun j q hj => ?_⟩
      match j, hj with
      | 0, hj =>
        cases hj
        refine ⟨_, rfl, ?_⟩
        show mOF _ _ _ (.ref (ad (nSix k))) _ _ _
        rw [(adS k (by omega)).1]
        exact mOF.of o1 (va_eqv (nPr hgv (nPo (a := 2) (by simp) hk)) (hS k (by omega)).1)
      | 1, hj => cases hj; exact ⟨_, rfl, mOF.of o1 (va_eqt (nPr hgv (nPo (a := 3) (by simp) hk)))⟩
      | 2, hj => cases hj; exact ⟨_, rfl, mOF.of o1 (va_eqt (nPr hgv (nPo (a := 4) (by simp) hk)))⟩
      | j + 3, hj => cases hj
    · cases hc'
      refine (show mOld mOp (ad 52) 50 _ s s.heap from ⟨cellA, by rw [ad52]; exact u1, u2, u3, u4, u5, fun j hj => ?_⟩)
      rw [u6 j hj]
      show some (Value.ref (aO j)) = some (.ref (ad (j + 2)))
      rw [adO j hj]
    · rw [(cS k hk).1] at hc'
      cases hc'
      refine Or.inr ⟨rfl, ?_⟩
      rw [(adS k hk).1]
      obtain ⟨o1, -, o2⟩ := hS k hk
      refine ⟨o2, fun j q hj => ?_⟩
      match j, hj with
      | 0, hj =>
        cases hj
        refine ⟨_, rfl, ?_⟩
        show mOF _ _ _ (.ref (ad (nSix k + 1))) _ _ _
        rw [(adS k hk).2]
        exact mOF.of o1 (hB k hk).1
      | 1, hj => cases hj; exact ⟨_, rfl, mOF.of o1 (va_eqt (nPr hgv (nPs (a := 6) (by simp) hk)))⟩
      | j + 2, hj => cases hj
    · rw [(cS k hk).2] at hc'
      cases hc'
      refine (show mOld .byte (ad (nSix k + 1)) _ _ s s.heap from ?_)
      rw [(adS k hk).2]
      exact (hB k hk).2.2
    · cases hc'
    · cases hc'
    · cases hc'
  · have evO : ∀ k, k < 50 → (nSo k).eval args s none [] s = some (.ref (ad (k + 2))) := fun k hk => by rw [adO k hk]; exact (hO k hk).1
    have z1 := tb (w := .initialized "MixMachine$Operation") (by simp)
    simp only [nZ0, nZv, List.cons_append, List.nil_append, List.mem_cons, List.not_mem_nil, or_false] at hz
    rcases hz with rfl | rfl | rfl | rfl | rfl | rfl | rfl | rfl | rfl | rfl | rfl
    · exact mZ.of (tb (by simp)) (tb (by simp)) (by show _ = some (Value.ref (ad 1)); rw [ad1]; exact ht1) hA
    · exact mZ.of (tb (by simp)) z1 (by show _ = some (Value.ref (ad 52)); rw [ad52]; exact htA) hA
    · exact mZ.of (tb (by simp)) (tb (by simp)) (va_eqi (gv (by simp))) hA
    · exact mZ.of (tb (by simp)) z1 (evO 0 (by decide)) hA
    · exact mZ.of (tb (by simp)) z1 (evO 46 (by decide)) hA
    · exact mZ.of (tb (by simp)) z1 (evO 47 (by decide)) hA
    · exact mZ.of (tb (by simp)) z1 (evO 48 (by decide)) hA
    · exact mZ.of (tb (by simp)) z1 (evO 49 (by decide)) hA
    · dsimp only
      rw [nRv_ad h3r (by rw [ad155]; exact hA3.symm) adN]
      exact mZ.of (tb (w := mUnasL) (by simp)) (tb (by simp)) h3 hA
    · dsimp only
      rw [nRv_ad h4r (by rw [ad156]; exact hA4.symm) adN]
      exact mZ.of (tb (w := mSentL) (by simp)) (tb (by simp)) h4 hA
    · dsimp only
      rw [nRv_ad h5r (by rw [ad157]; exact hA5.symm) adN]
      exact mZ.of (tb (w := nFmL) (by simp)) (tb (by simp)) h5 hA
  · obtain ⟨a, -, -, -, ha, -⟩ := Cond.exactly_spec (hgv _ (of_decide_eq_true (List.all_eq_true.mp nStrs_gv q hq)))
    obtain ⟨v, hv, hv1⟩ := List.any_eq_true.mp (List.all_eq_true.mp nStrs_tb q hq)
    rw [Bool.and_eq_true, decide_eq_true_eq] at hv1
    exact ⟨a, vk_R.of (hts _ (by rw [← hv1.2]; exact hv)) ha⟩
  · exact va_Nc.of (hgv _ (of_decide_eq_true (List.all_eq_true.mp nNcs_gv q hq)))
  · refine vk_R.of (tb (w := .stringRef "MixMachine$Operation" 198 "A123456X") (by simp)) ?_
    show (nSg 50).eval args s none [] s = some (.ref (ad 53))
    have := (adS 50 (by decide)).1
    rw [show nSix 50 = 53 from rfl] at this
    rw [this]
    exact (hS 50 (by decide)).1
end
section
/-! THE ONE STATIC OF WHICH ONLY 'A REFERENCE OR NULL' IS SAID: it is passed on and dropped -/
def nC226w (w : Value) : List (Option mI) := nC226.set 2 (some (.getstatic 1053, 0, 0, 0, w))
def nCodw (w : Value) (i : Nat) : List (Option mI) := if i = 226 then nC226w w else nCods i
set_option maxRecDepth 100000 in
theorem nFk : nS nH226 (.fieldLink "java/lang/String" 1053 "jdk/internal/util/Preconditions" "SIOOBE_FORMATTER" "Ljava/util/function/BiFunction;") = true := by decide +kernel
set_option maxRecDepth 100000 in
theorem nFd : decide (decode (nMt 226).2.1 2 = .ok (.getstatic 1053, 3)) = true := by decide +kernel
set_option maxRecDepth 100000 in
theorem nFl : nC226.length = 10 ∧ (nC226[2]?).getD none = none ∧ (nMt 226).1.cls = "java/lang/String" := by decide +kernel
theorem mVM_same {cl : List vw_C} {zs : List (String × String × String × Value)} {Ts : List Cond} {dflt : Nat → List Value} {strs : List (String × Nat × String)} {ncs : List (Nat × Nat)} {EX : Nat → String} {ct : Nat → Nat} {P Q : Nat → Nat → Option mI} {Hn : Nat → List (Nat × Nat × Nat × Nat)} {mx : Nat → Nat} {mt : Nat → mMt} {mi : Nat} (h : ∀ pc, Q mi pc = P mi pc) (hv : mVM cl zs Ts dflt strs ncs EX ct P Hn mx mt mi) : mVM cl zs Ts dflt strs ncs EX ct Q Hn mx mt mi := by
  obtain ⟨w1, w2, w3, w4, w5, w6, w7, w8, w9⟩ := hv
  exact ⟨w1, w2, w3, w4, w5, w6, fun pc en he => w7 pc en (by rw [← h]; exact he), w8, fun hn pc en he => w9 hn pc en (by rw [← h]; exact he)⟩
theorem nVMw (v3 v4 v5 : Value) (mi : Nat) (h : mP' (nCodw v5) mi 0 ≠ none) : mVM nCl (nZ0 ++ nZv v3 v4 v5) (mTs' nTb) nDflt nStrs nNcs nEX nCt (mP' (nCodw v5)) nHn (fun i => (nMt i).2.2.1) nMt mi := by
  by_cases hm : mi = 226
  · subst hm
    have h0 : mP' nCods 226 0 ≠ none := by
      intro q
      have : (mP' nCods 226 0).isSome = true := by decide +kernel
      rw [q] at this
      cases this
    obtain ⟨w1, w2, w3, w4, w5, w6, w7, w8, w9⟩ := nVM (nZv v3 v4 v5) 226 h0
    obtain ⟨l1, l2, l3⟩ := nFl
    refine ⟨w1, w2, w3, w4, w5, w6, fun pc en he => ?_, w8, fun hn => absurd rfl hn⟩
    have he : mP' (nCodw v5) 226 pc = some en := he
    unfold mP' at he
    have e1 : nCodw v5 226 = nC226w v5 := if_pos rfl
    rw [e1] at he
    unfold nC226w at he
    by_cases hp : pc = 2
    · subst hp
      rw [List.getElem?_set_self (by rw [l1]; decide)] at he
      cases he
      refine ⟨of_decide_eq_true nFd, ⟨trivial, ⟨_, _, _, List.mem_append_right _ (List.mem_cons_of_mem _ (List.mem_cons_of_mem _ List.mem_cons_self)), Or.inl ?_⟩, trivial, fun _ => trivial, fun q => by cases q⟩, trivial, fun _ => trivial, fun x hx => by cases hx⟩
      rw [l3]
      exact nS_ok _ _ nFk
    · rw [List.getElem?_set_ne (Ne.symm hp)] at he
      exact w7 pc en he
  · have e1 : nCodw v5 mi = nCods mi := if_neg hm
    have e2 : ∀ pc, mP' (nCodw v5) mi pc = mP' nCods mi pc := fun pc => by unfold mP'; rw [e1]
    exact mVM_same e2 (nVM (nZv v3 v4 v5) mi (by rw [← e2]; exact h))
end
section
/-! THE SMALL MACHINE WITH RANGES: .float: an unknown int (its number, and what is added to it), .double: an unknown long, .retAddr: an unknown reference; what is known: a range for each number. An array: one range for all its places. The heap: its known cells, and how many thrown objects lie behind them. A run answers the list of all that can come of it. -/
abbrev rF : Type := List (Int × Int)
abbrev rC : Type := Option ((Nat × Nat × Int × Int) ⊕ (Nat × List Value))
abbrev rH : Type := List rC × Value
abbrev rT : Type := rF × Nat × mL × List Value × rH
abbrev rO : Type := Option Value ⊕ Nat
abbrev rR : Type := rF × rO × rH
def rI0 : Int := -2147483648
def rI1 : Int := 2147483647
def rL0 : Int := -9223372036854775808
def rL1 : Int := 9223372036854775807
def rId (b : UInt32) : Nat := b.toNat / 65536
def rOf (b : UInt32) : Int := ((b.toNat % 65536 : Nat) : Int) - 32768
def rMk (id : Nat) (off : Int) : Value := .float (UInt32.ofNat (id * 65536 + (off + 32768).toNat))
/-- a bound that is told by another number: a number and what is added to it -/
def rCl (l : Int) : Option (Nat × Int) := if l ≤ -100000000000000000000 then some (((-l - 100000000000000000000) / 1000000).toNat, (-l - 100000000000000000000) % 1000000 - 500000) else none
def rCu (u : Int) : Option (Nat × Int) := if 100000000000000000000 ≤ u then some (((u - 100000000000000000000) / 1000000).toNat, (u - 100000000000000000000) % 1000000 - 500000) else none
def rLo (fs : rF) : Nat → Int → Int
  | 0, l => l
  | n + 1, l => match rCl l with
    | none => l
    | some jc => match fs[jc.1]? with
      | some q => rLo fs n q.1 + jc.2
      | none => l
def rHi (fs : rF) : Nat → Int → Int
  | 0, u => u
  | n + 1, u => match rCu u with
    | none => u
    | some jc => match fs[jc.1]? with
      | some q => rHi fs n q.2 + jc.2
      | none => u
def rRg (fs : rF) (v : Value) : Option (Int × Int) := match v with
  | .int x => some (x.toInt, x.toInt)
  | .float b => match fs[rId b]? with
    | some q => if rI0 ≤ rLo fs 6 q.1 + rOf b ∧ rHi fs 6 q.2 + rOf b ≤ rI1 then some (rLo fs 6 q.1 + rOf b, rHi fs 6 q.2 + rOf b) else none
    | none => none
  | _ => none
def rRl (fs : rF) (v : Value) : Option (Int × Int) := match v with
  | .long x => some (x.toInt, x.toInt)
  | .double b => match fs[b.toNat]? with
    | some q => if rL0 ≤ q.1 ∧ q.2 ≤ rL1 then some q else none
    | none => none
  | _ => none
/-- a new unknown int, a new unknown long -/
def rNi (fs : rF) (l h : Int) : rF × Value := if l = h ∧ rI0 ≤ l ∧ l ≤ rI1 then (fs, .int (Int32.ofInt l)) else if rI0 ≤ l ∧ h ≤ rI1 then (fs ++ [(l, h)], rMk fs.length 0) else (fs ++ [(rI0, rI1)], rMk fs.length 0)
def rNl (fs : rF) (l h : Int) : rF × Value := if l = h ∧ rL0 ≤ l ∧ l ≤ rL1 then (fs, .long (Int64.ofInt l)) else if rL0 ≤ l ∧ h ≤ rL1 then (fs ++ [(l, h)], .double (UInt64.ofNat fs.length)) else (fs ++ [(rL0, rL1)], .double (UInt64.ofNat fs.length))
def rMin (a b : Int) : Int := if a ≤ b then a else b
def rMax (a b : Int) : Int := if a ≤ b then b else a
/-- an int of two ints: its range; none: it can fail -/
def rBin (i : Instr) (x y : Int × Int) : Option (Int × Int) := match i with
  | .iadd => some (x.1 + y.1, x.2 + y.2)
  | .isub => some (x.1 - y.2, x.2 - y.1)
  | .imul => if 0 ≤ x.1 ∧ 0 ≤ y.1 then some (0, x.2 * y.2) else some (rI0, rI1)
  | .idiv => if 1 ≤ y.1 ∨ y.2 ≤ -1 then some (rI0, rI1) else none
  | .irem => if 1 ≤ y.1 ∨ y.2 ≤ -1 then some (if 0 ≤ x.1 ∧ 1 ≤ y.1 then (0, y.2 - 1) else (rI0, rI1)) else none
  | .iand => if 0 ≤ y.1 then some (0, y.2) else some (rI0, rI1)
  | .ior => some (rI0, rI1)
  | .ixor => some (rI0, rI1)
  | .ishl => some (rI0, rI1)
  | .ishr => some (rI0, rI1)
  | .iushr => if y.1 = y.2 ∧ 1 ≤ y.1 ∧ y.1 ≤ 31 then some (0, rI1) else some (rI0, rI1)
  | _ => none
def rBil (i : Instr) (x y : Int × Int) : Option (Int × Int) := match i with
  | .ladd => some (rL0, rL1)
  | .lsub => some (rL0, rL1)
  | .lmul => some (rL0, rL1)
  | .ldiv => if 1 ≤ y.1 ∨ y.2 ≤ -1 then some (rL0, rL1) else none
  | .lrem => if 1 ≤ y.1 ∨ y.2 ≤ -1 then some (rL0, rL1) else none
  | .land => if y.1 = 255 ∧ y.2 = 255 ∧ 0 ≤ x.1 ∧ x.1 / 256 = x.2 / 256 then some (x.1 % 256, x.2 % 256) else if 0 ≤ y.1 then some (0, y.2) else some (rL0, rL1)
  | .lor => if 0 ≤ x.1 ∧ 0 ≤ y.1 then (if y.1 = y.2 ∧ y.1 % 256 = 0 ∧ x.2 < 256 then some (x.1 + y.1, x.2 + y.1) else some (rMax x.1 y.1, x.2 + y.2)) else some (rL0, rL1)
  | _ => none
def rShl (x y : Int × Int) : Int × Int := if y.1 = y.2 ∧ 0 ≤ y.1 ∧ y.1 < 63 ∧ 0 ≤ x.1 ∧ x.2 * 2 ^ y.1.toNat ≤ rL1 then (x.1 * 2 ^ y.1.toNat, x.2 * 2 ^ y.1.toNat) else (rL0, rL1)
def rShr (x y : Int × Int) : Int × Int := if y.1 = y.2 ∧ 0 ≤ y.1 ∧ y.1 < 63 ∧ 0 ≤ x.1 then (x.1 / 2 ^ y.1.toNat, x.2 / 2 ^ y.1.toNat) else (rL0, rL1)
/-- a number with something added -/
def rPlus (fs : rF) (v : Value) (c : Int) : Option Value := match v with
  | .float b => if -30000 ≤ rOf b + c ∧ rOf b + c ≤ 30000 then (match rRg fs v with
    | some q => if rI0 ≤ q.1 + c ∧ q.2 + c ≤ rI1 then some (rMk (rId b) (rOf b + c)) else none
    | none => none) else none
  | _ => none
/-- what is done with unknown numbers, without a question: what stands on the stack, the facts -/
def rU (fs : rF) (i : Instr) (st : List Value) : Option (rF × List Value) := match i, st with
  | .i2l, v :: r => (rRg fs v).map (fun q => ((rNl fs q.1 q.2).1, (rNl fs q.1 q.2).2 :: r))
  | .l2i, v :: r => (rRl fs v).map (fun q => ((rNi fs q.1 q.2).1, (rNi fs q.1 q.2).2 :: r))
  | .i2c, v :: r => match rRg fs v with
    | some q => if 0 ≤ q.1 ∧ q.2 ≤ 65535 then some (fs, v :: r) else some ((rNi fs 0 65535).1, (rNi fs 0 65535).2 :: r)
    | none => none
  | .i2b, v :: r => match rRg fs v with
    | some q => if -128 ≤ q.1 ∧ q.2 ≤ 127 then some (fs, v :: r) else some ((rNi fs (-128) 127).1, (rNi fs (-128) 127).2 :: r)
    | none => none
  | .ineg, v :: r => (rRg fs v).map (fun q => ((rNi fs (-q.2) (-q.1)).1, (rNi fs (-q.2) (-q.1)).2 :: r))
  | .lneg, v :: r => (rRl fs v).map (fun _ => ((rNl fs rL0 rL1).1, (rNl fs rL0 rL1).2 :: r))
  | .lshl, y :: x :: r => match rRg fs y, rRl fs x with
    | some p, some q => some ((rNl fs (rShl q p).1 (rShl q p).2).1, (rNl fs (rShl q p).1 (rShl q p).2).2 :: r)
    | _, _ => none
  | .lshr, y :: x :: r => match rRg fs y, rRl fs x with
    | some p, some q => some ((rNl fs (rShr q p).1 (rShr q p).2).1, (rNl fs (rShr q p).1 (rShr q p).2).2 :: r)
    | _, _ => none
  | .iadd, .int y :: x :: r => match rPlus fs x y.toInt with
    | some v => some (fs, v :: r)
    | none => match rRg fs x with
      | some q => some ((rNi fs (q.1 + y.toInt) (q.2 + y.toInt)).1, (rNi fs (q.1 + y.toInt) (q.2 + y.toInt)).2 :: r)
      | none => none
  | .iadd, y :: .int x :: r => match rPlus fs y x.toInt with
    | some v => some (fs, v :: r)
    | none => match rRg fs y with
      | some q => some ((rNi fs (q.1 + x.toInt) (q.2 + x.toInt)).1, (rNi fs (q.1 + x.toInt) (q.2 + x.toInt)).2 :: r)
      | none => none
  | .isub, .int y :: x :: r => match rPlus fs x (-y.toInt) with
    | some v => some (fs, v :: r)
    | none => match rRg fs x with
      | some q => some ((rNi fs (q.1 - y.toInt) (q.2 - y.toInt)).1, (rNi fs (q.1 - y.toInt) (q.2 - y.toInt)).2 :: r)
      | none => none
  | i, y :: x :: r => match rRg fs x, rRg fs y with
    | some p, some q => match rBin i p q with
      | some z => some ((rNi fs z.1 z.2).1, (rNi fs z.1 z.2).2 :: r)
      | none => none
    | _, _ => match rRl fs x, rRl fs y with
      | some p, some q => match rBil i p q with
        | some z => some ((rNl fs z.1 z.2).1, (rNl fs z.1 z.2).2 :: r)
        | none => none
      | _, _ => none
  | _, _ => none
/-- does it always hold, does it never hold -/
def rDec (c : ClassFile.Cond) (x y : Int × Int) : Option Bool := match c with
  | .lt => if x.2 < y.1 then some true else if y.2 ≤ x.1 then some false else none
  | .ge => if y.2 ≤ x.1 then some true else if x.2 < y.1 then some false else none
  | .gt => if y.2 < x.1 then some true else if x.2 ≤ y.1 then some false else none
  | .le => if x.2 ≤ y.1 then some true else if y.2 < x.1 then some false else none
  | .eq => if x.1 = x.2 ∧ y.1 = y.2 ∧ x.1 = y.1 then some true else if x.2 < y.1 ∨ y.2 < x.1 then some false else none
  | .ne => if x.2 < y.1 ∨ y.2 < x.1 then some true else if x.1 = x.2 ∧ y.1 = y.2 ∧ x.1 = y.1 then some false else none
/-- a number's range narrowed to lo .. hi -/
def rUp (a b : Int) : Int := if -100000000000000000000 < a ∧ a < b ∧ -10000000000000000000 < b then b else a
def rDn (a b : Int) : Int := if a < 100000000000000000000 ∧ b < a ∧ b < 10000000000000000000 then b else a
def rCut (fs : rF) (v : Value) (lo hi : Int) : Option rF := match v with
  | .float b => match fs[rId b]? with
    | some q => if rMax (rLo fs 6 q.1) (lo - rOf b) ≤ rMin (rHi fs 6 q.2) (hi - rOf b) then some (fs.set (rId b) (rUp q.1 (lo - rOf b), rDn q.2 (hi - rOf b))) else none
    | none => none
  | .double b => match fs[b.toNat]? with
    | some q => if rMax (rLo fs 6 q.1) lo ≤ rMin (rHi fs 6 q.2) hi then some (fs.set b.toNat (rUp q.1 lo, rDn q.2 hi)) else none
    | none => none
  | _ => some fs
def rTwo (fs : rF) (v w : Value) (a b c d : Int) : List rF := match rCut fs v a b with
  | some g => match rCut g w c d with
    | some k => [k]
    | none => []
  | none => []
def rNeg (c : ClassFile.Cond) : ClassFile.Cond := match c with
  | .eq => .ne
  | .ne => .eq
  | .lt => .ge
  | .ge => .lt
  | .gt => .le
  | .le => .gt
/-- what is known besides where v stands to w as c says -/
def rRef (c : ClassFile.Cond) (fs : rF) (v w : Value) (x y : Int × Int) : List rF := match c with
  | .lt => rTwo fs v w rL0 (y.2 - 1) (x.1 + 1) rL1
  | .ge => rTwo fs v w y.1 rL1 rL0 x.2
  | .gt => rTwo fs v w (y.1 + 1) rL1 rL0 (x.2 - 1)
  | .le => rTwo fs v w rL0 y.2 x.1 rL1
  | .eq => rTwo fs v w (rMax x.1 y.1) (rMin x.2 y.2) (rMax x.1 y.1) (rMin x.2 y.2)
  | .ne => if y.1 = y.2 ∧ 0 < y.1 ∧ x.1 ≤ 0 ∧ x.2 = rI1 then [fs] else if y.1 = y.2 then rTwo fs v w rL0 (y.1 - 1) rL0 rL1 ++ rTwo fs v w (y.1 + 1) rL1 rL0 rL1 else if x.1 = x.2 then rTwo fs v w rL0 rL1 rL0 (x.1 - 1) ++ rTwo fs v w rL0 rL1 (x.1 + 1) rL1 else [fs]
def rKi (fs : rF) (o : Option Value) : Option Value := match o with
  | some (.int x) => some (.int x)
  | some (.float x) => match fs[rId x]? with
    | some q => if q.1 = q.2 ∧ rI0 ≤ q.1 + rOf x ∧ q.1 + rOf x ≤ rI1 then some (.int (Int32.ofInt (q.1 + rOf x))) else some (.float x)
    | none => some (.float x)
  | _ => none
def rKl (o : Option Value) : Option Value := match o with
  | some (.long x) => some (.long x)
  | some (.double x) => some (.double x)
  | _ => none
def rKr (o : Option Value) : Option Value := match o with
  | some (.ref x) => some (.ref x)
  | some (.retAddr x) => some (.retAddr x)
  | _ => none
def rB (fs : rF) (i : Instr) (lv : mL) : Option Value := match i with
  | .iload n => rKi fs (mLd lv n)
  | .iload_n n => rKi fs (mLd lv n.val)
  | .lload n => rKl (mLd lv n)
  | .lload_n n => rKl (mLd lv n.val)
  | .aload n => rKr (mLd lv n)
  | .aload_n n => rKr (mLd lv n.val)
  | _ => none
def rSi (nL : Nat) (lv : mL) (n : Nat) (st : List Value) : Option (mL × List Value) := match st with
  | .int x :: r => if n < nL then some (mSt1 lv n (.int x), r) else none
  | .float x :: r => if n < nL then some (mSt1 lv n (.float x), r) else none
  | _ => none
def rSl (nL : Nat) (lv : mL) (n : Nat) (st : List Value) : Option (mL × List Value) := match st with
  | .long x :: r => if n + 1 < nL then some (mSt2 lv n (.long x), r) else none
  | .double x :: r => if n + 1 < nL then some (mSt2 lv n (.double x), r) else none
  | _ => none
def rSr (nL : Nat) (lv : mL) (n : Nat) (st : List Value) : Option (mL × List Value) := match st with
  | .ref x :: r => if n < nL then some (mSt1 lv n (.ref x), r) else none
  | .retAddr x :: r => if n < nL then some (mSt1 lv n (.retAddr x), r) else none
  | _ => none
def rIc (fs : rF) (nL : Nat) (lv : mL) (n : Nat) (c : Int) (o : Option Value) (st : List Value) : Option (mL × List Value) := match o with
  | some (.int x) => if n < nL then some (mSt1 lv n (.int (x + Int32.ofInt c)), st) else none
  | some (.float x) => match rPlus fs (.float x) c with
    | some v => if n < nL then some (mSt1 lv n v, st) else none
    | none => none
  | _ => none
def rD (fs : rF) (i : Instr) (nL : Nat) (lv : mL) (st : List Value) : Option (mL × List Value) := match i with
  | .istore n => rSi nL lv n st
  | .istore_n n => rSi nL lv n.val st
  | .lstore n => rSl nL lv n st
  | .lstore_n n => rSl nL lv n.val st
  | .astore n => rSr nL lv n st
  | .astore_n n => rSr nL lv n.val st
  | .iinc n c => rIc fs nL lv n c (mLd lv n) st
  | _ => none
def rJ (fs : rF) (i : Instr) (pc : Nat) (st : List Value) : Option (Nat × List Value) := match i, st with
  | .goto off, st => (mTo pc off).map (fun q => (q, st))
  | .ifCond c off, v :: r => match rRg fs v with
    | some x => match rDec c x (0, 0) with
      | some t => mBr t pc off r
      | none => none
    | none => none
  | .if_icmp c off, w :: v :: r => match rRg fs v, rRg fs w with
    | some x, some y => match rDec c x y with
      | some t => mBr t pc off r
      | none => none
    | _, _ => none
  | .if_acmp .eq off, .ref y :: .ref x :: r => if (2 ≤ x ∧ x < 52) ∧ (2 ≤ y ∧ y < 52) then mBr (decide (x = y)) pc off r else none
  | .if_acmp .ne off, .ref y :: .ref x :: r => if (2 ≤ x ∧ x < 52) ∧ (2 ≤ y ∧ y < 52) then mBr (decide (¬ x = y)) pc off r else none
  | .tableswitch d lo hi offs, v :: r => match rRg fs v with
    | some x => if x.2 < lo ∨ hi < x.1 then (mTo pc d).map (fun q => (q, r)) else if x.1 = x.2 then (match offs[(x.1 - lo).toNat]? with
      | some off => (mTo pc off).map (fun q => (q, r))
      | none => none) else none
    | none => none
  | .lookupswitch d ps, v :: r => match rRg fs v with
    | some x => if (ps.toList.zip (ps.toList.drop 1)).all (fun (a, next) => a.1 < next.1) = true then (if x.1 = x.2 then (mTo pc (Op.lookupswitch.offset ps.toList d x.1)).map (fun q => (q, r)) else if ps.toList.all (fun q => decide (q.1 < x.1) || decide (x.2 < q.1)) = true then (mTo pc d).map (fun q => (q, r)) else none) else none
    | none => none
  | _, _ => none
def rExa (v : Value) : Bool := match v with
  | .float _ => false
  | .double _ => false
  | .retAddr _ => false
  | _ => true
def rIx (fs : rF) (n : Nat) (v : Value) : Bool := match rRg fs v with
  | some q => decide (0 ≤ q.1) && decide (q.2 < n)
  | none => false
/-- the ints of one field of the cells from a to b -/
def rHull (h : List rC) (ci k : Nat) : Nat → Nat → Option (Int × Int)
  | 0, _ => none
  | n + 1, a => match h[a]? with
    | some (some (.inr (c, fs))) => if c = ci ∧ c < 1000 then (match fs[k]? with
      | some (.int x) => if n = 0 then some (x.toInt, x.toInt) else (match rHull h ci k n (a + 1) with
        | some q => some (rMin x.toInt q.1, rMax x.toInt q.2)
        | none => none)
      | _ => none) else none
    | _ => none
def rG (fs : rF) (i : Instr) (o1 o2 : Nat) (v : Value) (st : List Value) (h : rH) : Option (rF × List Value) := match i with
  | .getfield _ => match st with
    | .ref a :: r => match h.1[a]? with
      | some (some (.inr (ci, gs))) => if ci = o1 ∧ ci < 1000 then (gs[o2]?).map (fun x => (fs, (rKi fs (some x)).getD x :: r)) else none
      | _ => none
    | .retAddr j :: r => match fs[j]? with
      | some q => if 0 ≤ q.1 ∧ q.1 ≤ q.2 then (match rHull h.1 o1 o2 (q.2 - q.1 + 1).toNat q.1.toNat with
        | some z => some ((rNi fs z.1 z.2).1, (rNi fs z.1 z.2).2 :: r)
        | none => none) else none
      | none => none
    | _ => none
  | .getstatic _ => if rExa v = true then some (fs, v :: st) else none
  | .ldc _ => if rExa v = true then some (fs, v :: st) else none
  | .ldc_w _ => if rExa v = true then some (fs, v :: st) else none
  | .ldc2_w _ => if rExa v = true then some (fs, v :: st) else none
  | .laload => match st with
    | x :: .ref a :: r => match h.1[a]? with
      | some (some (.inl (1, n, l, u))) => if rIx fs n x = true then some ((rNl fs l u).1, (rNl fs l u).2 :: r) else none
      | _ => none
    | _ => none
  | .aaload => match st with
    | .int i :: .ref a :: r => match h.1[a]? with
      | some (some (.inl (6, n, l, _))) => if mIn i n = true then some (fs, .ref (l.toNat + i.toNatClampNeg) :: r) else none
      | _ => none
    | _ => none
  | .arraylength => match st with
    | .ref a :: r => match h.1[a]? with
      | some (some (.inl (k, n, _, _))) => if k < 5 ∨ k = 6 ∨ k = 7 then some (fs, .int (Int32.ofNat n) :: r) else none
      | _ => none
    | _ => none
  | i => match st with
    | x :: .ref a :: r => match h.1[a]? with
      | some (some (.inl (k, n, l, u))) => if ((i = .iaload ∧ (k = 0 ∨ k = 4)) ∨ (i = .caload ∧ k = 2) ∨ (i = .baload ∧ (k = 3 ∨ k = 7))) ∧ rIx fs n x = true then some ((rNi fs l u).1, (rNi fs l u).2 :: r) else none
      | _ => none
    | _ => none
def rFit (fs : rF) (k : Nat) (v : Value) : Bool := match k, v with
  | 0, .int _ => true
  | 0, .float _ => true
  | 1, v => (match rRg fs v with
    | some q => decide (0 ≤ q.1) && decide (q.2 ≤ 1)
    | none => false)
  | 2, .long _ => true
  | 2, .double _ => true
  | 3, .ref _ => true
  | 3, .retAddr _ => true
  | _, _ => false
def rP (fs : rF) (k0 : Nat) (i : Instr) (o1 o2 o3 : Nat) (st : List Value) (h : rH) : Option (List Value × rH) := match i with
  | .putfield _ => match st with
    | v :: .ref a :: r => match h.1[a]? with
      | some (some (.inr (ci, gs))) => if (ci = o1 ∧ ci < 1000) ∧ k0 ≤ a ∧ o2 < gs.length ∧ rFit fs o3 v = true then some (r, h.1.set a (some (.inr (ci, gs.set o2 v))), h.2) else none
      | _ => none
    | _ => none
  | .lastore => match st with
    | v :: x :: .ref a :: r => match h.1[a]?, rRl fs v with
      | some (some (.inl (1, n, l, u))), some q => if rIx fs n x = true ∧ k0 ≤ a then some (r, h.1.set a (some (.inl (1, n, rMin l q.1, rMax u q.2))), h.2) else none
      | _, _ => none
    | _ => none
  | i => match st with
    | v :: x :: .ref a :: r => match h.1[a]?, rRg fs v with
      | some (some (.inl (k, n, l, u))), some q => if rIx fs n x = true ∧ k0 ≤ a then (if i = .iastore ∧ k = 0 then some (r, h.1.set a (some (.inl (k, n, rMin l q.1, rMax u q.2))), h.2) else if i = .castore ∧ k = 2 ∧ 0 ≤ q.1 ∧ q.2 ≤ 65535 then some (r, h.1.set a (some (.inl (k, n, rMin l q.1, rMax u q.2))), h.2) else if i = .bastore ∧ k = 3 ∧ 0 ≤ q.1 ∧ q.2 ≤ 1 then some (r, h.1.set a (some (.inl (k, n, rMin l q.1, rMax u q.2))), h.2) else none) else none
      | _, _ => none
    | _ => none
def rX (fs : rF) (o3 : Nat) (st : List Value) : Option (rF × List Value) := match o3 with
  | 1 => match st with
    | .ref _ :: r => if (r.map fun v => v.category).sum ≤ 8 then some (fs, r) else none
    | _ => none
  | 2 => match st with
    | y :: x :: r => match rRg fs x, rRg fs y with
      | some p, some q => if (r.map fun v => v.category).sum ≤ 7 then some ((rNi fs (rMin p.1 q.1) (rMin p.2 q.2)).1, (rNi fs (rMin p.1 q.1) (rMin p.2 q.2)).2 :: r) else none
      | _, _ => none
    | _ => none
  | 3 => match st with
    | y :: x :: r => match rRg fs x, rRg fs y with
      | some p, some q => if (r.map fun v => v.category).sum ≤ 7 then some ((rNi fs (rMax p.1 q.1) (rMax p.2 q.2)).1, (rNi fs (rMax p.1 q.1) (rMax p.2 q.2)).2 :: r) else none
      | _, _ => none
    | _ => none
  | _ => none
def rY (fs : rF) (k0 o3 : Nat) (st : List Value) (h : rH) : Option (List Value × rH) := match st with
  | [n, dp, .ref a, sp, .ref b] => match h.1[a]?, h.1[b]?, rRg fs n, rRg fs dp, rRg fs sp with
    | some (some (.inl (k1, n1, l1, u1))), some (some (.inl (k2, n0, l2, u2))), some zn, some zd, some zs => if ((o3 = 4 ∧ k1 = 0 ∧ k2 = 0) ∨ (o3 = 5 ∧ k1 = 1 ∧ k2 = 1)) ∧ 0 ≤ zn.1 ∧ 0 ≤ zd.1 ∧ 0 ≤ zs.1 ∧ zs.2 + zn.2 ≤ n0 ∧ zd.2 + zn.2 ≤ n1 ∧ k0 ≤ a ∧ k0 ≤ b ∧ ¬ a = b then some ([], h.1.set a (some (.inl (k1, n1, rMin l1 l2, rMax u1 u2))), h.2) else none
    | _, _, _, _, _ => none
  | _ => none
/-- two arrays of which more is known. 1000: what stands at three places (a place, what stands there, thrice); 1001: before a place all is within 0 .. 199 (that place, what stands there); 1003: bytes that are known -/
def rEq (fs : rF) (x y : Value) : Bool := match x, y with
  | .int a, .int b => a == b
  | .float a, .float b => a == b
  | .float a, .int b => (match rRg fs (.float a) with
    | some q => decide (q.1 = q.2) && decide (q.1 = b.toInt)
    | none => false)
  | .int b, .float a => (match rRg fs (.float a) with
    | some q => decide (q.1 = q.2) && decide (q.1 = b.toInt)
    | none => false)
  | _, _ => false
def rMa (fs : rF) (k0 : Nat) (i : Instr) (st : List Value) (h : rH) : Option (rF × List Value × rH) := match i, st with
  | .iaload, x :: .ref a :: r => match h.1[a]? with
    | some (some (.inr (1000, [i1, v1, i2, v2, i3, v3]))) => if rIx fs 240 x = true then (if rEq fs x i1 = true then some (fs, v1 :: r, h) else if rEq fs x i2 = true then some (fs, v2 :: r, h) else if rEq fs x i3 = true then some (fs, v3 :: r, h) else some ((rNi fs rI0 rI1).1, (rNi fs rI0 rI1).2 :: r, (h.1.set a (some (.inr (1000, [i1, v1, i3, v3, x, (rNi fs rI0 rI1).2]))), h.2))) else none
    | some (some (.inr (1001, [b, _]))) => match rRg fs x, rRg fs b with
      | some p, some q => if 0 ≤ p.1 ∧ p.2 < q.1 then some ((rNi fs 0 199).1, (rNi fs 0 199).2 :: r, h) else none
      | _, _ => none
    | some (some (.inr (1002, [_, i0, x0, x1, x2, x3, x4, _, _]))) => match x, i0, rRg fs x, rRg fs i0 with
      | .float b, .float c, some _, some _ => if rId b = rId c ∧ 0 ≤ rOf b - rOf c ∧ rOf b - rOf c < 5 then ([x0, x1, x2, x3, x4][(rOf b - rOf c).toNat]?).map (fun v => (fs, v :: r, h)) else none
      | _, _, _, _ => none
    | _ => none
  | .baload, .int x :: .ref a :: r => match h.1[a]? with
    | some (some (.inr (1003, gs))) => if mIn x gs.length = true then (gs[x.toNatClampNeg]?).map (fun v => (fs, v :: r, h)) else none
    | _ => none
  | .arraylength, .ref a :: r => match h.1[a]? with
    | some (some (.inr (1003, gs))) => some (fs, .int (Int32.ofNat gs.length) :: r, h)
    | some (some (.inr (1002, [l, _, _, _, _, _, _, _, _]))) => some (fs, l :: r, h)
    | _ => none
  | .iastore, v :: x :: .ref a :: r => match h.1[a]?, rRg fs v with
    | some (some (.inr (1000, [_, _, _, _, _, _]))), some _ => if rIx fs 240 x = true ∧ k0 ≤ a then some (fs, r, (h.1.set a (some (.inr (1000, [x, v, x, v, x, v]))), h.2)) else none
    | some (some (.inr (1001, [b, _]))), some _ => if rIx fs 60 x = true ∧ rEq fs x b = true ∧ k0 ≤ a then some (fs, r, (h.1.set a (some (.inr (1001, [b, v]))), h.2)) else none
    | _, _ => none
  | _, _ => none
/-- questions: the states that can follow -/
def rWay (c : ClassFile.Cond) (fs : rF) (v w : Value) (x y : Int × Int) (pc : Nat) (off : Int) (r : List Value) : Option (List (rF × Nat × List Value)) := match mTo pc off with
  | some q => some ((rRef c fs v w x y).map (fun g => (g, q, r)) ++ (rRef (rNeg c) fs v w x y).map (fun g => (g, pc + 3, r)))
  | none => none
def rZ (fs : rF) (i : Instr) (pc : Nat) (st : List Value) : Option (List (rF × Nat × List Value)) := match i, st with
  | .ifCond c off, v :: r => match rRg fs v with
    | some x => rWay c fs v (.int 0) x (0, 0) pc off r
    | none => none
  | .if_icmp c off, w :: v :: r => match rRg fs v, rRg fs w with
    | some x, some y => rWay c fs v w x y pc off r
    | _, _ => none
  | .if_acmp _ off, w :: v :: r => match v, w, mTo pc off with
    | .retAddr j, .ref y, some q => match fs[j]? with
      | some g => if (2 ≤ g.1 ∧ g.2 ≤ 51) ∧ (2 ≤ y ∧ y < 52) then some [(fs, q, r), (fs, pc + 3, r)] else none
      | none => none
    | _, _, _ => none
  | .lcmp, w :: v :: r => match rRl fs v, rRl fs w with
    | some x, some y => some ((rRef .lt fs v w x y).map (fun g => (g, pc + 1, .int (-1) :: r)) ++ ((rRef .eq fs v w x y).map (fun g => (g, pc + 1, .int 0 :: r)) ++ (rRef .gt fs v w x y).map (fun g => (g, pc + 1, .int 1 :: r))))
    | _, _ => none
  | .tableswitch _ lo hi _, v :: r => match rRg fs v with
    | some x => if hi - lo ≤ 100 then some ((rTwo fs v (.int 0) rL0 (lo - 1) rL0 rL1 ++ (rTwo fs v (.int 0) (hi + 1) rL1 rL0 rL1 ++ ((List.range (hi - lo + 1).toNat).flatMap (fun (k : Nat) => if x.1 ≤ lo + k ∧ lo + k ≤ x.2 then rTwo fs v (.int 0) (lo + k) (lo + k) rL0 rL1 else [])))).map (fun g => (g, pc, v :: r))) else none
    | none => none
  | .lookupswitch _ ps, v :: r => match rRg fs v, ps.toList.filter (fun q => match rRg fs v with
      | some x => decide (x.1 ≤ q.1) && decide (q.1 ≤ x.2)
      | none => false) with
    | some _, q :: _ => some ((rTwo fs v (.int 0) rL0 (q.1 - 1) rL0 rL1 ++ (rTwo fs v (.int 0) q.1 q.1 rL0 rL1 ++ rTwo fs v (.int 0) (q.1 + 1) rL1 rL0 rL1)).map (fun g => (g, pc, v :: r)))
    | _, _ => none
  | _, _ => none
def rLc (fs : rF) (i : Instr) (st : List Value) : Option (List Value) := match i, st with
  | .lcmp, w :: v :: r => match rRl fs v, rRl fs w with
    | some x, some y => if x.2 < y.1 then some (.int (-1) :: r) else if y.2 < x.1 then some (.int 1 :: r) else if x.1 = x.2 ∧ y.1 = y.2 ∧ x.1 = y.1 then some (.int 0 :: r) else none
    | _, _ => none
  | _, _ => none
def rNx (k0 : Nat) (e : mI) (fs : rF) (pc : Nat) (lv : mL) (st : List Value) (h : rH) : Option (List rT) :=
  match mA e.1 st with
  | some st' => some [(fs, pc + mLen e.1, lv, st', h)]
  | none => match rLc fs e.1 st with
    | some st' => some [(fs, pc + mLen e.1, lv, st', h)]
    | none => match (if e.1 = .lcmp then none else rU fs e.1 st) with
      | some q => some [(q.1, pc + mLen e.1, lv, q.2, h)]
      | none => match rB fs e.1 lv with
        | some v => some [(fs, pc + mLen e.1, lv, v :: st, h)]
        | none => match rD fs e.1 e.2.1 lv st with
          | some (lv', st') => some [(fs, pc + mLen e.1, lv', st', h)]
          | none => match rJ fs e.1 pc st with
            | some (pc', st') => some [(fs, pc', lv, st', h)]
            | none => match rG fs e.1 e.2.1 e.2.2.1 e.2.2.2.2 st h with
              | some q => some [(q.1, pc + mLen e.1, lv, q.2, h)]
              | none => match rP fs k0 e.1 e.2.1 e.2.2.1 e.2.2.2.1 st h with
                | some (st', h') => some [(fs, pc + mLen e.1, lv, st', h')]
                | none => match rMa fs k0 e.1 st h with
                | some q => some [(q.1, pc + mLen e.1, lv, q.2.1, q.2.2)]
                | none => if mIv e.1 = true then (match rX fs e.2.2.2.1 st with
                    | some q => some [(q.1, pc + 3, lv, q.2, h)]
                    | none => match rY fs k0 e.2.2.2.1 st h with
                      | some (st', h') => some [(fs, pc + 3, lv, st', h')]
                      | none => none) else (match rZ fs e.1 pc st with
                    | some l => some (l.map (fun g => (g.1, g.2.1, lv, g.2.2, h)))
                    | none => none)
end
section
/-! THE MACHINE WITH RANGES IS SOUND: values, ranges -/
def rE (ρ : List Int) (v : Value) : Option Value := match v with
  | .float b => (ρ[rId b]?).map (fun z => .int (Int32.ofInt (z + rOf b)))
  | .double b => (ρ[b.toNat]?).map (fun z => .long (Int64.ofInt z))
  | .retAddr j => (ρ[j]?).map (fun z => .ref z.toNat)
  | .int x => some (.int x)
  | .long x => some (.long x)
  | .null => some .null
  | .ref a => some (.ref a)
def rEs (ρ : List Int) : List Value → Option (List Value)
  | [] => some []
  | v :: r => match rE ρ v with
    | some c => match rEs ρ r with
      | some l => some (c :: l)
      | none => none
    | none => none
def rEv (ρ : List Int) : mL → Option mL
  | [] => some []
  | q :: r => match rE ρ q.2 with
    | some c => match rEv ρ r with
      | some l => some ((q.1, c) :: l)
      | none => none
    | none => none
/-- what a number's bounds tell by other numbers -/
def rCd (ρ : List Int) (q : Int × Int) (z : Int) : Prop := (∀ j c, rCl q.1 = some (j, c) → ∃ y, ρ[j]? = some y ∧ y + c ≤ z) ∧ (∀ j c, rCu q.2 = some (j, c) → ∃ y, ρ[j]? = some y ∧ z ≤ y + c)
def rOk (ρ : List Int) (fs : rF) : Prop := ρ.length = fs.length ∧ (∀ (i : Nat) (q : Int × Int), fs[i]? = some q → ∃ z, ρ[i]? = some z ∧ q.1 ≤ z ∧ z ≤ q.2) ∧ ∀ (i : Nat) (q : Int × Int) (z : Int), fs[i]? = some q → ρ[i]? = some z → rCd ρ q z
theorem rE_f (ρ : List Int) (b : UInt32) : rE ρ (.float b) = (ρ[rId b]?).map (fun z => .int (Int32.ofInt (z + rOf b))) := rfl
theorem rE_d (ρ : List Int) (b : UInt64) : rE ρ (.double b) = (ρ[b.toNat]?).map (fun z => .long (Int64.ofInt z)) := rfl
theorem rE_r (ρ : List Int) (b : Nat) : rE ρ (.retAddr b) = (ρ[b]?).map (fun z => .ref z.toNat) := rfl
section RV
variable {ρ : List Int} {fs : rF}
theorem rE_ext {v c : Value} (e : List Int) (h : rE ρ v = some c) : rE (ρ ++ e) v = some c := by
  have key : ∀ {i : Nat} {z : Int}, ρ[i]? = some z → (ρ ++ e)[i]? = some z := fun h => by
    rw [List.getElem?_append_left (List.getElem?_eq_some_iff.mp h).1]
    exact h
  cases v with
  | float b =>
    rw [rE_f] at h ⊢
    cases hz : ρ[rId b]? with
    | none => rw [hz] at h; cases h
    | some z => rw [hz] at h; rw [key hz]; exact h
  | double b =>
    rw [rE_d] at h ⊢
    cases hz : ρ[b.toNat]? with
    | none => rw [hz] at h; cases h
    | some z => rw [hz] at h; rw [key hz]; exact h
  | retAddr b =>
    rw [rE_r] at h ⊢
    cases hz : ρ[b]? with
    | none => rw [hz] at h; cases h
    | some z => rw [hz] at h; rw [key hz]; exact h
  | _ => exact h
theorem rEs_cons {v : Value} {r l : List Value} (h : rEs ρ (v :: r) = some l) : ∃ c l', rE ρ v = some c ∧ rEs ρ r = some l' ∧ l = c :: l' := by
  unfold rEs at h
  split at h
  · rename_i c hc
    split at h
    · rename_i l' hl
      cases h
      exact ⟨c, l', hc, hl, rfl⟩
    · cases h
  · cases h
theorem rEs_mk {v c : Value} {r l : List Value} (h1 : rE ρ v = some c) (h2 : rEs ρ r = some l) : rEs ρ (v :: r) = some (c :: l) := by
  unfold rEs
  rw [h1, h2]
theorem rEs_ext {st l : List Value} (e : List Int) (h : rEs ρ st = some l) : rEs (ρ ++ e) st = some l := by
  induction st generalizing l with
  | nil => exact h
  | cons v r ih =>
    obtain ⟨c, l', h1, h2, rfl⟩ := rEs_cons h
    exact rEs_mk (rE_ext e h1) (ih h2)
theorem rEv_ext {lv l : mL} (e : List Int) (h : rEv ρ lv = some l) : rEv (ρ ++ e) lv = some l := by
  induction lv generalizing l with
  | nil => exact h
  | cons q r ih =>
    unfold rEv at h ⊢
    split at h
    · rename_i c hc
      split at h
      · rename_i l' hl
        cases h
        rw [rE_ext e hc, ih hl]
      · cases h
    · cases h
theorem rE_cat {v c : Value} (h : rE ρ v = some c) : c.category = v.category := by
  cases v with
  | float b =>
    rw [rE_f] at h
    cases hz : ρ[rId b]? with
    | none => rw [hz] at h; cases h
    | some z => rw [hz] at h; cases h; rfl
  | double b =>
    rw [rE_d] at h
    cases hz : ρ[b.toNat]? with
    | none => rw [hz] at h; cases h
    | some z => rw [hz] at h; cases h; rfl
  | retAddr b =>
    rw [rE_r] at h
    cases hz : ρ[b]? with
    | none => rw [hz] at h; cases h
    | some z => rw [hz] at h; cases h; rfl
  | _ => cases h; rfl
theorem rEs_cats {st l : List Value} (h : rEs ρ st = some l) : l.map (fun v => v.category) = st.map (fun v => v.category) := by
  induction st generalizing l with
  | nil => cases h; rfl
  | cons v r ih =>
    obtain ⟨c, l', h1, h2, rfl⟩ := rEs_cons h
    rw [List.map_cons, List.map_cons, rE_cat h1, ih h2]
theorem rEs_len {st l : List Value} (h : rEs ρ st = some l) : l.length = st.length := by
  induction st generalizing l with
  | nil => cases h; rfl
  | cons v r ih =>
    obtain ⟨c, l', h1, h2, rfl⟩ := rEs_cons h
    rw [List.length_cons, List.length_cons, ih h2]
theorem rCd.ext {q : Int × Int} {z : Int} (e : List Int) (h : rCd ρ q z) : rCd (ρ ++ e) q z := by
  have key : ∀ {i : Nat} {z : Int}, ρ[i]? = some z → (ρ ++ e)[i]? = some z := fun h => by
    rw [List.getElem?_append_left (List.getElem?_eq_some_iff.mp h).1]
    exact h
  refine ⟨fun j c hj => ?_, fun j c hj => ?_⟩
  · obtain ⟨y, y1, y2⟩ := h.1 j c hj
    exact ⟨y, key y1, y2⟩
  · obtain ⟨y, y1, y2⟩ := h.2 j c hj
    exact ⟨y, key y1, y2⟩
/-- a new number: z within q, and what q tells by other numbers -/
theorem rOk.push' (h : rOk ρ fs) {z : Int} {q : Int × Int} (h1 : q.1 ≤ z) (h2 : z ≤ q.2) (h3 : rCd (ρ ++ [z]) q z) : rOk (ρ ++ [z]) (fs ++ [q]) := by
  refine ⟨by rw [List.length_append, List.length_append, h.1]; rfl, fun i p hp => ?_, fun i p w hp hw => ?_⟩
  · rw [List.getElem?_append] at hp ⊢
    rw [h.1]
    split at hp
    · rename_i hi
      rw [if_pos hi]
      exact h.2.1 i p hp
    · rename_i hi
      rw [if_neg hi]
      cases hk : i - fs.length with
      | zero => rw [hk] at hp; cases hp; exact ⟨z, rfl, h1, h2⟩
      | succ m => rw [hk] at hp; cases hp
  · rw [List.getElem?_append] at hp hw
    rw [h.1] at hw
    split at hp
    · rename_i hi
      rw [if_pos hi] at hw
      exact (h.2.2 i p w hp hw).ext _
    · rename_i hi
      rw [if_neg hi] at hw
      cases hk : i - fs.length with
      | zero => rw [hk] at hp hw; cases hp; cases hw; exact h3
      | succ m => rw [hk] at hp; cases hp
theorem rCd_real {l u z : Int} (h1 : -100000000000000000000 < l) (h2 : u < 100000000000000000000) (ρ' : List Int) : rCd ρ' (l, u) z := by
  refine ⟨fun j c hj => ?_, fun j c hj => ?_⟩
  · unfold rCl at hj
    rw [if_neg (by dsimp only; omega)] at hj
    cases hj
  · unfold rCu at hj
    rw [if_neg (by dsimp only; omega)] at hj
    cases hj
theorem rOk.push (h : rOk ρ fs) {z l u : Int} (h1 : l ≤ z) (h2 : z ≤ u) (h3 : -100000000000000000000 < l) (h4 : u < 100000000000000000000) : rOk (ρ ++ [z]) (fs ++ [(l, u)]) := h.push' h1 h2 (rCd_real h3 h4 _)
/-- a bound that is found by way of other numbers -/
theorem rLo_ok (hO : rOk ρ fs) : ∀ (n : Nat) {l z : Int}, l ≤ z → (∀ j c, rCl l = some (j, c) → ∃ y, ρ[j]? = some y ∧ y + c ≤ z) → rLo fs n l ≤ z
  | 0, l, z, h, _ => h
  | n + 1, l, z, h, hc => by
    unfold rLo
    split
    · exact h
    · rename_i jc hj
      split
      · rename_i q hq
        obtain ⟨y, y1, y2⟩ := hc jc.1 jc.2 hj
        obtain ⟨w, w1, w2, w3⟩ := hO.2.1 _ _ hq
        rw [y1] at w1
        cases w1
        have := rLo_ok hO n w2 (hO.2.2 _ _ _ hq y1).1
        omega
      · exact h
theorem rHi_ok (hO : rOk ρ fs) : ∀ (n : Nat) {u z : Int}, z ≤ u → (∀ j c, rCu u = some (j, c) → ∃ y, ρ[j]? = some y ∧ z ≤ y + c) → z ≤ rHi fs n u
  | 0, u, z, h, _ => h
  | n + 1, u, z, h, hc => by
    unfold rHi
    split
    · exact h
    · rename_i jc hj
      split
      · rename_i q hq
        obtain ⟨y, y1, y2⟩ := hc jc.1 jc.2 hj
        obtain ⟨w, w1, w2, w3⟩ := hO.2.1 _ _ hq
        rw [y1] at w1
        cases w1
        have := rHi_ok hO n w3 (hO.2.2 _ _ _ hq y1).2
        omega
      · exact h
theorem rOk.get (hO : rOk ρ fs) {i : Nat} {q : Int × Int} (hq : fs[i]? = some q) : ∃ z, ρ[i]? = some z ∧ rLo fs 6 q.1 ≤ z ∧ z ≤ rHi fs 6 q.2 := by
  obtain ⟨z, z1, z2, z3⟩ := hO.2.1 _ _ hq
  exact ⟨z, z1, rLo_ok hO 6 z2 (hO.2.2 _ _ _ hq z1).1, rHi_ok hO 6 z3 (hO.2.2 _ _ _ hq z1).2⟩
/-- an Int within the ints is an int's -/
theorem rInt {z : Int} (h1 : rI0 ≤ z) (h2 : z ≤ rI1) : (Int32.ofInt z).toInt = z := by
  unfold rI0 at h1
  unfold rI1 at h2
  rw [Int32.toInt_ofInt]
  exact Int.bmod_eq_of_le_mul_two (by show -((4294967296 : Nat) : Int) ≤ z * 2; omega) (by show z * 2 < ((4294967296 : Nat) : Int); omega)
theorem rLong {z : Int} (h1 : rL0 ≤ z) (h2 : z ≤ rL1) : (Int64.ofInt z).toInt = z := by
  unfold rL0 at h1
  unfold rL1 at h2
  rw [Int64.toInt_ofInt]
  exact Int.bmod_eq_of_le_mul_two (by show -((18446744073709551616 : Nat) : Int) ≤ z * 2; omega) (by show z * 2 < ((18446744073709551616 : Nat) : Int); omega)
theorem rRg_ok (hO : rOk ρ fs) {v c : Value} {q : Int × Int} (hr : rRg fs v = some q) (hc : rE ρ v = some c) : ∃ x, c = .int x ∧ q.1 ≤ x.toInt ∧ x.toInt ≤ q.2 := by
  unfold rRg at hr
  split at hr
  · cases hr
    cases hc
    exact ⟨_, rfl, Int.le_refl _, Int.le_refl _⟩
  · rename_i b
    split at hr
    · rename_i p hp
      split at hr
      · rename_i hb
        cases hr
        obtain ⟨z, z1, z2, z3⟩ := hO.get hp
        rw [rE_f] at hc
        rw [z1] at hc
        cases hc
        refine ⟨_, rfl, ?_⟩
        rw [rInt (by omega) (by omega)]
        exact ⟨by show rLo fs 6 p.1 + rOf b ≤ _; omega, by show _ ≤ rHi fs 6 p.2 + rOf b; omega⟩
      · cases hr
    · cases hr
  · cases hr
theorem rRg_le {v : Value} {q : Int × Int} (hr : rRg fs v = some q) : q.2 ≤ rI1 := by
  unfold rRg at hr
  split at hr
  · rename_i x
    cases hr
    exact Int32.toInt_le x
  · split at hr
    · split at hr
      · rename_i hb
        cases hr
        exact hb.2
      · cases hr
    · cases hr
  · cases hr
theorem rRl_ok (hO : rOk ρ fs) {v c : Value} {q : Int × Int} (hr : rRl fs v = some q) (hc : rE ρ v = some c) : ∃ x, c = .long x ∧ q.1 ≤ x.toInt ∧ x.toInt ≤ q.2 := by
  unfold rRl at hr
  split at hr
  · cases hr
    cases hc
    exact ⟨_, rfl, Int.le_refl _, Int.le_refl _⟩
  · rename_i b
    split at hr
    · rename_i p hp
      split at hr
      · rename_i hb
        cases hr
        obtain ⟨z, z1, z2, z3⟩ := hO.2.1 _ _ hp
        rw [rE_d] at hc
        rw [z1] at hc
        cases hc
        refine ⟨_, rfl, ?_⟩
        rw [rLong (by omega) (by omega)]
        exact ⟨z2, z3⟩
      · cases hr
    · cases hr
  · cases hr
theorem rMk_id {id : Nat} {off : Int} (h1 : id < 60000) (h2 : -32768 ≤ off) (h3 : off < 32768) : ∃ b, rMk id off = .float b ∧ rId b = id ∧ rOf b = off := by
  have h4 : (off + 32768).toNat < 65536 := by omega
  have h5 : id * 65536 + (off + 32768).toNat < 4294967296 := by omega
  have h6 : (UInt32.ofNat (id * 65536 + (off + 32768).toNat)).toNat = id * 65536 + (off + 32768).toNat := by
    rw [UInt32.toNat_ofNat']
    exact Nat.mod_eq_of_lt h5
  refine ⟨_, rfl, ?_, ?_⟩
  · unfold rId
    rw [h6]
    omega
  · unfold rOf
    rw [h6]
    have h7 : (id * 65536 + (off + 32768).toNat) % 65536 = (off + 32768).toNat := by omega
    rw [h7]
    omega
/-- a new unknown int: any int within the range -/
theorem rNi_ok (hO : rOk ρ fs) (hn : fs.length < 60000) {l u : Int} {x : Int32} (h1 : l ≤ x.toInt) (h2 : x.toInt ≤ u) : ∃ e, rOk (ρ ++ e) (rNi fs l u).1 ∧ rE (ρ ++ e) (rNi fs l u).2 = some (.int x) := by
  have full : ∀ {l u : Int}, l ≤ x.toInt → x.toInt ≤ u → rI0 ≤ l → u ≤ rI1 → ∃ e, rOk (ρ ++ e) (fs ++ [(l, u)]) ∧ rE (ρ ++ e) (rMk fs.length 0) = some (.int x) := fun {l u} g1 g2 g3 g4 => by
    refine ⟨[x.toInt], hO.push g1 g2 (by unfold rI0 at g3; omega) (by unfold rI1 at g4; omega), ?_⟩
    obtain ⟨b, e1, e2, e3⟩ := rMk_id (id := fs.length) (off := 0) hn (by omega) (by omega)
    rw [e1]
    rw [rE_f, e2, e3, ← hO.1, List.getElem?_append_right (Nat.le_refl _), Nat.sub_self]
    show some (Value.int (Int32.ofInt (x.toInt + 0))) = _
    rw [Int.add_zero, Int32.ofInt_toInt]
  unfold rNi
  split
  · rename_i hq
    refine ⟨[], by rw [List.append_nil]; exact hO, ?_⟩
    have : l = x.toInt := by omega
    rw [this, Int32.ofInt_toInt]
    rfl
  · split
    · rename_i hq
      exact full h1 h2 hq.1 hq.2
    · exact full (Int32.le_toInt x) (Int32.toInt_le x) (Int.le_refl _) (Int.le_refl _)
theorem rNl_ok (hO : rOk ρ fs) (hn : fs.length < 60000) {l u : Int} {x : Int64} (h1 : l ≤ x.toInt) (h2 : x.toInt ≤ u) : ∃ e, rOk (ρ ++ e) (rNl fs l u).1 ∧ rE (ρ ++ e) (rNl fs l u).2 = some (.long x) := by
  have full : ∀ {l u : Int}, l ≤ x.toInt → x.toInt ≤ u → rL0 ≤ l → u ≤ rL1 → ∃ e, rOk (ρ ++ e) (fs ++ [(l, u)]) ∧ rE (ρ ++ e) (.double (UInt64.ofNat fs.length)) = some (.long x) := fun {l u} g1 g2 g3 g4 => by
    refine ⟨[x.toInt], hO.push g1 g2 (by unfold rL0 at g3; omega) (by unfold rL1 at g4; omega), ?_⟩
    rw [rE_d, UInt64.toNat_ofNat', Nat.mod_eq_of_lt (by omega), ← hO.1, List.getElem?_append_right (Nat.le_refl _), Nat.sub_self]
    show some (Value.long (Int64.ofInt x.toInt)) = _
    rw [Int64.ofInt_toInt]
  unfold rNl
  split
  · rename_i hq
    refine ⟨[], by rw [List.append_nil]; exact hO, ?_⟩
    have : l = x.toInt := by omega
    rw [this, Int64.ofInt_toInt]
    rfl
  · split
    · rename_i hq
      exact full h1 h2 hq.1 hq.2
    · exact full (Int64.le_toInt x) (Int64.toInt_le x) (Int.le_refl _) (Int.le_refl _)
end RV
end
section
/-! THE MACHINE WITH RANGES IS SOUND: arithmetic -/
section RA
variable {ρ : List Int} {fs : rF}
theorem rNi_ok2 (hO : rOk ρ fs) (hn : fs.length < 60000) {l u : Int} {x : Int32} (h : rI0 ≤ l → u ≤ rI1 → l ≤ x.toInt ∧ x.toInt ≤ u) : ∃ e, rOk (ρ ++ e) (rNi fs l u).1 ∧ rE (ρ ++ e) (rNi fs l u).2 = some (.int x) := by
  by_cases hc : rI0 ≤ l ∧ u ≤ rI1
  · obtain ⟨h1, h2⟩ := h hc.1 hc.2
    exact rNi_ok hO hn h1 h2
  · have e1 : rNi fs l u = rNi fs rI0 rI1 := by
      unfold rNi
      rw [if_neg (fun q => hc ⟨by omega, by omega⟩), if_neg hc, if_neg (by unfold rI0 rI1; omega), if_pos ⟨Int.le_refl _, Int.le_refl _⟩]
    rw [e1]
    exact rNi_ok hO hn (Int32.le_toInt x) (Int32.toInt_le x)
theorem rBm {z : Int} (h1 : rI0 ≤ z) (h2 : z ≤ rI1) : z.bmod (2 ^ 32) = z := by
  unfold rI0 at h1
  unfold rI1 at h2
  exact Int.bmod_eq_of_le_mul_two (by show -((4294967296 : Nat) : Int) ≤ z * 2; omega) (by show z * 2 < ((4294967296 : Nat) : Int); omega)
theorem rAdd_ok {x y : Int32} (h1 : rI0 ≤ x.toInt + y.toInt) (h2 : x.toInt + y.toInt ≤ rI1) : (x + y).toInt = x.toInt + y.toInt := by
  rw [Int32.toInt_add]
  exact rBm h1 h2
theorem rSub_ok {x y : Int32} (h1 : rI0 ≤ x.toInt - y.toInt) (h2 : x.toInt - y.toInt ≤ rI1) : (x - y).toInt = x.toInt - y.toInt := by
  rw [Int32.toInt_sub]
  exact rBm h1 h2
theorem rMul_ok {x y : Int32} (h1 : rI0 ≤ x.toInt * y.toInt) (h2 : x.toInt * y.toInt ≤ rI1) : (x * y).toInt = x.toInt * y.toInt := by
  rw [Int32.toInt_mul]
  exact rBm h1 h2
theorem rNat {x : Int32} (h : x.toBitVec.toNat < 2147483648) : x.toInt = (x.toBitVec.toNat : Int) := by
  have h2 : x.toInt = x.toBitVec.toInt := rfl
  rw [h2, BitVec.toInt_eq_toNat_cond, if_pos (by omega)]
theorem rNat' {x : Int32} (h : 0 ≤ x.toInt) : x.toBitVec.toNat < 2147483648 := by
  have h2 : x.toInt = x.toBitVec.toInt := rfl
  rw [h2, BitVec.toInt_eq_toNat_cond] at h
  split at h
  · omega
  · have := x.toBitVec.isLt
    omega
theorem rAnd_ok {x y : Int32} (h : 0 ≤ y.toInt) : 0 ≤ (x &&& y).toInt ∧ (x &&& y).toInt ≤ y.toInt := by
  have h1 := rNat' h
  have e : (x &&& y).toBitVec.toNat ≤ y.toBitVec.toNat := by
    show (x.toBitVec &&& y.toBitVec).toNat ≤ _
    rw [BitVec.toNat_and]
    exact Nat.and_le_right
  rw [rNat (x := x &&& y) (by omega), rNat h1]
  omega
theorem rRem_ok {x y : Int32} (hx : 0 ≤ x.toInt) (hy : 1 ≤ y.toInt) : 0 ≤ (x - x / y * y).toInt ∧ (x - x / y * y).toInt ≤ y.toInt - 1 := by
  have hx2 := Int32.toInt_le x
  have hx3 : x.toInt ≤ 2147483647 := hx2
  have d0 : 0 ≤ x.toInt / y.toInt := Int.ediv_nonneg hx (by omega)
  have d1 : x.toInt / y.toInt * y.toInt ≤ x.toInt := Int.ediv_mul_le _ (by omega)
  have d2 : x.toInt / y.toInt ≤ x.toInt := Int.ediv_le_self _ hx
  have d4 : 0 ≤ x.toInt / y.toInt * y.toInt := Int.mul_nonneg d0 (by omega)
  have e1 : (x / y).toInt = x.toInt / y.toInt := by
    rw [Int32.toInt_div, Int.tdiv_eq_ediv_of_nonneg hx]
    exact rBm (by unfold rI0; omega) (by unfold rI1; omega)
  have e2 : (x / y * y).toInt = x.toInt / y.toInt * y.toInt := by
    rw [rMul_ok (by rw [e1]; unfold rI0; omega) (by rw [e1]; unfold rI1; omega), e1]
  have e3 : (x - x / y * y).toInt = x.toInt - x.toInt / y.toInt * y.toInt := by
    rw [rSub_ok (by rw [e2]; unfold rI0; omega) (by rw [e2]; unfold rI1; omega), e2]
  have d3 := Int.emod_lt_of_pos x.toInt (show 0 < y.toInt by omega)
  have d5 := Int.emod_nonneg x.toInt (show y.toInt ≠ 0 by omega)
  have d6 := Int.emod_def x.toInt y.toInt
  rw [Int.mul_comm] at d6
  rw [e3]
  omega
theorem rUsh_ok {x y : Int32} (h : (y.toUInt32 &&& Int32.toUInt32 31).toNat % 32 ≠ 0) : 0 ≤ (x.toUInt32 >>> (y.toUInt32 &&& Int32.toUInt32 31)).toInt32.toInt := by
  have e : (x.toUInt32 >>> (y.toUInt32 &&& Int32.toUInt32 31)).toInt32.toBitVec.toNat < 2147483648 := by
    show (x.toUInt32 >>> (y.toUInt32 &&& Int32.toUInt32 31)).toNat < _
    rw [UInt32.toNat_shiftRight, Nat.shiftRight_eq_div_pow]
    have h1 := x.toUInt32.toNat_lt
    have h2 : 2 ≤ 2 ^ ((y.toUInt32 &&& Int32.toUInt32 31).toNat % 32) := by
      have := Nat.pow_le_pow_right (n := 2) (by omega) (show 1 ≤ (y.toUInt32 &&& Int32.toUInt32 31).toNat % 32 by omega)
      simpa using this
    have h3 : x.toUInt32.toNat / 2 ^ ((y.toUInt32 &&& Int32.toUInt32 31).toNat % 32) ≤ x.toUInt32.toNat / 2 := Nat.div_le_div_left h2 (by omega)
    omega
  rw [rNat e]
  omega
theorem rAny (w : Int32) : rI0 ≤ rI0 → rI1 ≤ rI1 → rI0 ≤ w.toInt ∧ w.toInt ≤ rI1 := fun _ _ => ⟨Int32.le_toInt w, Int32.toInt_le w⟩
theorem rSh31 : ∀ k : Fin 32, k.val ≠ 0 → ((Int32.ofNat k.val).toUInt32 &&& Int32.toUInt32 31).toNat % 32 ≠ 0 := by decide +kernel
theorem rBin_ok {i : Instr} {p q z : Int × Int} {x y : Int32} (hb : rBin i p q = some z) (x1 : p.1 ≤ x.toInt) (x2 : x.toInt ≤ p.2) (y1 : q.1 ≤ y.toInt) (y2 : y.toInt ≤ q.2) (r : List Value) : ∃ w, mA i (.int y :: .int x :: r) = some (.int w :: r) ∧ (rI0 ≤ z.1 → z.2 ≤ rI1 → z.1 ≤ w.toInt ∧ w.toInt ≤ z.2) := by
  cases i <;> simp only [rBin, reduceCtorEq] at hb
  case iadd =>
    cases hb
    refine ⟨x + y, rfl, fun h1 h2 => ?_⟩
    dsimp only at h1 h2 ⊢
    rw [rAdd_ok (by omega) (by omega)]
    omega
  case isub =>
    cases hb
    refine ⟨x - y, rfl, fun h1 h2 => ?_⟩
    dsimp only at h1 h2 ⊢
    rw [rSub_ok (by omega) (by omega)]
    omega
  case imul =>
    split at hb
    · rename_i hq
      cases hb
      refine ⟨x * y, rfl, fun h1 h2 => ?_⟩
      dsimp only at h1 h2 ⊢
      have m1 : 0 ≤ x.toInt * y.toInt := Int.mul_nonneg (by omega) (by omega)
      have m2 : x.toInt * y.toInt ≤ p.2 * q.2 := Int.mul_le_mul x2 y2 (by omega) (by omega)
      rw [rMul_ok (by unfold rI0; omega) (by omega)]
      omega
    · cases hb
      exact ⟨_, rfl, rAny _⟩
  case idiv =>
    split at hb
    · rename_i hq
      cases hb
      have hy : ¬ y = 0 := fun h => by subst h; have : (0 : Int32).toInt = 0 := rfl; omega
      refine ⟨x / y, ?_, rAny _⟩
      show (if y = 0 then none else some (Value.int (x / y) :: r)) = _
      rw [if_neg hy]
    · cases hb
  case irem =>
    split at hb
    · rename_i hq
      have hy : ¬ y = 0 := fun h => by subst h; have : (0 : Int32).toInt = 0 := rfl; omega
      refine ⟨x - x / y * y, ?_, ?_⟩
      · show (if y = 0 then none else some (Value.int (x - x / y * y) :: r)) = _
        rw [if_neg hy]
      · split at hb
        · rename_i hp
          cases hb
          intro h1 h2
          have := rRem_ok (x := x) (y := y) (by omega) (by omega)
          dsimp only at h1 h2 ⊢
          omega
        · cases hb
          exact rAny _
    · cases hb
  case iand =>
    split at hb
    · rename_i hq
      cases hb
      refine ⟨x &&& y, rfl, fun h1 h2 => ?_⟩
      have := rAnd_ok (x := x) (y := y) (by omega)
      dsimp only at h1 h2 ⊢
      omega
    · cases hb
      exact ⟨_, rfl, rAny _⟩
  case iushr =>
    split at hb
    · rename_i hq
      cases hb
      refine ⟨_, rfl, fun h1 h2 => ⟨?_, Int32.toInt_le _⟩⟩
      refine rUsh_ok ?_
      have hk : y = Int32.ofNat y.toInt.toNat := by
        apply Int32.toInt_inj.mp
        show y.toInt = (Int32.ofInt (y.toInt.toNat : Int)).toInt
        rw [Int.toNat_of_nonneg (by omega), rInt (by unfold rI0; omega) (by unfold rI1; omega)]
      have := rSh31 ⟨y.toInt.toNat, by omega⟩ (by show y.toInt.toNat ≠ 0; omega)
      dsimp only at this
      rw [← hk] at this
      exact this
    · cases hb
      exact ⟨_, rfl, rAny _⟩
  all_goals
    cases hb
    exact ⟨_, rfl, rAny _⟩
end RA
end
section
/-! THE MACHINE WITH RANGES IS SOUND: bits of longs -/
theorem rNatL {x : Int64} (h : x.toBitVec.toNat < 9223372036854775808) : x.toInt = (x.toBitVec.toNat : Int) := by
  have h2 : x.toInt = x.toBitVec.toInt := rfl
  rw [h2, BitVec.toInt_eq_toNat_cond, if_pos (by omega)]
theorem rNatL' {x : Int64} (h : 0 ≤ x.toInt) : x.toBitVec.toNat < 9223372036854775808 := by
  have h2 : x.toInt = x.toBitVec.toInt := rfl
  rw [h2, BitVec.toInt_eq_toNat_cond] at h
  split at h
  · omega
  · have := x.toBitVec.isLt
    omega
theorem rLand_ok {x y : Int64} (h : 0 ≤ y.toInt) : 0 ≤ (x &&& y).toInt ∧ (x &&& y).toInt ≤ y.toInt := by
  have h1 := rNatL' h
  have e : (x &&& y).toBitVec.toNat ≤ y.toBitVec.toNat := by
    show (x.toBitVec &&& y.toBitVec).toNat ≤ _
    rw [BitVec.toNat_and]
    exact Nat.and_le_right
  rw [rNatL (x := x &&& y) (by omega), rNatL h1]
  omega
theorem rLand_255 {x y : Int64} (h : 0 ≤ x.toInt) (hy : y.toInt = 255) : (x &&& y).toInt = x.toInt % 256 := by
  have h1 := rNatL' h
  have h2 := rNatL' (x := y) (by omega)
  have h3 : y.toBitVec.toNat = 255 := by have := rNatL h2; omega
  have e : (x &&& y).toBitVec.toNat = x.toBitVec.toNat % 256 := by
    show (x.toBitVec &&& y.toBitVec).toNat = _
    rw [BitVec.toNat_and, h3]
    exact Nat.and_two_pow_sub_one_eq_mod _ 8
  rw [rNatL (x := x &&& y) (by omega), rNatL h1, e]
  omega
theorem rOr_le (a b : Nat) : a ||| b ≤ a + b := by
  have h1 : a ||| b = (a ||| b) := rfl
  induction a using Nat.strongRecOn generalizing b with
  | ind a ih =>
    by_cases ha : a = 0
    · subst ha
      simp
    · have h2 := ih (a / 2) (by omega) (b / 2) rfl
      have h3 : (a ||| b) / 2 = a / 2 ||| b / 2 := Nat.or_div_two
      have h4 : (a ||| b) % 2 ≤ a % 2 + b % 2 := by
        have h7 : (a ||| b) % 2 = a % 2 ||| b % 2 := Nat.or_mod_two_pow (n := 1)
        rw [h7]
        have h5 : a % 2 = 0 ∨ a % 2 = 1 := by omega
        have h6 : b % 2 = 0 ∨ b % 2 = 1 := by omega
        rcases h5 with h5 | h5 <;> rcases h6 with h6 | h6 <;> rw [h5, h6] <;> decide
      omega
theorem rLor_ok {x y : Int64} (hx : 0 ≤ x.toInt) (hy : 0 ≤ y.toInt) : x.toInt ≤ (x ||| y).toInt ∧ y.toInt ≤ (x ||| y).toInt ∧ (x ||| y).toInt ≤ x.toInt + y.toInt ∧ (y.toInt % 256 = 0 → x.toInt < 256 → (x ||| y).toInt = x.toInt + y.toInt) := by
  have h1 := rNatL' hx
  have h2 := rNatL' hy
  have e : (x ||| y).toBitVec.toNat = x.toBitVec.toNat ||| y.toBitVec.toNat := by
    show (x.toBitVec ||| y.toBitVec).toNat = _
    rw [BitVec.toNat_or]
  have h3 : x.toBitVec.toNat ||| y.toBitVec.toNat < 2 ^ 63 := Nat.or_lt_two_pow h1 h2
  have h4 : x.toBitVec.toNat ≤ x.toBitVec.toNat ||| y.toBitVec.toNat := Nat.left_le_or
  have h5 : y.toBitVec.toNat ≤ x.toBitVec.toNat ||| y.toBitVec.toNat := Nat.right_le_or
  have h6 := rOr_le x.toBitVec.toNat y.toBitVec.toNat
  rw [rNatL (x := x ||| y) (by rw [e]; exact h3), rNatL h1, rNatL h2, e]
  refine ⟨by omega, by omega, by omega, fun k1 k2 => ?_⟩
  have h7 : y.toBitVec.toNat = 2 ^ 8 * (y.toBitVec.toNat / 256) := by omega
  have h8 := Nat.two_pow_add_eq_or_of_lt (i := 8) (b := x.toBitVec.toNat) (by omega) (y.toBitVec.toNat / 256)
  rw [← h7] at h8
  rw [Nat.or_comm, ← h8]
  omega
theorem rSh63 : ∀ k : Fin 64, ((Int32.ofNat k.val).toInt64 &&& 63).toBitVec.smod 64 = BitVec.ofNat 64 k.val := by decide +kernel
theorem rShk {y : Int32} (h1 : 0 ≤ y.toInt) (h2 : y.toInt < 63) : (y.toInt64 &&& 63).toBitVec.smod 64 = BitVec.ofNat 64 y.toInt.toNat := by
  have hk : y = Int32.ofNat y.toInt.toNat := by
    apply Int32.toInt_inj.mp
    show y.toInt = (Int32.ofInt (y.toInt.toNat : Int)).toInt
    rw [Int.toNat_of_nonneg (by omega), rInt (by unfold rI0; omega) (by unfold rI1; omega)]
  have := rSh63 ⟨y.toInt.toNat, by omega⟩
  dsimp only at this
  rw [← hk] at this
  exact this
theorem rShl_ok {x : Int64} {y : Int32} {p q : Int × Int} (x1 : q.1 ≤ x.toInt) (x2 : x.toInt ≤ q.2) (y1 : p.1 ≤ y.toInt) (y2 : y.toInt ≤ p.2) : (rShl q p).1 ≤ (x <<< (y.toInt64 &&& 63)).toInt ∧ (x <<< (y.toInt64 &&& 63)).toInt ≤ (rShl q p).2 := by
  unfold rShl
  split
  · rename_i h
    have ey : y.toInt = p.1 := by omega
    have hx := rNatL' (x := x) (by omega)
    have hp : (0 : Int) < 2 ^ p.1.toNat := Int.pow_pos (by omega)
    have m1 : q.1 * 2 ^ p.1.toNat ≤ x.toInt * 2 ^ p.1.toNat := Int.mul_le_mul_of_nonneg_right x1 (by omega)
    have m2 : x.toInt * 2 ^ p.1.toNat ≤ q.2 * 2 ^ p.1.toNat := Int.mul_le_mul_of_nonneg_right x2 (by omega)
    have m3 : x.toInt * 2 ^ p.1.toNat ≤ 9223372036854775807 := by have := h.2.2.2.2; unfold rL1 at this; omega
    have en : ((x.toBitVec.toNat * 2 ^ p.1.toNat : Nat) : Int) = x.toInt * 2 ^ p.1.toNat := by rw [rNatL hx]; norm_cast
    have e : (x <<< (y.toInt64 &&& 63)).toBitVec.toNat = x.toBitVec.toNat * 2 ^ p.1.toNat := by
      show (x.toBitVec <<< ((y.toInt64 &&& 63).toBitVec.smod 64)).toNat = _
      rw [rShk (by omega) (by omega), ey]
      show (x.toBitVec <<< (BitVec.ofNat 64 p.1.toNat).toNat).toNat = _
      rw [BitVec.toNat_ofNat, Nat.mod_eq_of_lt (by omega), BitVec.toNat_shiftLeft, Nat.shiftLeft_eq]
      exact Nat.mod_eq_of_lt (by omega)
    have e2 : (x <<< (y.toInt64 &&& 63)).toInt = x.toInt * 2 ^ p.1.toNat := by
      rw [rNatL (by rw [e]; omega), e, en]
    rw [e2]
    exact ⟨m1, m2⟩
  · exact ⟨Int64.le_toInt _, Int64.toInt_le _⟩
theorem rShr_ok {x : Int64} {y : Int32} {p q : Int × Int} (x1 : q.1 ≤ x.toInt) (x2 : x.toInt ≤ q.2) (y1 : p.1 ≤ y.toInt) (y2 : y.toInt ≤ p.2) : (rShr q p).1 ≤ (x >>> (y.toInt64 &&& 63)).toInt ∧ (x >>> (y.toInt64 &&& 63)).toInt ≤ (rShr q p).2 := by
  unfold rShr
  split
  · rename_i h
    have ey : y.toInt = p.1 := by omega
    have hp : (0 : Int) < 2 ^ p.1.toNat := Int.pow_pos (by omega)
    have e : (x >>> (y.toInt64 &&& 63)).toInt = x.toInt / 2 ^ p.1.toNat := by
      show (x.toBitVec.sshiftRight' ((y.toInt64 &&& 63).toBitVec.smod 64)).toInt = _
      rw [rShk (by omega) (by omega), ey]
      show (x.toBitVec.sshiftRight (BitVec.ofNat 64 p.1.toNat).toNat).toInt = _
      rw [BitVec.toNat_ofNat, Nat.mod_eq_of_lt (by omega), BitVec.toInt_sshiftRight, Int.shiftRight_eq_div_pow]
      rfl
    rw [e]
    exact ⟨Int.ediv_le_ediv hp x1, Int.ediv_le_ediv hp x2⟩
  · exact ⟨Int64.le_toInt _, Int64.toInt_le _⟩
end
section
/-! THE MACHINE WITH RANGES IS SOUND: numbers on the stack -/
section RU
variable {ρ : List Int} {fs : rF}
theorem rPlus_ok (hO : rOk ρ fs) {v v' : Value} {c : Int} {x : Int32} (h : rPlus fs v c = some v') (hn : fs.length < 60000) (hx : rE ρ v = some (.int x)) : ∃ w : Int32, rE ρ v' = some (.int w) ∧ w.toInt = x.toInt + c ∧ rI0 ≤ x.toInt + c ∧ x.toInt + c ≤ rI1 := by
  unfold rPlus at h
  split at h
  · rename_i b
    split at h
    · rename_i hb
      split at h
      · rename_i q hq
        split at h
        · rename_i hr
          cases h
          have hq' := hq
          unfold rRg at hq'
          dsimp only at hq'
          split at hq'
          · rename_i p hp
            split at hq'
            · rename_i hp2
              cases hq'
              obtain ⟨z, z1, z2, z3⟩ := hO.get hp
              have hlt : rId b < 60000 := by
                have := (List.getElem?_eq_some_iff.mp hp).1
                omega
              obtain ⟨b', e1, e2, e3⟩ := rMk_id (id := rId b) (off := rOf b + c) hlt (by omega) (by omega)
              rw [rE_f, z1] at hx
              cases hx
              dsimp only at hr
              have i1 : (Int32.ofInt (z + rOf b)).toInt = z + rOf b := rInt (by omega) (by omega)
              refine ⟨Int32.ofInt (z + (rOf b + c)), ?_, ?_, ?_, ?_⟩
              · rw [e1, rE_f, e2, e3, z1]
                rfl
              · rw [i1, rInt (by omega) (by omega)]
                omega
              · rw [i1]; omega
              · rw [i1]; omega
            · cases hq'
          · cases hq'
        · cases h
      · cases h
    · cases h
  · cases h
theorem rCh_ok (x : Int32) : 0 ≤ (x.toUInt32 % 65536).toInt32.toInt ∧ (x.toUInt32 % 65536).toInt32.toInt ≤ 65535 := by
  have e : (x.toUInt32 % 65536).toInt32.toBitVec.toNat < 65536 := by
    show (x.toUInt32 % 65536).toNat < _
    rw [UInt32.toNat_mod]
    exact Nat.mod_lt _ (by decide)
  rw [rNat (by omega)]
  omega
theorem rCh_same {x : Int32} (h : 0 ≤ x.toInt ∧ x.toInt ≤ 65535) : (x.toUInt32 % 65536).toInt32 = x := by
  have h0 := rNat' h.1
  have h3 : x.toBitVec.toNat < 65536 := by
    have := rNat h0
    omega
  have h4 : x.toUInt32 % 65536 = x.toUInt32 := by
    apply UInt32.toNat_inj.mp
    rw [UInt32.toNat_mod]
    exact Nat.mod_eq_of_lt h3
  rw [h4]
  rfl
theorem rBy_ok (x : Int32) : -128 ≤ x.toInt8.toInt32.toInt ∧ x.toInt8.toInt32.toInt ≤ 127 := by
  rw [Int8.toInt_toInt32]
  exact ⟨Int8.le_toInt _, Int8.toInt_le _⟩
theorem rBy_same {x : Int32} (h : -128 ≤ x.toInt ∧ x.toInt ≤ 127) : x.toInt8.toInt32 = x := by
  apply Int32.toInt_inj.mp
  rw [Int8.toInt_toInt32, Int32.toInt_toInt8]
  exact Int.bmod_eq_of_le_mul_two (by show -((256 : Nat) : Int) ≤ x.toInt * 2; omega) (by show x.toInt * 2 < ((256 : Nat) : Int); omega)
theorem rAnyL (w : Int64) : rL0 ≤ w.toInt ∧ w.toInt ≤ rL1 := ⟨Int64.le_toInt w, Int64.toInt_le w⟩
theorem rBil_ok {i : Instr} {p q z : Int × Int} {x y : Int64} (hb : rBil i p q = some z) (x1 : p.1 ≤ x.toInt) (x2 : x.toInt ≤ p.2) (y1 : q.1 ≤ y.toInt) (y2 : y.toInt ≤ q.2) (r : List Value) : ∃ w, mA i (.long y :: .long x :: r) = some (.long w :: r) ∧ z.1 ≤ w.toInt ∧ w.toInt ≤ z.2 := by
  cases i <;> simp only [rBil, reduceCtorEq] at hb
  case ldiv =>
    split at hb
    · rename_i hq
      cases hb
      have hy : ¬ y = 0 := fun h => by subst h; have : (0 : Int64).toInt = 0 := rfl; omega
      refine ⟨x / y, ?_, rAnyL _⟩
      show (if y = 0 then none else some (Value.long (x / y) :: r)) = _
      rw [if_neg hy]
    · cases hb
  case lrem =>
    split at hb
    · rename_i hq
      cases hb
      have hy : ¬ y = 0 := fun h => by subst h; have : (0 : Int64).toInt = 0 := rfl; omega
      refine ⟨x - x / y * y, ?_, rAnyL _⟩
      show (if y = 0 then none else some (Value.long (x - x / y * y) :: r)) = _
      rw [if_neg hy]
    · cases hb
  case land =>
    split at hb
    · rename_i hq
      cases hb
      refine ⟨x &&& y, rfl, ?_⟩
      rw [rLand_255 (by omega) (by omega)]
      dsimp only
      omega
    · split at hb
      · rename_i hq
        cases hb
        refine ⟨x &&& y, rfl, ?_⟩
        have := rLand_ok (x := x) (y := y) (by omega)
        dsimp only
        omega
      · cases hb
        exact ⟨_, rfl, rAnyL _⟩
  case lor =>
    split at hb
    · rename_i h0
      obtain ⟨k1, k2, k3, k4⟩ := rLor_ok (x := x) (y := y) (by omega) (by omega)
      split at hb
      · rename_i hq
        cases hb
        refine ⟨x ||| y, rfl, ?_⟩
        have := k4 (by have : y.toInt = q.1 := by omega
                       omega) (by omega)
        dsimp only
        omega
      · cases hb
        refine ⟨x ||| y, rfl, ?_⟩
        dsimp only
        unfold rMax
        split <;> omega
    · cases hb
      exact ⟨_, rfl, rAnyL _⟩
  all_goals
    cases hb
    exact ⟨_, rfl, rAnyL _⟩
/-- a new int on the stack -/
theorem rPut (hO : rOk ρ fs) (hn : fs.length < 60000) {l u : Int} {x : Int32} {r rc : List Value} (hr : rEs ρ r = some rc) (h : rI0 ≤ l → u ≤ rI1 → l ≤ x.toInt ∧ x.toInt ≤ u) : ∃ e, rOk (ρ ++ e) (rNi fs l u).1 ∧ rEs (ρ ++ e) ((rNi fs l u).2 :: r) = some (.int x :: rc) := by
  obtain ⟨e, e1, e2⟩ := rNi_ok2 hO hn h
  exact ⟨e, e1, rEs_mk e2 (rEs_ext e hr)⟩
theorem rPutl (hO : rOk ρ fs) (hn : fs.length < 60000) {l u : Int} {x : Int64} {r rc : List Value} (hr : rEs ρ r = some rc) (h1 : l ≤ x.toInt) (h2 : x.toInt ≤ u) : ∃ e, rOk (ρ ++ e) (rNl fs l u).1 ∧ rEs (ρ ++ e) ((rNl fs l u).2 :: r) = some (.long x :: rc) := by
  obtain ⟨e, e1, e2⟩ := rNl_ok hO hn h1 h2
  exact ⟨e, e1, rEs_mk e2 (rEs_ext e hr)⟩
theorem rSame (hO : rOk ρ fs) {st stc : List Value} (h : rEs ρ st = some stc) : ∃ e, rOk (ρ ++ e) fs ∧ rEs (ρ ++ e) st = some stc := ⟨[], by rw [List.append_nil]; exact hO, by rw [List.append_nil]; exact h⟩
set_option maxHeartbeats 1000000 in
theorem rU_ok (hO : rOk ρ fs) (hn : fs.length < 60000) {i : Instr} {st stc st' : List Value} {fs' : rF} (hs : rEs ρ st = some stc) (h : rU fs i st = some (fs', st')) : ∃ stc', mA i stc = some stc' ∧ ∃ e, rOk (ρ ++ e) fs' ∧ rEs (ρ ++ e) st' = some stc' := by
  unfold rU at h
  split at h
  · rename_i v r
    obtain ⟨c, rc, hc, hr, rfl⟩ := rEs_cons hs
    cases hq : rRg fs v with
    | none => rw [hq] at h; cases h
    | some q =>
      rw [hq] at h
      cases h
      obtain ⟨x, rfl, x1, x2⟩ := rRg_ok hO hq hc
      refine ⟨_, rfl, rPutl hO hn hr ?_ ?_⟩
      · rw [Int32.toInt_toInt64]; exact x1
      · rw [Int32.toInt_toInt64]; exact x2
  · rename_i v r
    obtain ⟨c, rc, hc, hr, rfl⟩ := rEs_cons hs
    cases hq : rRl fs v with
    | none => rw [hq] at h; cases h
    | some q =>
      rw [hq] at h
      cases h
      obtain ⟨x, rfl, x1, x2⟩ := rRl_ok hO hq hc
      refine ⟨_, rfl, rPut hO hn hr (fun h1 h2 => ?_)⟩
      rw [Int64.toInt_toInt32, rBm (by omega) (by omega)]
      exact ⟨x1, x2⟩
  · rename_i v r
    obtain ⟨c, rc, hc, hr, rfl⟩ := rEs_cons hs
    split at h
    · rename_i q hq
      obtain ⟨x, rfl, x1, x2⟩ := rRg_ok hO hq hc
      split at h
      · rename_i hb
        cases h
        refine ⟨_, rfl, ?_⟩
        dsimp only
        rw [rCh_same ⟨by omega, by omega⟩]
        exact rSame hO hs
      · cases h
        exact ⟨_, rfl, rPut hO hn hr (fun _ _ => rCh_ok x)⟩
    · cases h
  · rename_i v r
    obtain ⟨c, rc, hc, hr, rfl⟩ := rEs_cons hs
    split at h
    · rename_i q hq
      obtain ⟨x, rfl, x1, x2⟩ := rRg_ok hO hq hc
      split at h
      · rename_i hb
        cases h
        refine ⟨_, rfl, ?_⟩
        dsimp only
        rw [rBy_same ⟨by omega, by omega⟩]
        exact rSame hO hs
      · cases h
        exact ⟨_, rfl, rPut hO hn hr (fun _ _ => rBy_ok x)⟩
    · cases h
  · rename_i v r
    obtain ⟨c, rc, hc, hr, rfl⟩ := rEs_cons hs
    cases hq : rRg fs v with
    | none => rw [hq] at h; cases h
    | some q =>
      rw [hq] at h
      cases h
      obtain ⟨x, rfl, x1, x2⟩ := rRg_ok hO hq hc
      refine ⟨_, rfl, rPut hO hn hr (fun h1 h2 => ?_)⟩
      rw [Int32.toInt_neg, rBm (by omega) (by omega)]
      omega
  · rename_i v r
    obtain ⟨c, rc, hc, hr, rfl⟩ := rEs_cons hs
    cases hq : rRl fs v with
    | none => rw [hq] at h; cases h
    | some q =>
      rw [hq] at h
      cases h
      obtain ⟨x, rfl, x1, x2⟩ := rRl_ok hO hq hc
      exact ⟨_, rfl, rPutl hO hn hr (rAnyL _).1 (rAnyL _).2⟩
  · rename_i y x r
    obtain ⟨c, rc, hc, hr, rfl⟩ := rEs_cons hs
    obtain ⟨d, rd, hd, hr2, rfl⟩ := rEs_cons hr
    split at h
    · rename_i k q hk hq
      cases h
      obtain ⟨y', rfl, y1, y2⟩ := rRg_ok hO hk hc
      obtain ⟨x', rfl, x1, x2⟩ := rRl_ok hO hq hd
      exact ⟨_, rfl, rPutl hO hn hr2 (rShl_ok x1 x2 y1 y2).1 (rShl_ok x1 x2 y1 y2).2⟩
    · cases h
  · rename_i y x r
    obtain ⟨c, rc, hc, hr, rfl⟩ := rEs_cons hs
    obtain ⟨d, rd, hd, hr2, rfl⟩ := rEs_cons hr
    split at h
    · rename_i k q hk hq
      cases h
      obtain ⟨y', rfl, y1, y2⟩ := rRg_ok hO hk hc
      obtain ⟨x', rfl, x1, x2⟩ := rRl_ok hO hq hd
      exact ⟨_, rfl, rPutl hO hn hr2 (rShr_ok x1 x2 y1 y2).1 (rShr_ok x1 x2 y1 y2).2⟩
    · cases h
  · rename_i y x r
    obtain ⟨c, rc, hc, hr, rfl⟩ := rEs_cons hs
    obtain ⟨d, rd, hd, hr2, rfl⟩ := rEs_cons hr
    cases hc
    split at h
    · rename_i v hv
      cases h
      have hv' := hv
      unfold rPlus at hv'
      split at hv'
      · rename_i b
        rw [rE_f] at hd
        cases hz : ρ[rId b]? with
        | none => rw [hz] at hd; cases hd
        | some z =>
          rw [hz] at hd
          cases hd
          obtain ⟨w, w1, w2, w3, w4⟩ := rPlus_ok hO hv hn (by rw [rE_f, hz]; rfl)
          refine ⟨_, rfl, rSame hO (rEs_mk ?_ hr2)⟩
          rw [w1]
          refine congrArg (fun t => some (Value.int t)) (Int32.toInt_inj.mp ?_)
          rw [w2, rAdd_ok w3 w4]
      · cases hv'
    · split at h
      · rename_i q hq
        cases h
        obtain ⟨x', rfl, x1, x2⟩ := rRg_ok hO hq hd
        refine ⟨_, rfl, rPut hO hn hr2 (fun h1 h2 => ?_)⟩
        rw [rAdd_ok (by omega) (by omega)]
        omega
      · cases h
  · rename_i y x r _
    obtain ⟨c, rc, hc, hr, rfl⟩ := rEs_cons hs
    obtain ⟨d, rd, hd, hr2, rfl⟩ := rEs_cons hr
    cases hd
    split at h
    · rename_i v hv
      cases h
      have hv' := hv
      unfold rPlus at hv'
      split at hv'
      · rename_i b _
        rw [rE_f] at hc
        cases hz : ρ[rId b]? with
        | none => rw [hz] at hc; cases hc
        | some z =>
          rw [hz] at hc
          cases hc
          obtain ⟨w, w1, w2, w3, w4⟩ := rPlus_ok hO hv hn (by rw [rE_f, hz]; rfl)
          refine ⟨_, rfl, rSame hO (rEs_mk ?_ hr2)⟩
          rw [w1]
          refine congrArg (fun t => some (Value.int t)) (Int32.toInt_inj.mp ?_)
          rw [w2, rAdd_ok (by omega) (by omega)]
          omega
      · cases hv'
    · split at h
      · rename_i q hq
        cases h
        obtain ⟨x', rfl, x1, x2⟩ := rRg_ok hO hq hc
        refine ⟨_, rfl, rPut hO hn hr2 (fun h1 h2 => ?_)⟩
        rw [rAdd_ok (by omega) (by omega)]
        omega
      · cases h
  · rename_i y x r
    obtain ⟨c, rc, hc, hr, rfl⟩ := rEs_cons hs
    obtain ⟨d, rd, hd, hr2, rfl⟩ := rEs_cons hr
    cases hc
    split at h
    · rename_i v hv
      cases h
      have hv' := hv
      unfold rPlus at hv'
      split at hv'
      · rename_i b
        rw [rE_f] at hd
        cases hz : ρ[rId b]? with
        | none => rw [hz] at hd; cases hd
        | some z =>
          rw [hz] at hd
          cases hd
          obtain ⟨w, w1, w2, w3, w4⟩ := rPlus_ok hO hv hn (by rw [rE_f, hz]; rfl)
          refine ⟨_, rfl, rSame hO (rEs_mk ?_ hr2)⟩
          rw [w1]
          refine congrArg (fun t => some (Value.int t)) (Int32.toInt_inj.mp ?_)
          rw [w2, rSub_ok (by omega) (by omega)]
          omega
      · cases hv'
    · split at h
      · rename_i q hq
        cases h
        obtain ⟨x', rfl, x1, x2⟩ := rRg_ok hO hq hd
        refine ⟨_, rfl, rPut hO hn hr2 (fun h1 h2 => ?_)⟩
        rw [rSub_ok (by omega) (by omega)]
        omega
      · cases h
  · rename_i i y x r _ _ _ _ _ _ _ _ _ _ _
    obtain ⟨c, rc, hc, hr, rfl⟩ := rEs_cons hs
    obtain ⟨d, rd, hd, hr2, rfl⟩ := rEs_cons hr
    split at h
    · rename_i p q hp hq
      split at h
      · rename_i z hz
        cases h
        obtain ⟨y', rfl, y1, y2⟩ := rRg_ok hO hq hc
        obtain ⟨x', rfl, x1, x2⟩ := rRg_ok hO hp hd
        obtain ⟨w, w1, w2⟩ := rBin_ok hz x1 x2 y1 y2 rd
        exact ⟨_, w1, rPut hO hn hr2 w2⟩
      · cases h
    · split at h
      · rename_i p q hp hq
        split at h
        · rename_i z hz
          cases h
          obtain ⟨y', rfl, y1, y2⟩ := rRl_ok hO hq hc
          obtain ⟨x', rfl, x1, x2⟩ := rRl_ok hO hp hd
          obtain ⟨w, w1, w2, w3⟩ := rBil_ok hz x1 x2 y1 y2 rd
          exact ⟨_, w1, rPutl hO hn hr2 w2 w3⟩
        · cases h
      · cases h
  · cases h
end RU
end
section
/-! THE MACHINE WITH RANGES IS SOUND: known numbers, locals, jumps -/
section RL
variable {ρ : List Int} {fs : rF}
theorem rm1i {f : Int32 → Value} (hf : ∀ x, rE ρ (f x) = some (f x)) {st stc st' : List Value} (hs : rEs ρ st = some stc) (h : m1i f st = some st') : ∃ stc', m1i f stc = some stc' ∧ rEs ρ st' = some stc' := by
  unfold m1i at h
  split at h
  · cases h
    obtain ⟨c, rc, hc, hr, rfl⟩ := rEs_cons hs
    cases hc
    exact ⟨_, rfl, rEs_mk (hf _) hr⟩
  · cases h
theorem rm1l {f : Int64 → Value} (hf : ∀ x, rE ρ (f x) = some (f x)) {st stc st' : List Value} (hs : rEs ρ st = some stc) (h : m1l f st = some st') : ∃ stc', m1l f stc = some stc' ∧ rEs ρ st' = some stc' := by
  unfold m1l at h
  split at h
  · cases h
    obtain ⟨c, rc, hc, hr, rfl⟩ := rEs_cons hs
    cases hc
    exact ⟨_, rfl, rEs_mk (hf _) hr⟩
  · cases h
theorem rm2i {f : Int32 → Int32 → Value} (hf : ∀ x y, rE ρ (f x y) = some (f x y)) {st stc st' : List Value} (hs : rEs ρ st = some stc) (h : m2i f st = some st') : ∃ stc', m2i f stc = some stc' ∧ rEs ρ st' = some stc' := by
  unfold m2i at h
  split at h
  · cases h
    obtain ⟨c, rc, hc, hr, rfl⟩ := rEs_cons hs
    obtain ⟨d, rd, hd, hr2, rfl⟩ := rEs_cons hr
    cases hc
    cases hd
    exact ⟨_, rfl, rEs_mk (hf _ _) hr2⟩
  · cases h
theorem rm2l {f : Int64 → Int64 → Value} (hf : ∀ x y, rE ρ (f x y) = some (f x y)) {st stc st' : List Value} (hs : rEs ρ st = some stc) (h : m2l f st = some st') : ∃ stc', m2l f stc = some stc' ∧ rEs ρ st' = some stc' := by
  unfold m2l at h
  split at h
  · cases h
    obtain ⟨c, rc, hc, hr, rfl⟩ := rEs_cons hs
    obtain ⟨d, rd, hd, hr2, rfl⟩ := rEs_cons hr
    cases hc
    cases hd
    exact ⟨_, rfl, rEs_mk (hf _ _) hr2⟩
  · cases h
theorem rm2s {f : Int64 → Int32 → Value} (hf : ∀ x y, rE ρ (f x y) = some (f x y)) {st stc st' : List Value} (hs : rEs ρ st = some stc) (h : m2s f st = some st') : ∃ stc', m2s f stc = some stc' ∧ rEs ρ st' = some stc' := by
  unfold m2s at h
  split at h
  · cases h
    obtain ⟨c, rc, hc, hr, rfl⟩ := rEs_cons hs
    obtain ⟨d, rd, hd, hr2, rfl⟩ := rEs_cons hr
    cases hc
    cases hd
    exact ⟨_, rfl, rEs_mk (hf _ _) hr2⟩
  · cases h
theorem rm2d {f : Int32 → Int32 → Value} (hf : ∀ x y, rE ρ (f x y) = some (f x y)) {st stc st' : List Value} (hs : rEs ρ st = some stc) (h : m2d f st = some st') : ∃ stc', m2d f stc = some stc' ∧ rEs ρ st' = some stc' := by
  unfold m2d at h
  split at h
  · split at h
    · cases h
    · rename_i hq
      cases h
      obtain ⟨c, rc, hc, hr, rfl⟩ := rEs_cons hs
      obtain ⟨d, rd, hd, hr2, rfl⟩ := rEs_cons hr
      cases hc
      cases hd
      exact ⟨_, if_neg hq, rEs_mk (hf _ _) hr2⟩
  · cases h
theorem rm2e {f : Int64 → Int64 → Value} (hf : ∀ x y, rE ρ (f x y) = some (f x y)) {st stc st' : List Value} (hs : rEs ρ st = some stc) (h : m2e f st = some st') : ∃ stc', m2e f stc = some stc' ∧ rEs ρ st' = some stc' := by
  unfold m2e at h
  split at h
  · split at h
    · cases h
    · rename_i hq
      cases h
      obtain ⟨c, rc, hc, hr, rfl⟩ := rEs_cons hs
      obtain ⟨d, rd, hd, hr2, rfl⟩ := rEs_cons hr
      cases hc
      cases hd
      exact ⟨_, if_neg hq, rEs_mk (hf _ _) hr2⟩
  · cases h
theorem mA_r {i : Instr} {st stc st' : List Value} (hs : rEs ρ st = some stc) (h : mA i st = some st') : ∃ stc', mA i stc = some stc' ∧ rEs ρ st' = some stc' := by
  cases i <;> simp only [mA, reduceCtorEq] at h ⊢
  case dup =>
    split at h
    · split at h
      · rename_i v r hq
        cases h
        obtain ⟨c, rc, hc, hr, rfl⟩ := rEs_cons hs
        exact ⟨_, if_pos (by rw [rE_cat hc]; exact hq), rEs_mk hc hs⟩
      · cases h
    · cases h
  case pop =>
    split at h
    · split at h
      · rename_i v r hq
        cases h
        obtain ⟨c, rc, hc, hr, rfl⟩ := rEs_cons hs
        exact ⟨_, if_pos (by rw [rE_cat hc]; exact hq), hr⟩
      · cases h
    · cases h
  case dup_x1 =>
    split at h
    · split at h
      · rename_i v w r hq
        cases h
        obtain ⟨c, rc, hc, hr, rfl⟩ := rEs_cons hs
        obtain ⟨d, rd, hd, hr2, rfl⟩ := rEs_cons hr
        exact ⟨_, if_pos (by rw [rE_cat hc, rE_cat hd]; exact hq), rEs_mk hc (rEs_mk hd (rEs_mk hc hr2))⟩
      · cases h
    · cases h
  case dup_x2 =>
    split at h
    · split at h
      · rename_i v w x r hq
        cases h
        obtain ⟨c, rc, hc, hr, rfl⟩ := rEs_cons hs
        obtain ⟨d, rd, hd, hr2, rfl⟩ := rEs_cons hr
        obtain ⟨e, re, he, hr3, rfl⟩ := rEs_cons hr2
        exact ⟨_, if_pos (by rw [rE_cat hc, rE_cat hd, rE_cat he]; exact hq), rEs_mk hc (rEs_mk hd (rEs_mk he (rEs_mk hc hr3)))⟩
      · cases h
    · cases h
  case dup2 =>
    split at h
    · split at h
      · rename_i v w r hq
        cases h
        obtain ⟨c, rc, hc, hr, rfl⟩ := rEs_cons hs
        obtain ⟨d, rd, hd, hr2, rfl⟩ := rEs_cons hr
        exact ⟨_, if_pos (by rw [rE_cat hc, rE_cat hd]; exact hq), rEs_mk hc (rEs_mk hd (rEs_mk hc (rEs_mk hd hr2)))⟩
      · cases h
    · cases h
  all_goals first
    | exact rm2i (fun _ _ => rfl) hs h
    | exact rm2d (fun _ _ => rfl) hs h
    | exact rm1i (fun _ => rfl) hs h
    | exact rm2l (fun _ _ => rfl) hs h
    | exact rm2e (fun _ _ => rfl) hs h
    | exact rm1l (fun _ => rfl) hs h
    | exact rm2s (fun _ _ => rfl) hs h
    | (cases h; exact ⟨_, rfl, rEs_mk rfl hs⟩)
theorem rEv_cons {q : Nat × Value} {r l : mL} (h : rEv ρ (q :: r) = some l) : ∃ c l', rE ρ q.2 = some c ∧ rEv ρ r = some l' ∧ l = (q.1, c) :: l' := by
  unfold rEv at h
  split at h
  · rename_i c hc
    split at h
    · rename_i l' hl
      cases h
      exact ⟨c, l', hc, hl, rfl⟩
    · cases h
  · cases h
theorem rEv_mk {n : Nat} {v c : Value} {r l : mL} (h1 : rE ρ v = some c) (h2 : rEv ρ r = some l) : rEv ρ ((n, v) :: r) = some ((n, c) :: l) := by
  unfold rEv
  rw [h1, h2]
theorem rLd : ∀ {lv lc : mL} {i : Nat} {v : Value}, rEv ρ lv = some lc → mLd lv i = some v → ∃ c, mLd lc i = some c ∧ rE ρ v = some c
  | [], _, _, _, _, h => by cases h
  | q :: r, lc, i, v, hl, h => by
    obtain ⟨c, l', h1, h2, rfl⟩ := rEv_cons hl
    unfold mLd at h ⊢
    dsimp only
    split at h
    · rename_i hq
      cases h
      exact ⟨c, if_pos hq, h1⟩
    · rename_i hq
      rw [if_neg hq]
      exact rLd h2 h
theorem rEv_fil (f : Nat × Value → Bool) (hf : ∀ (n : Nat) (v c : Value), c.category = v.category → f (n, c) = f (n, v)) : ∀ {lv lc : mL}, rEv ρ lv = some lc → rEv ρ (lv.filter f) = some (lc.filter f)
  | [], lc, h => by cases h; rfl
  | q :: r, lc, h => by
    obtain ⟨c, l', h1, h2, rfl⟩ := rEv_cons h
    have ih := rEv_fil f hf h2
    rw [List.filter_cons, List.filter_cons, hf q.1 q.2 c (rE_cat h1)]
    split
    · exact rEv_mk h1 ih
    · exact ih
theorem rSt1 {lv lc : mL} {i : Nat} {v c : Value} (hl : rEv ρ lv = some lc) (hv : rE ρ v = some c) : rEv ρ (mSt1 lv i v) = some (mSt1 lc i c) := by
  unfold mSt1
  exact rEv_mk hv (rEv_fil _ (fun n v c h => by dsimp only; rw [h]) hl)
theorem rSt2 {lv lc : mL} {i : Nat} {v c : Value} (hl : rEv ρ lv = some lc) (hv : rE ρ v = some c) : rEv ρ (mSt2 lv i v) = some (mSt2 lc i c) := by
  unfold mSt2
  exact rEv_mk hv (rEv_fil _ (fun n v c h => by dsimp only; rw [h]) hl)
theorem rKi_ok (hO : rOk ρ fs) {o : Option Value} {v : Value} (h : rKi fs o = some v) : ∃ w, o = some w ∧ ∀ c, rE ρ w = some c → rE ρ v = some c ∧ ∃ x, c = .int x := by
  unfold rKi at h
  split at h
  · cases h
    exact ⟨_, rfl, fun c hc => ⟨hc, by cases hc; exact ⟨_, rfl⟩⟩⟩
  · rename_i x
    have key : ∀ c, rE ρ (.float x) = some c → ∃ y, c = .int y := fun c hc => by
      rw [rE_f] at hc
      cases hz : ρ[rId x]? with
      | none => rw [hz] at hc; cases hc
      | some z => rw [hz] at hc; cases hc; exact ⟨_, rfl⟩
    split at h
    · rename_i q hq
      split at h
      · rename_i hr
        cases h
        refine ⟨_, rfl, fun c hc => ⟨?_, key c hc⟩⟩
        obtain ⟨z, z1, z2, z3⟩ := hO.2.1 _ _ hq
        rw [rE_f, z1] at hc
        cases hc
        have : z = q.1 := by omega
        rw [this]
        rfl
      · cases h
        exact ⟨_, rfl, fun c hc => ⟨hc, key c hc⟩⟩
    · cases h
      exact ⟨_, rfl, fun c hc => ⟨hc, key c hc⟩⟩
  · cases h
theorem rB_ok (hO : rOk ρ fs) {i : Instr} {lv lc : mL} {v : Value} (hl : rEv ρ lv = some lc) (h : rB fs i lv = some v) : ∃ c, mB i lc = some c ∧ rE ρ v = some c := by
  have ki : ∀ {n : Nat}, rKi fs (mLd lv n) = some v → ∃ c, mKi (mLd lc n) = some c ∧ rE ρ v = some c := fun {n} h => by
    obtain ⟨w, hw, hk⟩ := rKi_ok hO h
    obtain ⟨c, c1, c2⟩ := rLd hl hw
    obtain ⟨c3, x, rfl⟩ := hk c c2
    exact ⟨_, by rw [c1]; rfl, c3⟩
  have kl : ∀ {n : Nat}, rKl (mLd lv n) = some v → ∃ c, mKl (mLd lc n) = some c ∧ rE ρ v = some c := fun {n} h => by
    unfold rKl at h
    split at h
    · rename_i x hx
      cases h
      obtain ⟨c, c1, c2⟩ := rLd hl hx
      cases c2
      exact ⟨_, by rw [c1]; rfl, rfl⟩
    · rename_i x hx
      cases h
      obtain ⟨c, c1, c2⟩ := rLd hl hx
      have c3 := c2
      rw [rE_d] at c3
      cases hz : ρ[x.toNat]? with
      | none => rw [hz] at c3; cases c3
      | some z => rw [hz] at c3; cases c3; exact ⟨_, by rw [c1]; rfl, c2⟩
    · cases h
  have kr : ∀ {n : Nat}, rKr (mLd lv n) = some v → ∃ c, mKr (mLd lc n) = some c ∧ rE ρ v = some c := fun {n} h => by
    unfold rKr at h
    split at h
    · rename_i x hx
      cases h
      obtain ⟨c, c1, c2⟩ := rLd hl hx
      cases c2
      exact ⟨_, by rw [c1]; rfl, rfl⟩
    · rename_i x hx
      cases h
      obtain ⟨c, c1, c2⟩ := rLd hl hx
      have c3 := c2
      rw [rE_r] at c3
      cases hz : ρ[x]? with
      | none => rw [hz] at c3; cases c3
      | some z => rw [hz] at c3; cases c3; exact ⟨_, by rw [c1]; rfl, c2⟩
    · cases h
  cases i <;> simp only [rB, reduceCtorEq] at h <;> simp only [mB]
  all_goals first
    | exact ki h
    | exact kl h
    | exact kr h
end RL
end
section
/-! THE MACHINE WITH RANGES IS SOUND: stores, comparisons, questions -/
section RJ
variable {ρ : List Int} {fs : rF}
theorem rOf_rng (b : UInt32) : -32768 ≤ rOf b ∧ rOf b ≤ 32767 := by
  unfold rOf
  have := Nat.mod_lt b.toNat (show 0 < 65536 by decide)
  omega
theorem rE_fi {b : UInt32} {c : Value} (h : rE ρ (.float b) = some c) : ∃ y, c = .int y := by
  rw [rE_f] at h
  cases hz : ρ[rId b]? with
  | none => rw [hz] at h; cases h
  | some z => rw [hz] at h; cases h; exact ⟨_, rfl⟩
theorem rE_dl {b : UInt64} {c : Value} (h : rE ρ (.double b) = some c) : ∃ y, c = .long y := by
  rw [rE_d] at h
  cases hz : ρ[b.toNat]? with
  | none => rw [hz] at h; cases h
  | some z => rw [hz] at h; cases h; exact ⟨_, rfl⟩
theorem rE_rr {b : Nat} {c : Value} (h : rE ρ (.retAddr b) = some c) : ∃ y, c = .ref y := by
  rw [rE_r] at h
  cases hz : ρ[b]? with
  | none => rw [hz] at h; cases h
  | some z => rw [hz] at h; cases h; exact ⟨_, rfl⟩
theorem rD_ok (hO : rOk ρ fs) (hn : fs.length < 60000) {i : Instr} {nL : Nat} {lv lv' lc : mL} {st st' stc : List Value} (hl : rEv ρ lv = some lc) (hs : rEs ρ st = some stc) (h : rD fs i nL lv st = some (lv', st')) : ∃ lc' stc', mD i nL lc stc = some (lc', stc') ∧ rEv ρ lv' = some lc' ∧ rEs ρ st' = some stc' := by
  have si : ∀ {n : Nat} {lv' : mL} {st' : List Value}, rSi nL lv n st = some (lv', st') → ∃ lc' stc', mSi nL lc n stc = some (lc', stc') ∧ rEv ρ lv' = some lc' ∧ rEs ρ st' = some stc' := fun {n lv' st'} h => by
    unfold rSi at h
    split at h
    · split at h
      · rename_i x r hq
        cases h
        obtain ⟨c, rc, hc, hr, rfl⟩ := rEs_cons hs
        cases hc
        exact ⟨_, _, if_pos hq, rSt1 hl rfl, hr⟩
      · cases h
    · split at h
      · rename_i x r hq
        cases h
        obtain ⟨c, rc, hc, hr, rfl⟩ := rEs_cons hs
        obtain ⟨y, rfl⟩ := rE_fi hc
        exact ⟨_, _, if_pos hq, rSt1 hl hc, hr⟩
      · cases h
    · cases h
  have sl : ∀ {n : Nat} {lv' : mL} {st' : List Value}, rSl nL lv n st = some (lv', st') → ∃ lc' stc', mSl nL lc n stc = some (lc', stc') ∧ rEv ρ lv' = some lc' ∧ rEs ρ st' = some stc' := fun {n lv' st'} h => by
    unfold rSl at h
    split at h
    · split at h
      · rename_i x r hq
        cases h
        obtain ⟨c, rc, hc, hr, rfl⟩ := rEs_cons hs
        cases hc
        exact ⟨_, _, if_pos hq, rSt2 hl rfl, hr⟩
      · cases h
    · split at h
      · rename_i x r hq
        cases h
        obtain ⟨c, rc, hc, hr, rfl⟩ := rEs_cons hs
        obtain ⟨y, rfl⟩ := rE_dl hc
        exact ⟨_, _, if_pos hq, rSt2 hl hc, hr⟩
      · cases h
    · cases h
  have sr : ∀ {n : Nat} {lv' : mL} {st' : List Value}, rSr nL lv n st = some (lv', st') → ∃ lc' stc', mSr nL lc n stc = some (lc', stc') ∧ rEv ρ lv' = some lc' ∧ rEs ρ st' = some stc' := fun {n lv' st'} h => by
    unfold rSr at h
    split at h
    · split at h
      · rename_i x r hq
        cases h
        obtain ⟨c, rc, hc, hr, rfl⟩ := rEs_cons hs
        cases hc
        exact ⟨_, _, if_pos hq, rSt1 hl rfl, hr⟩
      · cases h
    · split at h
      · rename_i x r hq
        cases h
        obtain ⟨c, rc, hc, hr, rfl⟩ := rEs_cons hs
        obtain ⟨y, rfl⟩ := rE_rr hc
        exact ⟨_, _, if_pos hq, rSt1 hl hc, hr⟩
      · cases h
    · cases h
  have ic : ∀ {n : Nat} {c : Int} {lv' : mL} {st' : List Value}, rIc fs nL lv n c (mLd lv n) st = some (lv', st') → ∃ lc' stc', mIc nL lc n c (mLd lc n) stc = some (lc', stc') ∧ rEv ρ lv' = some lc' ∧ rEs ρ st' = some stc' := fun {n c lv' st'} h => by
    unfold rIc at h
    split at h
    · rename_i x hx
      split at h
      · rename_i hq
        cases h
        obtain ⟨d, d1, d2⟩ := rLd hl hx
        cases d2
        refine ⟨_, _, ?_, rSt1 hl rfl, hs⟩
        rw [d1]
        exact if_pos hq
      · cases h
    · rename_i x hx
      split at h
      · rename_i v hv
        split at h
        · rename_i hq
          cases h
          obtain ⟨d, d1, d2⟩ := rLd hl hx
          have d3 := d2
          rw [rE_f] at d3
          cases hz : ρ[rId x]? with
          | none => rw [hz] at d3; cases d3
          | some z =>
            rw [hz] at d3
            cases d3
            obtain ⟨w, w1, w2, w3, w4⟩ := rPlus_ok hO hv hn d2
            have hc : (Int32.ofInt c).toInt = c := by
              have h1 := rOf_rng x
              unfold rPlus at hv
              dsimp only at hv
              split at hv
              · rename_i hb
                exact rInt (by unfold rI0; omega) (by unfold rI1; omega)
              · cases hv
            refine ⟨_, _, ?_, rSt1 hl w1, hs⟩
            rw [d1]
            show (if n < nL then some (mSt1 lc n (.int (Int32.ofInt (z + rOf x) + Int32.ofInt c)), stc) else none) = _
            rw [if_pos hq]
            have : Int32.ofInt (z + rOf x) + Int32.ofInt c = w := Int32.toInt_inj.mp (by rw [rAdd_ok (by rw [hc]; exact w3) (by rw [hc]; exact w4), hc, w2])
            rw [this]
        · cases h
      · cases h
    · cases h
  cases i <;> simp only [rD, reduceCtorEq] at h <;> simp only [mD]
  all_goals first
    | exact si h
    | exact sl h
    | exact sr h
    | exact ic h
theorem rDec_ok {c : ClassFile.Cond} {p q : Int × Int} {x y : Int32} {t : Bool} (h : rDec c p q = some t) (x1 : p.1 ≤ x.toInt) (x2 : x.toInt ≤ p.2) (y1 : q.1 ≤ y.toInt) (y2 : y.toInt ≤ q.2) : mCnd c x y = t := by
  have lt : ∀ {a b : Int32}, decide (a < b) = decide (a.toInt < b.toInt) := fun {a b} => decide_eq_decide.mpr Int32.lt_iff_toInt_lt
  have le : ∀ {a b : Int32}, decide (a ≤ b) = decide (a.toInt ≤ b.toInt) := fun {a b} => decide_eq_decide.mpr Int32.le_iff_toInt_le
  have eq : ∀ {a b : Int32}, decide (a = b) = decide (a.toInt = b.toInt) := fun {a b} => decide_eq_decide.mpr Int32.toInt_inj.symm
  have ne : ∀ {a b : Int32}, decide (¬ a = b) = decide (¬ a.toInt = b.toInt) := fun {a b} => decide_eq_decide.mpr (not_congr Int32.toInt_inj.symm)
  cases c <;> simp only [rDec] at h <;> simp only [mCnd, lt, le, eq, ne]
  all_goals
    split at h
    · cases h
      exact decide_eq_true (by omega)
    · split at h
      · cases h
        exact decide_eq_false (by omega)
      · cases h
theorem rLc_ok (hO : rOk ρ fs) {i : Instr} {st st' stc : List Value} (hs : rEs ρ st = some stc) (h : rLc fs i st = some st') : ∃ stc', mA i stc = some stc' ∧ rEs ρ st' = some stc' := by
  unfold rLc at h
  split at h
  · rename_i w v r
    obtain ⟨c, rc, hc, hr, rfl⟩ := rEs_cons hs
    obtain ⟨d, rd, hd, hr2, rfl⟩ := rEs_cons hr
    split at h
    · rename_i x y hx hy
      obtain ⟨y', rfl, y1, y2⟩ := rRl_ok hO hy hc
      obtain ⟨x', rfl, x1, x2⟩ := rRl_ok hO hx hd
      have key : ∀ k : Int32, lg_cmp x' y' = k → ∃ stc', mA .lcmp (.long y' :: .long x' :: rd) = some stc' ∧ rEs ρ (.int k :: r) = some stc' := fun k hk => ⟨.int (lg_cmp x' y') :: rd, rfl, by rw [hk]; exact rEs_mk rfl hr2⟩
      split at h
      · cases h
        refine key _ ?_
        unfold lg_cmp
        rw [if_neg (fun k => by have := Int64.lt_iff_toInt_lt.mp k; omega), if_neg (fun k => by subst k; omega)]
      · split at h
        · cases h
          refine key _ ?_
          unfold lg_cmp
          exact if_pos (Int64.lt_iff_toInt_lt.mpr (by omega))
        · split at h
          · cases h
            refine key _ ?_
            have e : x' = y' := Int64.toInt_inj.mp (by omega)
            subst e
            unfold lg_cmp
            rw [if_neg (fun k => by have := Int64.lt_iff_toInt_lt.mp k; omega), if_pos rfl]
          · cases h
    · cases h
  · cases h
/-- what number a value is -/
def rVal (ρ : List Int) (v : Value) (x : Int) : Prop := match v with
  | .float b => ∃ z, ρ[rId b]? = some z ∧ x = z + rOf b
  | .double b => ρ[b.toNat]? = some x
  | _ => True
theorem rVal_i (hO : rOk ρ fs) {v : Value} {q : Int × Int} {x : Int32} (hr : rRg fs v = some q) (hc : rE ρ v = some (.int x)) : rVal ρ v x.toInt := by
  unfold rRg at hr
  split at hr
  · trivial
  · rename_i b
    split at hr
    · rename_i p hp
      split at hr
      · rename_i hb
        obtain ⟨z, z1, z2, z3⟩ := hO.get hp
        rw [rE_f, z1] at hc
        cases hc
        exact ⟨z, z1, rInt (by omega) (by omega)⟩
      · cases hr
    · cases hr
  · cases hr
theorem rVal_l (hO : rOk ρ fs) {v : Value} {q : Int × Int} {x : Int64} (hr : rRl fs v = some q) (hc : rE ρ v = some (.long x)) : rVal ρ v x.toInt := by
  unfold rRl at hr
  split at hr
  · trivial
  · rename_i b
    split at hr
    · rename_i p hp
      split at hr
      · rename_i hb
        obtain ⟨z, z1, z2, z3⟩ := hO.2.1 _ _ hp
        rw [rE_d, z1] at hc
        cases hc
        show ρ[b.toNat]? = some _
        rw [z1, rLong (by omega) (by omega)]
      · cases hr
    · cases hr
  · cases hr
theorem rOk.cut (hO : rOk ρ fs) {i : Nat} {z : Int} {p : Int × Int} (hz : ρ[i]? = some z) (h1 : p.1 ≤ z) (h2 : z ≤ p.2) (h3 : rCd ρ p z) : rOk ρ (fs.set i p) := by
  refine ⟨by rw [List.length_set]; exact hO.1, fun j q hq => ?_, fun j q w hq hw => ?_⟩
  · rw [List.getElem?_set] at hq
    split at hq
    · rename_i hij
      subst hij
      split at hq
      · cases hq
        exact ⟨z, hz, h1, h2⟩
      · cases hq
    · exact hO.2.1 j q hq
  · rw [List.getElem?_set] at hq
    split at hq
    · rename_i hij
      subst hij
      split at hq
      · cases hq
        rw [hz] at hw
        cases hw
        exact h3
      · cases hq
    · exact hO.2.2 j q w hq hw
theorem rUp_ok {a b z : Int} (h1 : a ≤ z) (h2 : b ≤ z) (h3 : ∀ j c, rCl a = some (j, c) → ∃ y, ρ[j]? = some y ∧ y + c ≤ z) : rUp a b ≤ z ∧ ∀ j c, rCl (rUp a b) = some (j, c) → ∃ y, ρ[j]? = some y ∧ y + c ≤ z := by
  unfold rUp
  split
  · rename_i h
    refine ⟨h2, fun j c hj => ?_⟩
    unfold rCl at hj
    rw [if_neg (by omega)] at hj
    cases hj
  · exact ⟨h1, h3⟩
theorem rDn_ok {a b z : Int} (h1 : z ≤ a) (h2 : z ≤ b) (h3 : ∀ j c, rCu a = some (j, c) → ∃ y, ρ[j]? = some y ∧ z ≤ y + c) : z ≤ rDn a b ∧ ∀ j c, rCu (rDn a b) = some (j, c) → ∃ y, ρ[j]? = some y ∧ z ≤ y + c := by
  unfold rDn
  split
  · rename_i h
    refine ⟨h2, fun j c hj => ?_⟩
    unfold rCu at hj
    rw [if_neg (by omega)] at hj
    cases hj
  · exact ⟨h1, h3⟩
theorem rMx {a b z : Int} (h1 : a ≤ z) (h2 : b ≤ z) : rMax a b ≤ z := by
  unfold rMax
  split <;> assumption
theorem rMn {a b z : Int} (h1 : z ≤ a) (h2 : z ≤ b) : z ≤ rMin a b := by
  unfold rMin
  split <;> assumption
theorem rCut_ok (hO : rOk ρ fs) {v : Value} {x lo hi : Int} (hv : rVal ρ v x) (h1 : lo ≤ x) (h2 : x ≤ hi) : ∃ g, rCut fs v lo hi = some g ∧ rOk ρ g := by
  have rng : ∀ {i : Nat} {z : Int}, ρ[i]? = some z → ∃ q, fs[i]? = some q ∧ q.1 ≤ z ∧ z ≤ q.2 ∧ rLo fs 6 q.1 ≤ z ∧ z ≤ rHi fs 6 q.2 ∧ rCd ρ q z := fun {i z} hz => by
    have hi : i < fs.length := by rw [← hO.1]; exact (List.getElem?_eq_some_iff.mp hz).1
    obtain ⟨z', z1, z2, z3⟩ := hO.2.1 i _ (List.getElem?_eq_getElem hi)
    obtain ⟨z'', y1, y2, y3⟩ := hO.get (List.getElem?_eq_getElem hi)
    rw [hz] at z1 y1
    cases z1
    cases y1
    exact ⟨_, List.getElem?_eq_getElem hi, z2, z3, y2, y3, hO.2.2 _ _ _ (List.getElem?_eq_getElem hi) hz⟩
  unfold rCut
  split
  · rename_i b
    obtain ⟨z, z1, z2⟩ := hv
    obtain ⟨q, q1, q2, q3, q4, q5, q6⟩ := rng z1
    rw [q1]
    have m1 : rMax (rLo fs 6 q.1) (lo - rOf b) ≤ z := rMx q4 (by omega)
    have m2 : z ≤ rMin (rHi fs 6 q.2) (hi - rOf b) := rMn q5 (by omega)
    obtain ⟨u1, u2⟩ := rUp_ok (b := lo - rOf b) q2 (by omega) q6.1
    obtain ⟨u3, u4⟩ := rDn_ok (b := hi - rOf b) q3 (by omega) q6.2
    exact ⟨_, if_pos (Int.le_trans m1 m2), hO.cut z1 u1 u3 ⟨u2, u4⟩⟩
  · rename_i b
    have z1 : ρ[b.toNat]? = some x := hv
    obtain ⟨q, q1, q2, q3, q4, q5, q6⟩ := rng z1
    rw [q1]
    have m1 : rMax (rLo fs 6 q.1) lo ≤ x := rMx q4 h1
    have m2 : x ≤ rMin (rHi fs 6 q.2) hi := rMn q5 h2
    obtain ⟨u1, u2⟩ := rUp_ok (b := lo) q2 h1 q6.1
    obtain ⟨u3, u4⟩ := rDn_ok (b := hi) q3 h2 q6.2
    exact ⟨_, if_pos (Int.le_trans m1 m2), hO.cut z1 u1 u3 ⟨u2, u4⟩⟩
  · exact ⟨fs, rfl, hO⟩
theorem rTwo_ok (hO : rOk ρ fs) {v w : Value} {x y a b c d : Int} (hv : rVal ρ v x) (hw : rVal ρ w y) (h1 : a ≤ x) (h2 : x ≤ b) (h3 : c ≤ y) (h4 : y ≤ d) : ∃ g ∈ rTwo fs v w a b c d, rOk ρ g := by
  obtain ⟨g, g1, g2⟩ := rCut_ok hO hv h1 h2
  obtain ⟨k, k1, k2⟩ := rCut_ok g2 hw h3 h4
  refine ⟨k, ?_, k2⟩
  unfold rTwo
  rw [g1]
  dsimp only
  rw [k1]
  exact List.mem_cons_self
/-- the comparison of two Ints -/
def rCmp (c : ClassFile.Cond) (x y : Int) : Prop := match c with
  | .eq => x = y
  | .ne => ¬ x = y
  | .lt => x < y
  | .ge => y ≤ x
  | .gt => y < x
  | .le => x ≤ y
theorem rRef_ok (hO : rOk ρ fs) {c : ClassFile.Cond} {v w : Value} {p q : Int × Int} {x y : Int} (hv : rVal ρ v x) (hw : rVal ρ w y) (x1 : p.1 ≤ x) (x2 : x ≤ p.2) (y1 : q.1 ≤ y) (y2 : y ≤ q.2) (bx : rL0 ≤ x ∧ x ≤ rL1) (by' : rL0 ≤ y ∧ y ≤ rL1) (hc : rCmp c x y) : ∃ g ∈ rRef c fs v w p q, rOk ρ g := by
  cases c
  case eq =>
    have hc : x = y := hc
    subst hc
    exact rTwo_ok hO hv hw (rMx x1 y1) (rMn x2 y2) (rMx x1 y1) (rMn x2 y2)
  case ne =>
    have hc : ¬ x = y := hc
    unfold rRef
    dsimp only
    split
    · exact ⟨fs, List.mem_cons_self, hO⟩
    split
    · rename_i hq
      by_cases hlt : x < y
      · obtain ⟨g, g1, g2⟩ := rTwo_ok hO hv hw (a := rL0) (b := q.1 - 1) (c := rL0) (d := rL1) (by omega) (by omega) (by omega) (by omega)
        exact ⟨g, List.mem_append_left _ g1, g2⟩
      · obtain ⟨g, g1, g2⟩ := rTwo_ok hO hv hw (a := q.1 + 1) (b := rL1) (c := rL0) (d := rL1) (by omega) (by omega) (by omega) (by omega)
        exact ⟨g, List.mem_append_right _ g1, g2⟩
    · split
      · rename_i hp
        by_cases hlt : y < x
        · obtain ⟨g, g1, g2⟩ := rTwo_ok hO hv hw (a := rL0) (b := rL1) (c := rL0) (d := p.1 - 1) (by omega) (by omega) (by omega) (by omega)
          exact ⟨g, List.mem_append_left _ g1, g2⟩
        · obtain ⟨g, g1, g2⟩ := rTwo_ok hO hv hw (a := rL0) (b := rL1) (c := p.1 + 1) (d := rL1) (by omega) (by omega) (by omega) (by omega)
          exact ⟨g, List.mem_append_right _ g1, g2⟩
      · exact ⟨fs, List.mem_cons_self, hO⟩
  case lt =>
    have hc : x < y := hc
    exact rTwo_ok hO hv hw (by omega) (by omega) (by omega) (by omega)
  case ge =>
    have hc : y ≤ x := hc
    exact rTwo_ok hO hv hw (by omega) (by omega) (by omega) (by omega)
  case gt =>
    have hc : y < x := hc
    exact rTwo_ok hO hv hw (by omega) (by omega) (by omega) (by omega)
  case le =>
    have hc : x ≤ y := hc
    exact rTwo_ok hO hv hw (by omega) (by omega) (by omega) (by omega)
end RJ
end
section
/-! THE MACHINE WITH RANGES IS SOUND: jumps and questions -/
section RQ
variable {ρ : List Int} {fs : rF}
theorem mBr_pc {t : Bool} {pc pc' : Nat} {off : Int} {r r' : List Value} (h : mBr t pc off r = some (pc', r')) : r' = r ∧ ∀ s : List Value, mBr t pc off s = some (pc', s) := by
  unfold mBr at h ⊢
  cases hm : mTo pc off with
  | none => rw [hm] at h; cases t <;> cases h
  | some q => rw [hm] at h; cases t <;> (cases h; exact ⟨rfl, fun _ => rfl⟩)
theorem mTo_pc {pc pc' : Nat} {off : Int} {r r' : List Value} (h : (mTo pc off).map (fun q => (q, r)) = some (pc', r')) : r' = r ∧ ∀ s : List Value, (mTo pc off).map (fun q => (q, s)) = some (pc', s) := by
  cases hm : mTo pc off with
  | none => rw [hm] at h; cases h
  | some q => rw [hm] at h; cases h; exact ⟨rfl, fun _ => rfl⟩
set_option maxHeartbeats 1000000 in
theorem rJ_ok (hO : rOk ρ fs) {i : Instr} {pc pc' : Nat} {st st' stc : List Value} (hs : rEs ρ st = some stc) (h : rJ fs i pc st = some (pc', st')) : ∃ stc', mJ i pc stc = some (pc', stc') ∧ rEs ρ st' = some stc' := by
  unfold rJ at h
  split at h
  · obtain ⟨rfl, k⟩ := mTo_pc h
    exact ⟨stc, k stc, hs⟩
  · rename_i c off v r
    split at h
    · rename_i x hx
      split at h
      · rename_i t ht
        obtain ⟨d, rd, hd, hr, rfl⟩ := rEs_cons hs
        obtain ⟨x', rfl, x1, x2⟩ := rRg_ok hO hx hd
        obtain ⟨rfl, k⟩ := mBr_pc h
        refine ⟨rd, ?_, hr⟩
        show mBr (mCnd c x' 0) pc off rd = _
        rw [rDec_ok (y := 0) ht x1 x2 (Int.le_refl _) (Int.le_refl _)]
        exact k rd
      · cases h
    · cases h
  · rename_i c off w v r
    split at h
    · rename_i x y hx hy
      split at h
      · rename_i t ht
        obtain ⟨d, rd, hd, hr, rfl⟩ := rEs_cons hs
        obtain ⟨e, re, he, hr2, rfl⟩ := rEs_cons hr
        obtain ⟨y', rfl, y1, y2⟩ := rRg_ok hO hy hd
        obtain ⟨x', rfl, x1, x2⟩ := rRg_ok hO hx he
        obtain ⟨rfl, k⟩ := mBr_pc h
        refine ⟨re, ?_, hr2⟩
        show mBr (mCnd c x' y') pc off re = _
        rw [rDec_ok ht x1 x2 y1 y2]
        exact k re
      · cases h
    · cases h
  · rename_i off y x r
    split at h
    · rename_i hq
      obtain ⟨d, rd, hd, hr, rfl⟩ := rEs_cons hs
      obtain ⟨e, re, he, hr2, rfl⟩ := rEs_cons hr
      cases hd
      cases he
      obtain ⟨rfl, k⟩ := mBr_pc h
      exact ⟨re, by show (if _ then mBr (decide (x = y)) pc off re else none) = _; rw [if_pos hq]; exact k re, hr2⟩
    · cases h
  · rename_i off y x r
    split at h
    · rename_i hq
      obtain ⟨d, rd, hd, hr, rfl⟩ := rEs_cons hs
      obtain ⟨e, re, he, hr2, rfl⟩ := rEs_cons hr
      cases hd
      cases he
      obtain ⟨rfl, k⟩ := mBr_pc h
      exact ⟨re, by show (if _ then mBr (decide (¬ x = y)) pc off re else none) = _; rw [if_pos hq]; exact k re, hr2⟩
    · cases h
  · rename_i d lo hi offs v r
    split at h
    · rename_i x hx
      obtain ⟨e, re, he, hr, rfl⟩ := rEs_cons hs
      obtain ⟨x', rfl, x1, x2⟩ := rRg_ok hO hx he
      split at h
      · rename_i hq
        obtain ⟨rfl, k⟩ := mTo_pc h
        refine ⟨re, ?_, hr⟩
        show (if x'.toInt < lo ∨ hi < x'.toInt then (mTo pc d).map (fun q => (q, re)) else _) = _
        rw [if_pos (by omega)]
        exact k re
      · rename_i hq
        split at h
        · rename_i hx2
          split at h
          · rename_i off ho
            obtain ⟨rfl, k⟩ := mTo_pc h
            refine ⟨re, ?_, hr⟩
            have hxx : x'.toInt = x.1 := by omega
            show (if x'.toInt < lo ∨ hi < x'.toInt then (mTo pc d).map (fun q => (q, re)) else match offs[(x'.toInt - lo).toNat]? with
              | some off => (mTo pc off).map (fun q => (q, re))
              | none => none) = _
            rw [if_neg (by omega), hxx, ho]
            exact k re
          · cases h
        · cases h
    · cases h
  · rename_i d ps v r
    split at h
    · rename_i x hx
      obtain ⟨e, re, he, hr, rfl⟩ := rEs_cons hs
      obtain ⟨x', rfl, x1, x2⟩ := rRg_ok hO hx he
      split at h
      · rename_i hq
        have out : ∀ k : Int, (∀ q ∈ ps.toList, ¬ q.1 = k) → Op.lookupswitch.offset ps.toList d k = d := fun k => by
          induction ps.toList with
          | nil => intro _; rfl
          | cons a l ih =>
            intro hk
            obtain ⟨a1, a2⟩ := a
            rw [Op.lookupswitch.offset_cons, if_neg (hk (a1, a2) List.mem_cons_self)]
            exact ih (fun q hq => hk q (List.mem_cons_of_mem _ hq))
        split at h
        · rename_i hx2
          obtain ⟨rfl, k⟩ := mTo_pc h
          refine ⟨re, ?_, hr⟩
          have hxx : x'.toInt = x.1 := by omega
          show (if (ps.toList.zip (ps.toList.drop 1)).all (fun (a, next) => a.1 < next.1) = true then (mTo pc (Op.lookupswitch.offset ps.toList d x'.toInt)).map (fun q => (q, re)) else none) = _
          rw [if_pos hq, hxx]
          exact k re
        · split at h
          · rename_i hall
            obtain ⟨rfl, k⟩ := mTo_pc h
            refine ⟨re, ?_, hr⟩
            show (if (ps.toList.zip (ps.toList.drop 1)).all (fun (a, next) => a.1 < next.1) = true then (mTo pc (Op.lookupswitch.offset ps.toList d x'.toInt)).map (fun q => (q, re)) else none) = _
            rw [if_pos hq, out x'.toInt (fun q hq hk => ?_)]
            · exact k re
            · have := List.all_eq_true.mp hall q hq
              rw [Bool.or_eq_true, decide_eq_true_eq, decide_eq_true_eq] at this
              omega
          · cases h
      · cases h
    · cases h
  · cases h
theorem rCmp_c (c : ClassFile.Cond) (x y : Int32) : mCnd c x y = true ↔ rCmp c x.toInt y.toInt := by
  cases c <;> simp only [mCnd, rCmp, decide_eq_true_eq]
  · exact Int32.toInt_inj.symm
  · exact not_congr Int32.toInt_inj.symm
  · exact Int32.lt_iff_toInt_lt
  · exact Int32.le_iff_toInt_le
  · exact Int32.lt_iff_toInt_lt
  · exact Int32.le_iff_toInt_le
theorem rCmp_neg (c : ClassFile.Cond) (x y : Int) (h : ¬ rCmp c x y) : rCmp (rNeg c) x y := by
  cases c <;> simp only [rCmp, rNeg] at h ⊢ <;> omega
theorem rI_b (x : Int32) : rL0 ≤ x.toInt ∧ x.toInt ≤ rL1 := by
  have h1 := Int32.le_toInt x
  have h2 := Int32.toInt_le x
  have h3 : (-2147483648 : Int) ≤ x.toInt := h1
  have h4 : x.toInt ≤ 2147483647 := h2
  unfold rL0 rL1
  omega
theorem rWay_ok (hO : rOk ρ fs) {c : ClassFile.Cond} {v w : Value} {p q : Int × Int} {x y : Int32} {pc : Nat} {off : Int} {r rc : List Value} {l : List (rF × Nat × List Value)} (hv : rVal ρ v x.toInt) (hw : rVal ρ w y.toInt) (x1 : p.1 ≤ x.toInt) (x2 : x.toInt ≤ p.2) (y1 : q.1 ≤ y.toInt) (y2 : y.toInt ≤ q.2) (hr : rEs ρ r = some rc) (h : rWay c fs v w p q pc off r = some l) : ∃ k ∈ l, rOk ρ k.1 ∧ rEs ρ k.2.2 = some rc ∧ mBr (mCnd c x y) pc off rc = some (k.2.1, rc) := by
  unfold rWay at h
  split at h
  · rename_i t ht
    cases h
    by_cases hc : rCmp c x.toInt y.toInt
    · obtain ⟨g, g1, g2⟩ := rRef_ok hO hv hw x1 x2 y1 y2 (rI_b x) (rI_b y) hc
      refine ⟨(g, t, r), List.mem_append_left _ (List.mem_map.mpr ⟨g, g1, rfl⟩), g2, hr, ?_⟩
      rw [(rCmp_c c x y).mpr hc]
      unfold mBr
      rw [ht]
      rfl
    · obtain ⟨g, g1, g2⟩ := rRef_ok hO hv hw x1 x2 y1 y2 (rI_b x) (rI_b y) (rCmp_neg c _ _ hc)
      refine ⟨(g, pc + 3, r), List.mem_append_right _ (List.mem_map.mpr ⟨g, g1, rfl⟩), g2, hr, ?_⟩
      have : mCnd c x y = false := by
        cases hm : mCnd c x y with
        | true => exact absurd ((rCmp_c c x y).mp hm) hc
        | false => rfl
      rw [this]
      unfold mBr
      rw [ht]
      rfl
  · cases h
end RQ
end
section
/-! THE MACHINE WITH RANGES IS SOUND: questions -/
section RZ
variable {ρ : List Int} {fs : rF}
set_option maxHeartbeats 1000000 in
theorem rZ_ok (hO : rOk ρ fs) {i : Instr} {pc : Nat} {st stc : List Value} {l : List (rF × Nat × List Value)} (hs : rEs ρ st = some stc) (h : rZ fs i pc st = some l) : ∃ k ∈ l, rOk ρ k.1 ∧ ∃ stc', rEs ρ k.2.2 = some stc' ∧ ((k.2.1 = pc ∧ stc' = stc) ∨ mJ i pc stc = some (k.2.1, stc') ∨ (i = .lcmp ∧ mA i stc = some stc' ∧ k.2.1 = pc + 1)) := by
  unfold rZ at h
  split at h
  · rename_i c off v r
    split at h
    · rename_i x hx
      obtain ⟨d, rd, hd, hr, rfl⟩ := rEs_cons hs
      obtain ⟨x', rfl, x1, x2⟩ := rRg_ok hO hx hd
      obtain ⟨k, k1, k2, k3, k4⟩ := rWay_ok hO (w := .int 0) (y := 0) (rVal_i hO hx hd) (show rVal ρ (.int 0) _ from trivial) x1 x2 (Int.le_refl _) (Int.le_refl _) hr h
      exact ⟨k, k1, k2, rd, k3, Or.inr (Or.inl k4)⟩
    · cases h
  · rename_i c off w v r
    split at h
    · rename_i x y hx hy
      obtain ⟨d, rd, hd, hr, rfl⟩ := rEs_cons hs
      obtain ⟨e, re, he, hr2, rfl⟩ := rEs_cons hr
      obtain ⟨y', rfl, y1, y2⟩ := rRg_ok hO hy hd
      obtain ⟨x', rfl, x1, x2⟩ := rRg_ok hO hx he
      obtain ⟨k, k1, k2, k3, k4⟩ := rWay_ok hO (rVal_i hO hx he) (rVal_i hO hy hd) x1 x2 y1 y2 hr2 h
      exact ⟨k, k1, k2, re, k3, Or.inr (Or.inl k4)⟩
    · cases h
  · rename_i cnd off w v r
    split at h
    · rename_i j y q hq
      split at h
      · rename_i g hg
        split at h
        · rename_i hb
          cases h
          obtain ⟨d, rd, hd, hr, rfl⟩ := rEs_cons hs
          obtain ⟨e, re, he, hr2, rfl⟩ := rEs_cons hr
          cases hd
          obtain ⟨z, z1, z2, z3⟩ := hO.2.1 _ _ hg
          rw [rE_r, z1] at he
          cases he
          have hx : 2 ≤ z.toNat ∧ z.toNat < 52 := by omega
          have go : ∀ t : Bool, ∃ k ∈ [(fs, q, r), (fs, pc + 3, r)], rOk ρ k.1 ∧ rEs ρ k.2.2 = some re ∧ mBr t pc off re = some (k.2.1, re) := fun t => by
            unfold mBr
            rw [hq]
            cases t with
            | true => exact ⟨_, List.mem_cons_self, hO, hr2, rfl⟩
            | false => exact ⟨_, List.mem_cons_of_mem _ List.mem_cons_self, hO, hr2, rfl⟩
          cases cnd with
          | eq =>
            obtain ⟨k, k1, k2, k3, k4⟩ := go (decide (z.toNat = y))
            refine ⟨k, k1, k2, re, k3, Or.inr (Or.inl ?_)⟩
            show (if _ then mBr (decide (z.toNat = y)) pc off re else none) = _
            rw [if_pos ⟨hx, hb.2⟩]
            exact k4
          | ne =>
            obtain ⟨k, k1, k2, k3, k4⟩ := go (decide (¬ z.toNat = y))
            refine ⟨k, k1, k2, re, k3, Or.inr (Or.inl ?_)⟩
            show (if _ then mBr (decide (¬ z.toNat = y)) pc off re else none) = _
            rw [if_pos ⟨hx, hb.2⟩]
            exact k4
        · cases h
      · cases h
    · cases h
  · rename_i w v r
    split at h
    · rename_i x y hx hy
      cases h
      obtain ⟨d, rd, hd, hr, rfl⟩ := rEs_cons hs
      obtain ⟨e, re, he, hr2, rfl⟩ := rEs_cons hr
      obtain ⟨y', rfl, y1, y2⟩ := rRl_ok hO hy hd
      obtain ⟨x', rfl, x1, x2⟩ := rRl_ok hO hx he
      have vx := rVal_l hO hx he
      have vy := rVal_l hO hy hd
      have key : ∀ n : Int32, lg_cmp x' y' = n → mA .lcmp (.long y' :: .long x' :: re) = some (.int n :: re) := fun n hn => by rw [← hn]; rfl
      by_cases h1 : x'.toInt < y'.toInt
      · obtain ⟨g, g1, g2⟩ := rRef_ok (c := .lt) hO vx vy x1 x2 y1 y2 (rAnyL x') (rAnyL y') h1
        refine ⟨(g, pc + 1, .int (-1) :: r), List.mem_append_left _ (List.mem_map.mpr ⟨g, g1, rfl⟩), g2, _, rEs_mk rfl hr2, Or.inr (Or.inr ⟨rfl, key _ ?_, rfl⟩)⟩
        unfold lg_cmp
        rw [if_neg (fun k => by have := Int64.lt_iff_toInt_lt.mp k; omega), if_neg (fun k => by subst k; omega)]
      · by_cases h2 : x'.toInt = y'.toInt
        · obtain ⟨g, g1, g2⟩ := rRef_ok (c := .eq) hO vx vy x1 x2 y1 y2 (rAnyL x') (rAnyL y') h2
          refine ⟨(g, pc + 1, .int 0 :: r), List.mem_append_right _ (List.mem_append_left _ (List.mem_map.mpr ⟨g, g1, rfl⟩)), g2, _, rEs_mk rfl hr2, Or.inr (Or.inr ⟨rfl, key _ ?_, rfl⟩)⟩
          have e : x' = y' := Int64.toInt_inj.mp h2
          subst e
          unfold lg_cmp
          rw [if_neg (fun k => by have := Int64.lt_iff_toInt_lt.mp k; omega), if_pos rfl]
        · obtain ⟨g, g1, g2⟩ := rRef_ok (c := .gt) hO vx vy x1 x2 y1 y2 (rAnyL x') (rAnyL y') (show y'.toInt < x'.toInt by omega)
          refine ⟨(g, pc + 1, .int 1 :: r), List.mem_append_right _ (List.mem_append_right _ (List.mem_map.mpr ⟨g, g1, rfl⟩)), g2, _, rEs_mk rfl hr2, Or.inr (Or.inr ⟨rfl, key _ ?_, rfl⟩)⟩
          unfold lg_cmp
          exact if_pos (Int64.lt_iff_toInt_lt.mpr (by omega))
    · cases h
  · rename_i d lo hi offs v r
    split at h
    · rename_i x hx
      split at h
      · rename_i hw
        cases h
        obtain ⟨e, re, he, hr, rfl⟩ := rEs_cons hs
        obtain ⟨x', rfl, x1, x2⟩ := rRg_ok hO hx he
        have vx := rVal_i hO hx he
        have b := rI_b x'
        have go : ∀ g, rOk ρ g → ∀ L : List rF, g ∈ L → ∃ k ∈ L.map (fun g => (g, pc, v :: r)), rOk ρ k.1 ∧ ∃ stc', rEs ρ k.2.2 = some stc' ∧ ((k.2.1 = pc ∧ stc' = .int x' :: re) ∨ mJ (.tableswitch d lo hi offs) pc (.int x' :: re) = some (k.2.1, stc') ∨ (Instr.tableswitch d lo hi offs = .lcmp ∧ mA (.tableswitch d lo hi offs) (.int x' :: re) = some stc' ∧ k.2.1 = pc + 1)) := fun g hg L hL => ⟨_, List.mem_map.mpr ⟨g, hL, rfl⟩, hg, _, hs, Or.inl ⟨rfl, rfl⟩⟩
        by_cases h1 : x'.toInt ≤ lo - 1
        · obtain ⟨g, g1, g2⟩ := rTwo_ok (w := .int 0) (y := 0) hO vx trivial (a := rL0) (b := lo - 1) (c := rL0) (d := rL1) b.1 h1 (by unfold rL0; omega) (by unfold rL1; omega)
          exact go g g2 _ (List.mem_append_left _ g1)
        · by_cases h2 : hi + 1 ≤ x'.toInt
          · obtain ⟨g, g1, g2⟩ := rTwo_ok (w := .int 0) (y := 0) hO vx trivial (a := hi + 1) (b := rL1) (c := rL0) (d := rL1) h2 b.2 (by unfold rL0; omega) (by unfold rL1; omega)
            exact go g g2 _ (List.mem_append_right _ (List.mem_append_left _ g1))
          · have e1 : lo + ((x'.toInt - lo).toNat : Int) = x'.toInt := by omega
            obtain ⟨g, g1, g2⟩ := rTwo_ok (w := .int 0) (y := 0) hO vx trivial (a := lo + ((x'.toInt - lo).toNat : Int)) (b := lo + ((x'.toInt - lo).toNat : Int)) (c := rL0) (d := rL1) (by omega) (by omega) (by unfold rL0; omega) (by unfold rL1; omega)
            refine go g g2 _ (List.mem_append_right _ (List.mem_append_right _ (List.mem_flatMap.mpr ⟨(x'.toInt - lo).toNat, List.mem_range.mpr (by omega), ?_⟩)))
            rw [if_pos (by omega)]
            exact g1
      · cases h
    · cases h
  · rename_i d ps v r
    split at h
    · rename_i x q tl hx hq
      cases h
      obtain ⟨e, re, he, hr, rfl⟩ := rEs_cons hs
      obtain ⟨x', rfl, x1, x2⟩ := rRg_ok hO hx he
      have vx := rVal_i hO hx he
      have b := rI_b x'
      have go : ∀ g, rOk ρ g → ∀ L : List rF, g ∈ L → ∃ k ∈ L.map (fun g => (g, pc, v :: r)), rOk ρ k.1 ∧ ∃ stc', rEs ρ k.2.2 = some stc' ∧ ((k.2.1 = pc ∧ stc' = .int x' :: re) ∨ mJ (.lookupswitch d ps) pc (.int x' :: re) = some (k.2.1, stc') ∨ (Instr.lookupswitch d ps = .lcmp ∧ mA (.lookupswitch d ps) (.int x' :: re) = some stc' ∧ k.2.1 = pc + 1)) := fun g hg L hL => ⟨_, List.mem_map.mpr ⟨g, hL, rfl⟩, hg, _, hs, Or.inl ⟨rfl, rfl⟩⟩
      by_cases h1 : x'.toInt ≤ q.1 - 1
      · obtain ⟨g, g1, g2⟩ := rTwo_ok (w := .int 0) (y := 0) hO vx trivial (a := rL0) (b := q.1 - 1) (c := rL0) (d := rL1) b.1 h1 (by unfold rL0; omega) (by unfold rL1; omega)
        exact go g g2 _ (List.mem_append_left _ g1)
      · by_cases h2 : x'.toInt = q.1
        · obtain ⟨g, g1, g2⟩ := rTwo_ok (w := .int 0) (y := 0) hO vx trivial (a := q.1) (b := q.1) (c := rL0) (d := rL1) (by omega) (by omega) (by unfold rL0; omega) (by unfold rL1; omega)
          exact go g g2 _ (List.mem_append_right _ (List.mem_append_left _ g1))
        · obtain ⟨g, g1, g2⟩ := rTwo_ok (w := .int 0) (y := 0) hO vx trivial (a := q.1 + 1) (b := rL1) (c := rL0) (d := rL1) (by omega) b.2 (by unfold rL0; omega) (by unfold rL1; omega)
          exact go g g2 _ (List.mem_append_right _ (List.mem_append_right _ g1))
    · cases h
  · cases h
end RZ
end
section
/-! THE MACHINE WITH RANGES IS SOUND: the heap -/
/-- is the byte number k a character of a text; how many are, one behind the other -/
def rGk (E : Int64) (k : Nat) : Bool := decide (((E >>> Int64.ofNat (8 * k)) &&& 255).toInt = 10) || (decide (32 ≤ ((E >>> Int64.ofNat (8 * k)) &&& 255).toInt) && decide (((E >>> Int64.ofNat (8 * k)) &&& 255).toInt ≤ 126))
def rGb (E : Int64) : Nat := ((List.range 8).takeWhile (rGk E)).length
/-- what stands at places of an array -/
def rMe (f : Nat → Int32) : List Value → Prop
  | [] => True
  | .int i :: .int v :: r => (0 ≤ i.toInt ∧ i.toInt < 240 ∧ f i.toInt.toNat = v) ∧ rMe f r
  | _ => False
/-- objects; and arrays of which more is told: 1000, 1001, 1003 as above; 1002: the script, with the five numbers of a call and its eight characters -/
def rOb (ci : Nat) (gs : List Value) (c : mC) : Prop :=
  if ci < 1000 then c = some (.inr (ci, gs))
  else if ci = 1000 then ∃ f : Nat → Int32, c = some (.inl (0, 240, .inl f)) ∧ rMe f gs
  else if ci = 1001 then ∃ (f : Nat → Int32) (b v : Int32), gs = [.int b, .int v] ∧ c = some (.inl (0, 60, .inl f)) ∧ 0 ≤ b.toInt ∧ b.toInt ≤ 60 ∧ (∀ j : Nat, (j : Int) < b.toInt → 0 ≤ (f j).toInt ∧ (f j).toInt ≤ 199) ∧ (b.toInt < 60 → f b.toInt.toNat = v)
  else if ci = 1003 then ∃ f : Nat → Int32, c = some (.inl (7, gs.length, .inl f)) ∧ ∀ (j : Nat) (v : Value), gs[j]? = some v → v = .int (f j)
  else ∃ (L : Nat) (f : Nat → Int32) (b x0 x1 x2 x3 x4 : Int32), c = some (.inl (4, L, .inl f)) ∧ L ≤ 10000 ∧ 0 ≤ b.toInt ∧ b.toInt + 5 ≤ L ∧ f b.toInt.toNat = x0 ∧ f (b.toInt.toNat + 1) = x1 ∧ f (b.toInt.toNat + 2) = x2 ∧ f (b.toInt.toNat + 3) = x3 ∧ f (b.toInt.toNat + 4) = x4 ∧ gs = [.int (Int32.ofNat L), .int b, .int x0, .int x1, .int x2, .int x3, .int x4, .long ((x1.toInt64 <<< 32) ||| (x2.toInt64 &&& 4294967295)), .int (Int32.ofNat (rGb ((x1.toInt64 <<< 32) ||| (x2.toInt64 &&& 4294967295))))]
def rCr (ρ : List Int) (a : rC) (c : mC) : Prop := match a with
  | none => True
  | some (.inr (ci, fs)) => ∃ gs, rEs ρ fs = some gs ∧ rOb ci gs c
  | some (.inl (k, n, l, u)) => if k = 1 then ∃ f : Nat → Int64, c = some (.inl (1, n, .inr (.inl f))) ∧ ∀ j, j < n → l ≤ (f j).toInt ∧ (f j).toInt ≤ u
    else if k = 6 then ∃ f : Nat → Option Nat, c = some (.inl (6, n, .inr (.inr (.inr (.inr f))))) ∧ ∀ j, j < n → f j = some (l.toNat + j)
    else ∃ f : Nat → Int32, c = some (.inl (k, n, .inl f)) ∧ ∀ j, j < n → l ≤ (f j).toInt ∧ (f j).toInt ≤ u
def rHr (ρ : List Int) (h : rH) (hc : mH) : Prop := (∃ x : Int32, rE ρ h.2 = some (.int x) ∧ 0 ≤ x.toInt ∧ (hc.length : Int) = h.1.length + x.toInt) ∧ ∀ (i : Nat) (a : rC), h.1[i]? = some a → ∃ c, hc[i]? = some c ∧ rCr ρ a c
section RH
variable {ρ : List Int} {fs : rF}
theorem rCr_ext {a : rC} {c : mC} (e : List Int) (h : rCr ρ a c) : rCr (ρ ++ e) a c := by
  match a, h with
  | none, _ => trivial
  | some (.inr (ci, fs)), ⟨gs, h1, h2⟩ => exact ⟨gs, rEs_ext e h1, h2⟩
  | some (.inl (k, n, l, u)), h => exact h
theorem rHr_ext {h : rH} {hc : mH} (e : List Int) (hh : rHr ρ h hc) : rHr (ρ ++ e) h hc := by
  obtain ⟨⟨x, h1, h2⟩, h3⟩ := hh
  refine ⟨⟨x, rE_ext e h1, h2⟩, fun i a ha => ?_⟩
  obtain ⟨c, c1, c2⟩ := h3 i a ha
  exact ⟨c, c1, rCr_ext e c2⟩
theorem rEs_get : ∀ {l g : List Value} {k : Nat} {v : Value}, rEs ρ l = some g → l[k]? = some v → ∃ c, g[k]? = some c ∧ rE ρ v = some c
  | [], _, _, _, _, h => by cases h
  | w :: r, g, 0, v, hl, h => by
    obtain ⟨c, l', h1, h2, rfl⟩ := rEs_cons hl
    cases h
    exact ⟨c, rfl, h1⟩
  | w :: r, g, k + 1, v, hl, h => by
    obtain ⟨c, l', h1, h2, rfl⟩ := rEs_cons hl
    rw [List.getElem?_cons_succ] at h ⊢
    exact rEs_get h2 h
theorem rEs_set : ∀ {l g : List Value} {k : Nat} {v c : Value}, rEs ρ l = some g → rE ρ v = some c → rEs ρ (l.set k v) = some (g.set k c)
  | [], g, _, _, _, hl, _ => by cases hl; rfl
  | w :: r, g, 0, v, c, hl, hv => by
    obtain ⟨d, l', h1, h2, rfl⟩ := rEs_cons hl
    exact rEs_mk hv h2
  | w :: r, g, k + 1, v, c, hl, hv => by
    obtain ⟨d, l', h1, h2, rfl⟩ := rEs_cons hl
    exact rEs_mk h1 (rEs_set h2 hv)
theorem rCr.obj {ci : Nat} {gs : List Value} {c : mC} (hci : ci < 1000) (h : rCr ρ (some (.inr (ci, gs))) c) : ∃ g, rEs ρ gs = some g ∧ c = some (.inr (ci, g)) := by
  obtain ⟨g, h1, h2⟩ := h
  unfold rOb at h2
  rw [if_pos hci] at h2
  exact ⟨g, h1, h2⟩
theorem rCr.mobj {ci : Nat} {gs g : List Value} (hci : ci < 1000) (h : rEs ρ gs = some g) : rCr ρ (some (.inr (ci, gs))) (some (.inr (ci, g))) := ⟨g, h, by unfold rOb; rw [if_pos hci]⟩
theorem rCr.lng {n : Nat} {l u : Int} {c : mC} (h : rCr ρ (some (.inl (1, n, l, u))) c) : ∃ f : Nat → Int64, c = some (.inl (1, n, .inr (.inl f))) ∧ ∀ j, j < n → l ≤ (f j).toInt ∧ (f j).toInt ≤ u := h
theorem rCr.rfs {n : Nat} {l u : Int} {c : mC} (h : rCr ρ (some (.inl (6, n, l, u))) c) : ∃ f : Nat → Option Nat, c = some (.inl (6, n, .inr (.inr (.inr (.inr f))))) ∧ ∀ j, j < n → f j = some (l.toNat + j) := h
theorem rCr.int {k n : Nat} {l u : Int} {c : mC} (h1 : ¬ k = 1) (h6 : ¬ k = 6) (h : rCr ρ (some (.inl (k, n, l, u))) c) : ∃ f : Nat → Int32, c = some (.inl (k, n, .inl f)) ∧ ∀ j, j < n → l ≤ (f j).toInt ∧ (f j).toInt ≤ u := by
  unfold rCr at h
  dsimp only at h
  rw [if_neg h1, if_neg h6] at h
  exact h
theorem rCr.mint {k n : Nat} {l u : Int} {f : Nat → Int32} (h1 : ¬ k = 1) (h6 : ¬ k = 6) (h : ∀ j, j < n → l ≤ (f j).toInt ∧ (f j).toInt ≤ u) : rCr ρ (some (.inl (k, n, l, u))) (some (.inl (k, n, .inl f))) := by
  unfold rCr
  dsimp only
  rw [if_neg h1, if_neg h6]
  exact ⟨f, rfl, h⟩
theorem rHr.set {h : rH} {hc : mH} (hh : rHr ρ h hc) {a : rC} {c : mC} (i : Nat) (hr : rCr ρ a c) : rHr ρ (h.1.set i a, h.2) (hc.set i c) := by
  obtain ⟨⟨x, h1, h0, h2⟩, h3⟩ := hh
  refine ⟨⟨x, h1, h0, by rw [List.length_set, List.length_set]; exact h2⟩, fun j b hb => ?_⟩
  dsimp only at hb
  rw [List.getElem?_set] at hb ⊢
  split at hb
  · rename_i hij
    rw [if_pos hij]
    split at hb
    · rename_i hl
      cases hb
      exact ⟨c, if_pos (by omega), hr⟩
    · cases hb
  · rename_i hij
    rw [if_neg hij]
    exact h3 j b hb
theorem rIn_lt {i : Int32} {n : Nat} (h : mIn i n = true) : i.toNatClampNeg < n := by
  unfold mIn at h
  rw [Bool.and_eq_true, decide_eq_true_eq] at h
  exact h.2
theorem rIx_ok (hO : rOk ρ fs) {n : Nat} {x c : Value} (hc : rE ρ x = some c) (h : rIx fs n x = true) : ∃ i, c = .int i ∧ mIn i n = true := by
  unfold rIx at h
  split at h
  · rename_i q hq
    obtain ⟨i, rfl, h1, h2⟩ := rRg_ok hO hq hc
    refine ⟨i, rfl, ?_⟩
    rw [Bool.and_eq_true, decide_eq_true_eq, decide_eq_true_eq] at h
    unfold mIn
    rw [Bool.and_eq_true, decide_eq_true_eq, Bool.not_eq_true', decide_eq_false_iff_not, Int32.lt_iff_toInt_lt]
    have e : i.toNatClampNeg = i.toInt.toNat := rfl
    have z : (0 : Int32).toInt = 0 := rfl
    rw [e, z]
    omega
  · cases h
theorem rHull_ok {h : rH} {hc : mH} (hh : rHr ρ h hc) {ci k : Nat} : ∀ (n a : Nat) (q : Int × Int), rHull h.1 ci k n a = some q → ∀ z, a ≤ z → z < a + n → ∃ gs x, hc[z]? = some (some (.inr (ci, gs))) ∧ gs[k]? = some (.int x) ∧ q.1 ≤ x.toInt ∧ x.toInt ≤ q.2
  | 0, a, q, hq, z, h1, h2 => by cases hq
  | n + 1, a, q, hq, z, h1, h2 => by
    unfold rHull at hq
    split at hq
    · rename_i c gs hcell
      split at hq
      · rename_i hci
        split at hq
        · rename_i x hx
          have here : z = a → q.1 ≤ x.toInt → x.toInt ≤ q.2 → ∃ gs x, hc[z]? = some (some (.inr (ci, gs))) ∧ gs[k]? = some (.int x) ∧ q.1 ≤ x.toInt ∧ x.toInt ≤ q.2 := fun hz g1 g2 => by
            obtain ⟨cc, c1, c2⟩ := hh.2 _ _ hcell
            obtain ⟨g, e1, e2⟩ := c2.obj hci.2
            obtain ⟨d, d1, d2⟩ := rEs_get e1 hx
            cases d2
            rw [e2, hci.1] at c1
            exact ⟨g, x, by rw [hz]; exact c1, d1, g1, g2⟩
          split at hq
          · rename_i hn
            cases hq
            exact here (by omega) (Int.le_refl _) (Int.le_refl _)
          · split at hq
            · rename_i p hp
              cases hq
              by_cases hz : z = a
              · refine here hz ?_ ?_
                · show rMin x.toInt p.1 ≤ _
                  unfold rMin
                  split <;> omega
                · show _ ≤ rMax x.toInt p.2
                  unfold rMax
                  split <;> omega
              · obtain ⟨gs, y, y1, y2, y3, y4⟩ := rHull_ok hh n (a + 1) p hp z (by omega) (by omega)
                refine ⟨gs, y, y1, y2, ?_, ?_⟩
                · show rMin x.toInt p.1 ≤ _
                  unfold rMin
                  split <;> omega
                · show _ ≤ rMax x.toInt p.2
                  unfold rMax
                  split <;> omega
            · cases hq
        · cases hq
      · cases hq
    · cases hq
end RH
end
section
/-! THE MACHINE WITH RANGES IS SOUND: reads -/
section RG
variable {ρ : List Int} {fs : rF}
theorem rEx_ok {v : Value} (h : rExa v = true) : rE ρ v = some v := by
  cases v <;> first | rfl | cases h
set_option maxHeartbeats 2000000 in
theorem rG_ok (hO : rOk ρ fs) (hn : fs.length < 60000) {h : rH} {hc : mH} (hh : rHr ρ h hc) {i : Instr} {o1 o2 : Nat} {v : Value} {st stc st' : List Value} {fs' : rF} (hs : rEs ρ st = some stc) (hg : rG fs i o1 o2 v st h = some (fs', st')) : ∃ stc', mG i o1 o2 v stc hc = some stc' ∧ ∃ e, rOk (ρ ++ e) fs' ∧ rEs (ρ ++ e) st' = some stc' := by
  have exa : ∀ {st'' : List Value} {f'' : rF}, (if rExa v = true then some (fs, v :: st) else none) = some (f'', st'') → ∃ e, rOk (ρ ++ e) f'' ∧ rEs (ρ ++ e) st'' = some (v :: stc) := fun {st'' f''} h => by
    split at h
    · rename_i hv
      cases h
      exact rSame hO (rEs_mk (rEx_ok hv) hs)
    · cases h
  unfold rG at hg
  split at hg
  · split at hg
    · rename_i a r
      split at hg
      · rename_i ci gs hcell
        split at hg
        · rename_i hci
          cases hx : gs[o2]? with
          | none => rw [hx] at hg; cases hg
          | some x =>
            rw [hx] at hg
            cases hg
            obtain ⟨d, rd, hd, hr, rfl⟩ := rEs_cons hs
            cases hd
            obtain ⟨cc, c1, c2⟩ := hh.2 _ _ hcell
            obtain ⟨g, e1, e2⟩ := c2.obj hci.2
            obtain ⟨y, y1, y2⟩ := rEs_get e1 hx
            rw [e2] at c1
            refine ⟨y :: rd, ?_, rSame hO (rEs_mk ?_ hr)⟩
            · show (match hc[a]? with
                | some (some (.inr (ci, fs))) => if ci = o1 then (fs[o2]?).map (fun x => x :: rd) else none
                | _ => none) = _
              rw [c1]
              show (if ci = o1 then (g[o2]?).map (fun x => x :: rd) else none) = _
              rw [if_pos hci.1, y1]
              rfl
            · cases hk : rKi fs (some x) with
              | none => exact y2
              | some w =>
                obtain ⟨w', hw, hk2⟩ := rKi_ok hO hk
                cases hw
                exact (hk2 y y2).1
        · cases hg
      · cases hg
    · rename_i j r
      split at hg
      · rename_i q hq
        split at hg
        · rename_i hb
          split at hg
          · rename_i z hz
            cases hg
            obtain ⟨d, rd, hd, hr, rfl⟩ := rEs_cons hs
            obtain ⟨t, t1, t2, t3⟩ := hO.2.1 _ _ hq
            rw [rE_r, t1] at hd
            cases hd
            obtain ⟨gs, x, g1, g2, g3, g4⟩ := rHull_ok hh _ _ _ hz t.toNat (by omega) (by omega)
            refine ⟨.int x :: rd, ?_, rPut hO hn hr (fun _ _ => ⟨g3, g4⟩)⟩
            show (match hc[t.toNat]? with
              | some (some (.inr (ci, fs))) => if ci = o1 then (fs[o2]?).map (fun x => x :: rd) else none
              | _ => none) = _
            rw [g1]
            show (if o1 = o1 then (gs[o2]?).map (fun x => x :: rd) else none) = _
            rw [if_pos rfl, g2]
            rfl
          · cases hg
        · cases hg
      · cases hg
    · cases hg
  · exact ⟨_, rfl, exa hg⟩
  · exact ⟨_, rfl, exa hg⟩
  · exact ⟨_, rfl, exa hg⟩
  · exact ⟨_, rfl, exa hg⟩
  · split at hg
    · rename_i x a r
      split at hg
      · rename_i n l u hcell
        split at hg
        · rename_i hx
          cases hg
          obtain ⟨d, rd, hd, hr, rfl⟩ := rEs_cons hs
          obtain ⟨e, re, he, hr2, rfl⟩ := rEs_cons hr
          cases he
          obtain ⟨k, rfl, k2⟩ := rIx_ok hO hd hx
          obtain ⟨cc, c1, c2⟩ := hh.2 _ _ hcell
          obtain ⟨f, f1, f2⟩ := c2.lng
          rw [f1] at c1
          obtain ⟨f3, f4⟩ := f2 _ (rIn_lt k2)
          refine ⟨.long (f k.toNatClampNeg) :: re, ?_, rPutl hO hn hr2 f3 f4⟩
          show (match hc[a]? with
            | some (some (.inl (1, n, .inr (.inl f)))) => if mIn k n = true then some (Value.long (f k.toNatClampNeg) :: re) else none
            | _ => none) = _
          rw [c1]
          exact if_pos k2
        · cases hg
      · cases hg
    · cases hg
  · split at hg
    · rename_i k a r
      split at hg
      · rename_i n l u hcell
        split at hg
        · rename_i hx
          cases hg
          obtain ⟨d, rd, hd, hr, rfl⟩ := rEs_cons hs
          obtain ⟨e, re, he, hr2, rfl⟩ := rEs_cons hr
          cases hd
          cases he
          obtain ⟨cc, c1, c2⟩ := hh.2 _ _ hcell
          obtain ⟨f, f1, f2⟩ := c2.rfs
          rw [f1] at c1
          refine ⟨.ref (l.toNat + k.toNatClampNeg) :: re, ?_, rSame hO (rEs_mk rfl hr2)⟩
          show (match hc[a]? with
            | some (some (.inl (6, n, .inr (.inr (.inr (.inr f)))))) => if mIn k n = true then (f k.toNatClampNeg).map (fun q => Value.ref q :: re) else none
            | _ => none) = _
          rw [c1]
          show (if mIn k n = true then (f k.toNatClampNeg).map (fun q => Value.ref q :: re) else none) = _
          rw [if_pos hx, f2 _ (rIn_lt hx)]
          rfl
        · cases hg
      · cases hg
    · cases hg
  · split at hg
    · rename_i a r
      split at hg
      · rename_i k n l u hcell
        split at hg
        · rename_i hk
          cases hg
          obtain ⟨d, rd, hd, hr, rfl⟩ := rEs_cons hs
          cases hd
          obtain ⟨cc, c1, c2⟩ := hh.2 _ _ hcell
          refine ⟨.int (Int32.ofNat n) :: rd, ?_, rSame hO (rEs_mk rfl hr)⟩
          show mG .arraylength o1 o2 v (.ref a :: rd) hc = _
          unfold mG
          dsimp only
          by_cases h1 : k = 1
          · subst h1
            obtain ⟨f, f1, -⟩ := c2.lng
            rw [c1, f1]
            rfl
          · by_cases h6 : k = 6
            · subst h6
              obtain ⟨f, f1, -⟩ := c2.rfs
              rw [c1, f1]
              rfl
            · obtain ⟨f, f1, -⟩ := c2.int h1 h6
              rw [c1, f1]
              have : k = 0 ∨ k = 2 ∨ k = 3 ∨ k = 4 ∨ k = 7 := by omega
              rcases this with rfl | rfl | rfl | rfl | rfl <;> rfl
        · cases hg
      · cases hg
    · cases hg
  · rename_i i _ _ _ _ _ _ _ _
    split at hg
    · rename_i x a r
      split at hg
      · rename_i k n l u hcell
        split at hg
        · rename_i hk
          cases hg
          obtain ⟨d, rd, hd, hr, rfl⟩ := rEs_cons hs
          obtain ⟨e, re, he, hr2, rfl⟩ := rEs_cons hr
          cases he
          obtain ⟨kx, rfl, k2⟩ := rIx_ok hO hd hk.2
          obtain ⟨cc, c1, c2⟩ := hh.2 _ _ hcell
          have hk1 : ¬ k = 1 := by rcases hk.1 with ⟨-, h | h⟩ | ⟨-, h⟩ | ⟨-, h | h⟩ <;> omega
          have hk6 : ¬ k = 6 := by rcases hk.1 with ⟨-, h | h⟩ | ⟨-, h⟩ | ⟨-, h | h⟩ <;> omega
          obtain ⟨f, f1, f2⟩ := c2.int hk1 hk6
          rw [f1] at c1
          obtain ⟨f3, f4⟩ := f2 _ (rIn_lt k2)
          refine ⟨.int (f kx.toNatClampNeg) :: re, ?_, rPut hO hn hr2 (fun _ _ => ⟨f3, f4⟩)⟩
          rcases hk.1 with ⟨rfl, rfl | rfl⟩ | ⟨rfl, rfl⟩ | ⟨rfl, rfl | rfl⟩
          all_goals
            unfold mG
            dsimp only
            rw [c1]
            exact if_pos k2
        · cases hg
      · cases hg
    · cases hg
end RG
end
section
/-! THE MACHINE WITH RANGES IS SOUND: writes -/
section RP
variable {ρ : List Int} {fs : rF}
theorem rNc (x : Int32) : vp_nar .char x = (x.toUInt32 % 65536).toInt32 := by
  unfold vp_nar
  rfl
theorem rNb {x : Int32} (h : 0 ≤ x.toInt ∧ x.toInt ≤ 1) : vp_nar .boolean x = x := by
  have : x = 0 ∨ x = 1 := by
    by_cases h0 : x.toInt = 0
    · exact Or.inl (Int32.toInt_inj.mp h0)
    · exact Or.inr (Int32.toInt_inj.mp (show x.toInt = 1 by omega))
  rcases this with rfl | rfl <;> rfl
theorem rFit_ok (hO : rOk ρ fs) {k : Nat} {v c : Value} (hc : rE ρ v = some c) (h : rFit fs k v = true) : mFit k c = true := by
  unfold rFit at h
  split at h
  · cases hc; rfl
  · obtain ⟨y, rfl⟩ := rE_fi hc; rfl
  · split at h
    · rename_i q hq
      obtain ⟨x, rfl, x1, x2⟩ := rRg_ok hO hq hc
      rw [Bool.and_eq_true, decide_eq_true_eq, decide_eq_true_eq] at h
      have : x = 0 ∨ x = 1 := by
        by_cases h0 : x.toInt = 0
        · exact Or.inl (Int32.toInt_inj.mp h0)
        · exact Or.inr (Int32.toInt_inj.mp (show x.toInt = 1 by omega))
      rcases this with rfl | rfl <;> rfl
    · cases h
  · cases hc; rfl
  · obtain ⟨y, rfl⟩ := rE_dl hc; rfl
  · cases hc; rfl
  · obtain ⟨y, rfl⟩ := rE_rr hc; rfl
  · cases h
theorem rUpd {n i : Nat} {f : Nat → Int32} {x : Int32} {l u a b : Int} (hf : ∀ j, j < n → l ≤ (f j).toInt ∧ (f j).toInt ≤ u) (h1 : a ≤ x.toInt) (h2 : x.toInt ≤ b) : ∀ j, j < n → rMin l a ≤ (upd f i x j).toInt ∧ (upd f i x j).toInt ≤ rMax u b := by
  intro j hj
  have := hf j hj
  unfold upd rMin rMax
  split
  · split <;> split <;> omega
  · split <;> split <;> omega
theorem rUpdl {n i : Nat} {f : Nat → Int64} {x : Int64} {l u a b : Int} (hf : ∀ j, j < n → l ≤ (f j).toInt ∧ (f j).toInt ≤ u) (h1 : a ≤ x.toInt) (h2 : x.toInt ≤ b) : ∀ j, j < n → rMin l a ≤ (vp_updL f i x j).toInt ∧ (vp_updL f i x j).toInt ≤ rMax u b := by
  intro j hj
  have := hf j hj
  unfold vp_updL rMin rMax
  split
  · split <;> split <;> omega
  · split <;> split <;> omega
set_option maxHeartbeats 2000000 in
theorem rP_ok (hO : rOk ρ fs) {h h' : rH} {hc : mH} (hh : rHr ρ h hc) {k0 : Nat} {i : Instr} {o1 o2 o3 : Nat} {st st' stc : List Value} (hs : rEs ρ st = some stc) (hg : rP fs k0 i o1 o2 o3 st h = some (st', h')) : ∃ stc' hc', mP k0 i o1 o2 o3 stc hc = some (stc', hc') ∧ rEs ρ st' = some stc' ∧ rHr ρ h' hc' := by
  unfold rP at hg
  split at hg
  · split at hg
    · rename_i v a r
      split at hg
      · rename_i ci gs hcell
        split at hg
        · rename_i hq
          cases hg
          obtain ⟨d, rd, hd, hr, rfl⟩ := rEs_cons hs
          obtain ⟨e, re, he, hr2, rfl⟩ := rEs_cons hr
          cases he
          obtain ⟨cc, c1, c2⟩ := hh.2 _ _ hcell
          obtain ⟨g, e1, e2⟩ := c2.obj hq.1.2
          rw [e2] at c1
          refine ⟨re, hc.set a (some (.inr (ci, g.set o2 d))), ?_, hr2, hh.set a (rCr.mobj hq.1.2 (rEs_set e1 hd))⟩
          show (match hc[a]? with
            | some (some (.inr (ci, fs))) => if ci = o1 ∧ k0 ≤ a ∧ o2 < fs.length ∧ mFit o3 d = true then some (re, hc.set a (some (.inr (ci, fs.set o2 d)))) else none
            | _ => none) = _
          rw [c1]
          exact if_pos ⟨hq.1.1, hq.2.1, by rw [rEs_len e1]; exact hq.2.2.1, rFit_ok hO hd hq.2.2.2⟩
        · cases hg
      · cases hg
    · cases hg
  · split at hg
    · rename_i v x a r
      split at hg
      · rename_i n l u q hcell hv
        split at hg
        · rename_i hq
          cases hg
          obtain ⟨d, rd, hd, hr, rfl⟩ := rEs_cons hs
          obtain ⟨e, re, he, hr2, rfl⟩ := rEs_cons hr
          obtain ⟨b, rb, hb, hr3, rfl⟩ := rEs_cons hr2
          cases hb
          obtain ⟨y, rfl, y1, y2⟩ := rRl_ok hO hv hd
          obtain ⟨k, rfl, k2⟩ := rIx_ok hO he hq.1
          obtain ⟨cc, c1, c2⟩ := hh.2 _ _ hcell
          obtain ⟨f, f1, f2⟩ := c2.lng
          rw [f1] at c1
          refine ⟨rb, hc.set a (some (.inl (1, n, .inr (.inl (vp_updL f k.toNatClampNeg y))))), ?_, hr3, hh.set a ⟨_, rfl, rUpdl f2 y1 y2⟩⟩
          show (match hc[a]? with
            | some (some (.inl (1, n, .inr (.inl f)))) => if mIn k n = true ∧ k0 ≤ a then some (rb, hc.set a (some (.inl (1, n, .inr (.inl (vp_updL f k.toNatClampNeg y)))))) else none
            | _ => none) = _
          rw [c1]
          exact if_pos ⟨k2, hq.2⟩
        · cases hg
      · cases hg
    · cases hg
  · rename_i i _ _
    split at hg
    · rename_i v x a r
      split at hg
      · rename_i k n l u q hcell hv
        split at hg
        · rename_i hq
          obtain ⟨d, rd, hd, hr, rfl⟩ := rEs_cons hs
          obtain ⟨e, re, he, hr2, rfl⟩ := rEs_cons hr
          obtain ⟨b, rb, hb, hr3, rfl⟩ := rEs_cons hr2
          cases hb
          obtain ⟨y, rfl, y1, y2⟩ := rRg_ok hO hv hd
          obtain ⟨kx, rfl, k2⟩ := rIx_ok hO he hq.1
          obtain ⟨cc, c1, c2⟩ := hh.2 _ _ hcell
          split at hg
          · rename_i hi
            obtain ⟨rfl, rfl⟩ := hi
            cases hg
            obtain ⟨f, f1, f2⟩ := c2.int (by decide) (by decide)
            rw [f1] at c1
            refine ⟨rb, hc.set a (some (.inl (0, n, .inl (upd f kx.toNatClampNeg y)))), ?_, hr3, hh.set a (rCr.mint (by decide) (by decide) (rUpd f2 y1 y2))⟩
            show (match hc[a]? with
              | some (some (.inl (0, n, .inl f))) => if mIn kx n = true ∧ k0 ≤ a then some (rb, hc.set a (some (.inl (0, n, .inl (upd f kx.toNatClampNeg y))))) else none
              | _ => none) = _
            rw [c1]
            exact if_pos ⟨k2, hq.2⟩
          · split at hg
            · rename_i hi
              obtain ⟨rfl, rfl, z1, z2⟩ := hi
              cases hg
              obtain ⟨f, f1, f2⟩ := c2.int (by decide) (by decide)
              rw [f1] at c1
              have hy : vp_nar .char y = y := by rw [rNc, rCh_same ⟨by omega, by omega⟩]
              refine ⟨rb, hc.set a (some (.inl (2, n, .inl (upd f kx.toNatClampNeg (vp_nar .char y))))), ?_, hr3, hh.set a (rCr.mint (by decide) (by decide) (by rw [hy]; exact rUpd f2 y1 y2))⟩
              show (match hc[a]? with
                | some (some (.inl (2, n, .inl f))) => if mIn kx n = true ∧ k0 ≤ a then some (rb, hc.set a (some (.inl (2, n, .inl (upd f kx.toNatClampNeg (vp_nar .char y)))))) else none
                | _ => none) = _
              rw [c1]
              exact if_pos ⟨k2, hq.2⟩
            · split at hg
              · rename_i hi
                obtain ⟨rfl, rfl, z1, z2⟩ := hi
                cases hg
                obtain ⟨f, f1, f2⟩ := c2.int (by decide) (by decide)
                rw [f1] at c1
                have hy : vp_nar .boolean y = y := rNb ⟨by omega, by omega⟩
                refine ⟨rb, hc.set a (some (.inl (3, n, .inl (upd f kx.toNatClampNeg (vp_nar .boolean y))))), ?_, hr3, hh.set a (rCr.mint (by decide) (by decide) (by rw [hy]; exact rUpd f2 y1 y2))⟩
                show (match hc[a]? with
                  | some (some (.inl (3, n, .inl f))) => if mIn kx n = true ∧ k0 ≤ a then some (rb, hc.set a (some (.inl (3, n, .inl (upd f kx.toNatClampNeg (vp_nar .boolean y)))))) else none
                  | _ => none) = _
                rw [c1]
                exact if_pos ⟨k2, hq.2⟩
              · cases hg
        · cases hg
      · cases hg
    · cases hg
theorem rX_ok (hO : rOk ρ fs) (hn : fs.length < 60000) {o3 : Nat} {st st' stc : List Value} {fs' : rF} (hc : mH) (hs : rEs ρ st = some stc) (hg : rX fs o3 st = some (fs', st')) : ∃ stc', mX o3 stc hc = some (stc', hc) ∧ ∃ e, rOk (ρ ++ e) fs' ∧ rEs (ρ ++ e) st' = some stc' := by
  unfold rX at hg
  split at hg
  · split at hg
    · split at hg
      · rename_i a r hq
        cases hg
        obtain ⟨d, rd, hd, hr, rfl⟩ := rEs_cons hs
        cases hd
        refine ⟨rd, ?_, rSame hO hr⟩
        show (if (rd.map fun v => v.category).sum ≤ 8 then some (rd, hc) else none) = _
        rw [rEs_cats hr, if_pos hq]
      · cases hg
    · cases hg
  · split at hg
    · rename_i y x r
      split at hg
      · rename_i p q hp hq2
        split at hg
        · rename_i hq
          cases hg
          obtain ⟨d, rd, hd, hr, rfl⟩ := rEs_cons hs
          obtain ⟨e, re, he, hr2, rfl⟩ := rEs_cons hr
          obtain ⟨y', rfl, y1, y2⟩ := rRg_ok hO hq2 hd
          obtain ⟨x', rfl, x1, x2⟩ := rRg_ok hO hp he
          refine ⟨.int (if y' < x' then y' else x') :: re, ?_, rPut hO hn hr2 (fun _ _ => ?_)⟩
          · show (if (re.map fun v => v.category).sum ≤ 7 then some (Value.int (if y' < x' then y' else x') :: re, hc) else none) = _
            rw [rEs_cats hr2, if_pos hq]
          · by_cases hlt : y' < x'
            · rw [if_pos hlt]
              rw [Int32.lt_iff_toInt_lt] at hlt
              unfold rMin
              split <;> split <;> omega
            · rw [if_neg hlt]
              rw [Int32.lt_iff_toInt_lt] at hlt
              unfold rMin
              split <;> split <;> omega
        · cases hg
      · cases hg
    · cases hg
  · split at hg
    · rename_i y x r
      split at hg
      · rename_i p q hp hq2
        split at hg
        · rename_i hq
          cases hg
          obtain ⟨d, rd, hd, hr, rfl⟩ := rEs_cons hs
          obtain ⟨e, re, he, hr2, rfl⟩ := rEs_cons hr
          obtain ⟨y', rfl, y1, y2⟩ := rRg_ok hO hq2 hd
          obtain ⟨x', rfl, x1, x2⟩ := rRg_ok hO hp he
          refine ⟨.int (if x' < y' then y' else x') :: re, ?_, rPut hO hn hr2 (fun _ _ => ?_)⟩
          · show (if (re.map fun v => v.category).sum ≤ 7 then some (Value.int (if x' < y' then y' else x') :: re, hc) else none) = _
            rw [rEs_cats hr2, if_pos hq]
          · by_cases hlt : x' < y'
            · rw [if_pos hlt]
              rw [Int32.lt_iff_toInt_lt] at hlt
              unfold rMax
              split <;> split <;> omega
            · rw [if_neg hlt]
              rw [Int32.lt_iff_toInt_lt] at hlt
              unfold rMax
              split <;> split <;> omega
        · cases hg
      · cases hg
    · cases hg
  · cases hg
end RP
end
section
/-! THE MACHINE WITH RANGES IS SOUND: copies, one step -/
section RK
variable {ρ : List Int} {fs : rF}
theorem rNeg_i {x : Int32} (h : 0 ≤ x.toInt) : ¬ x < 0 ∧ (x.toNatClampNeg : Int) = x.toInt := by
  have e : x.toNatClampNeg = x.toInt.toNat := rfl
  have z : (0 : Int32).toInt = 0 := rfl
  refine ⟨fun k => ?_, by rw [e]; omega⟩
  rw [Int32.lt_iff_toInt_lt, z] at k
  omega
theorem rMn_l {a b x : Int} (h : a ≤ x ∨ b ≤ x) : rMin a b ≤ x := by
  unfold rMin
  split <;> omega
theorem rMx_l {a b x : Int} (h : x ≤ a ∨ x ≤ b) : x ≤ rMax a b := by
  unfold rMax
  split <;> omega
set_option maxHeartbeats 1000000 in
theorem rY_ok (hO : rOk ρ fs) {h h' : rH} {hc : mH} (hh : rHr ρ h hc) {k0 o3 : Nat} {st st' stc : List Value} (hs : rEs ρ st = some stc) (hg : rY fs k0 o3 st h = some (st', h')) : ∃ stc' hc', mY k0 o3 stc hc = some (stc', hc') ∧ rEs ρ st' = some stc' ∧ rHr ρ h' hc' := by
  unfold rY at hg
  split at hg
  · rename_i n dp a sp b
    split at hg
    · rename_i k1 n1 l1 u1 k2 n0 l2 u2 zn zd zs ha hb hn hd hp
      split at hg
      · rename_i hq
        cases hg
        obtain ⟨hk, q1, q2, q3, q4, q5, q6, q7, q8⟩ := hq
        obtain ⟨c1, r1, e1, g1, rfl⟩ := rEs_cons hs
        obtain ⟨c2, r2, e2, g2, rfl⟩ := rEs_cons g1
        obtain ⟨c3, r3, e3, g3, rfl⟩ := rEs_cons g2
        obtain ⟨c4, r4, e4, g4, rfl⟩ := rEs_cons g3
        obtain ⟨c5, r5, e5, g5, rfl⟩ := rEs_cons g4
        cases g5
        cases e3
        cases e5
        obtain ⟨xn, rfl, n1', n2'⟩ := rRg_ok hO hn e1
        obtain ⟨xd, rfl, d1, d2⟩ := rRg_ok hO hd e2
        obtain ⟨xp, rfl, p1, p2⟩ := rRg_ok hO hp e4
        obtain ⟨bn, cn⟩ := rNeg_i (x := xn) (by omega)
        obtain ⟨bd, cd⟩ := rNeg_i (x := xd) (by omega)
        obtain ⟨bp, cp⟩ := rNeg_i (x := xp) (by omega)
        obtain ⟨ca, a1, a2⟩ := hh.2 _ _ ha
        obtain ⟨cb, b1, b2⟩ := hh.2 _ _ hb
        have hr : mYr xp xd xn n0 n1 = true := decide_eq_true ⟨⟨bp, bd, bn⟩, by omega, by omega⟩
        rcases hk with ⟨rfl, rfl, rfl⟩ | ⟨rfl, rfl, rfl⟩
        · obtain ⟨g, ga, gb⟩ := a2.int (by decide) (by decide)
          obtain ⟨f, fa, fb⟩ := b2.int (by decide) (by decide)
          rw [ga] at a1
          rw [fa] at b1
          refine ⟨[], hc.set a (some (.inl (0, n1, .inl (va_cpy f g xp.toNatClampNeg xd.toNatClampNeg xn.toNatClampNeg)))), ?_, rfl, hh.set a (rCr.mint (by decide) (by decide) (fun j hj => ?_))⟩
          · unfold mY
            dsimp only
            rw [a1, b1]
            exact if_pos ⟨hr, q6, q7, q8⟩
          · unfold va_cpy
            split
            · rename_i hjj
              have := fb (xp.toNatClampNeg + (j - xd.toNatClampNeg)) (by omega)
              exact ⟨rMn_l (Or.inr this.1), rMx_l (Or.inr this.2)⟩
            · have := gb j hj
              exact ⟨rMn_l (Or.inl this.1), rMx_l (Or.inl this.2)⟩
        · obtain ⟨g, ga, gb⟩ := a2.lng
          obtain ⟨f, fa, fb⟩ := b2.lng
          rw [ga] at a1
          rw [fa] at b1
          refine ⟨[], hc.set a (some (.inl (1, n1, .inr (.inl (va_cpy f g xp.toNatClampNeg xd.toNatClampNeg xn.toNatClampNeg))))), ?_, rfl, hh.set a ⟨_, rfl, fun j hj => ?_⟩⟩
          · unfold mY
            dsimp only
            rw [a1, b1]
            exact if_pos ⟨hr, q6, q7, q8⟩
          · unfold va_cpy
            split
            · rename_i hjj
              have := fb (xp.toNatClampNeg + (j - xd.toNatClampNeg)) (by omega)
              exact ⟨rMn_l (Or.inr this.1), rMx_l (Or.inr this.2)⟩
            · have := gb j hj
              exact ⟨rMn_l (Or.inl this.1), rMx_l (Or.inl this.2)⟩
      · cases hg
    · cases hg
  · cases hg
end RK
end
section
/-! THE MACHINE WITH RANGES IS SOUND: arrays of which more is told -/
section RM
variable {ρ : List Int} {fs : rF}
theorem rEq_ok (hO : rOk ρ fs) {x y c : Value} (h : rEq fs x y = true) (hx : rE ρ x = some c) : rE ρ y = some c := by
  unfold rEq at h
  split at h
  · rename_i a b
    rw [beq_iff_eq] at h
    subst h
    exact hx
  · rename_i a b
    rw [beq_iff_eq] at h
    subst h
    exact hx
  · rename_i a b
    split at h
    · rename_i q hq
      rw [Bool.and_eq_true, decide_eq_true_eq, decide_eq_true_eq] at h
      obtain ⟨z, rfl, z1, z2⟩ := rRg_ok hO hq hx
      refine congrArg (fun t => some (Value.int t)) (Int32.toInt_inj.mp ?_)
      omega
    · cases h
  · rename_i b a
    split at h
    · rename_i q hq
      rw [Bool.and_eq_true, decide_eq_true_eq, decide_eq_true_eq] at h
      cases hx
      have hq' := hq
      unfold rRg at hq'
      dsimp only at hq'
      split at hq'
      · rename_i p hp
        obtain ⟨z, z1, z2, z3⟩ := hO.2.1 _ _ hp
        have hc : rE ρ (.float a) = some (.int (Int32.ofInt (z + rOf a))) := by rw [rE_f, z1]; rfl
        obtain ⟨w, e, w1, w2⟩ := rRg_ok hO hq hc
        rw [hc]
        cases e
        refine congrArg (fun t => some (Value.int t)) (Int32.toInt_inj.mp ?_)
        omega
      · cases hq'
    · cases h
  · cases h
theorem rEs_6 {a b c d e f : Value} {g : List Value} (h : rEs ρ [a, b, c, d, e, f] = some g) : ∃ a' b' c' d' e' f', rE ρ a = some a' ∧ rE ρ b = some b' ∧ rE ρ c = some c' ∧ rE ρ d = some d' ∧ rE ρ e = some e' ∧ rE ρ f = some f' ∧ g = [a', b', c', d', e', f'] := by
  obtain ⟨a', l1, h1, t1, rfl⟩ := rEs_cons h
  obtain ⟨b', l2, h2, t2, rfl⟩ := rEs_cons t1
  obtain ⟨c', l3, h3, t3, rfl⟩ := rEs_cons t2
  obtain ⟨d', l4, h4, t4, rfl⟩ := rEs_cons t3
  obtain ⟨e', l5, h5, t5, rfl⟩ := rEs_cons t4
  obtain ⟨f', l6, h6, t6, rfl⟩ := rEs_cons t5
  cases t6
  exact ⟨a', b', c', d', e', f', h1, h2, h3, h4, h5, h6, rfl⟩
theorem rSet_same {α : Type} {l : List α} {a : Nat} {c : α} (h : l[a]? = some c) : l.set a c = l := by
  apply List.ext_getElem?
  intro i
  rw [List.getElem?_set]
  split
  · rename_i hi
    subst hi
    rw [if_pos (List.getElem?_eq_some_iff.mp h).1, h]
  · rfl
/-- three places and what stands there -/
theorem rMe_6 {f : Nat → Int32} {a b c d e k : Value} (h : rMe f [a, b, c, d, e, k]) : ∃ i1 v1 i2 v2 i3 v3 : Int32, a = .int i1 ∧ b = .int v1 ∧ c = .int i2 ∧ d = .int v2 ∧ e = .int i3 ∧ k = .int v3 ∧ (0 ≤ i1.toInt ∧ i1.toInt < 240 ∧ f i1.toInt.toNat = v1) ∧ (0 ≤ i2.toInt ∧ i2.toInt < 240 ∧ f i2.toInt.toNat = v2) ∧ (0 ≤ i3.toInt ∧ i3.toInt < 240 ∧ f i3.toInt.toNat = v3) := by
  unfold rMe at h
  split at h
  · rename_i hh; cases hh
  · rename_i i1 v1 r hh
    injection hh with e1 hh
    injection hh with e2 hh
    subst e1 e2 hh
    obtain ⟨h1, h⟩ := h
    unfold rMe at h
    split at h
    · rename_i hh; cases hh
    · rename_i i2 v2 r hh
      injection hh with e1 hh
      injection hh with e2 hh
      subst e1 e2 hh
      obtain ⟨h2, h⟩ := h
      unfold rMe at h
      split at h
      · rename_i hh; cases hh
      · rename_i i3 v3 r hh
        injection hh with e1 hh
        injection hh with e2 hh
        subst e1 e2 hh
        obtain ⟨h3, h⟩ := h
        exact ⟨_, _, _, _, _, _, rfl, rfl, rfl, rfl, rfl, rfl, h1, h2, h3⟩
      · cases h
    · cases h
  · cases h
theorem rMe_m {f : Nat → Int32} {i1 v1 i2 v2 i3 v3 : Int32} (h1 : 0 ≤ i1.toInt ∧ i1.toInt < 240 ∧ f i1.toInt.toNat = v1) (h2 : 0 ≤ i2.toInt ∧ i2.toInt < 240 ∧ f i2.toInt.toNat = v2) (h3 : 0 ≤ i3.toInt ∧ i3.toInt < 240 ∧ f i3.toInt.toNat = v3) : rMe f [.int i1, .int v1, .int i2, .int v2, .int i3, .int v3] := ⟨h1, h2, h3, trivial⟩
theorem mIn_i {i : Int32} {n : Nat} (h : mIn i n = true) : 0 ≤ i.toInt ∧ i.toInt < n ∧ i.toNatClampNeg = i.toInt.toNat := by
  have h1 := rIn_lt h
  unfold mIn at h
  rw [Bool.and_eq_true, Bool.not_eq_true', decide_eq_false_iff_not, Int32.lt_iff_toInt_lt] at h
  have z : (0 : Int32).toInt = 0 := rfl
  have e : i.toNatClampNeg = i.toInt.toNat := rfl
  rw [z] at h
  exact ⟨by omega, by omega, e⟩
theorem rGi_k {i : Int32} {a : Nat} {rd : List Value} {hc : mH} {k n : Nat} {f : Nat → Int32} {o1 o2 : Nat} {v : Value} (hk : k = 0 ∨ k = 4) (c1 : hc[a]? = some (some (.inl (k, n, .inl f)))) (h : mIn i n = true) : mG .iaload o1 o2 v (.int i :: .ref a :: rd) hc = some (.int (f i.toNatClampNeg) :: rd) := by
  unfold mG
  dsimp only
  rcases hk with rfl | rfl
  · rw [c1]; exact if_pos h
  · rw [c1]; exact if_pos h
/-- a read, or a write -/
def rMx' (k0 : Nat) (i : Instr) (o1 o2 o3 : Nat) (v : Value) (stc : List Value) (hc : mH) (stc' : List Value) (hc' : mH) : Prop := (mG i o1 o2 v stc hc = some stc' ∧ hc' = hc) ∨ mP k0 i o1 o2 o3 stc hc = some (stc', hc')
theorem rOb_0 {gs : List Value} {c : mC} (h : rOb 1000 gs c) : ∃ f : Nat → Int32, c = some (.inl (0, 240, .inl f)) ∧ rMe f gs := h
theorem rOb_1 {gs : List Value} {c : mC} (h : rOb 1001 gs c) : ∃ (f : Nat → Int32) (b v : Int32), gs = [.int b, .int v] ∧ c = some (.inl (0, 60, .inl f)) ∧ 0 ≤ b.toInt ∧ b.toInt ≤ 60 ∧ (∀ j : Nat, (j : Int) < b.toInt → 0 ≤ (f j).toInt ∧ (f j).toInt ≤ 199) ∧ (b.toInt < 60 → f b.toInt.toNat = v) := h
theorem rOb_3 {gs : List Value} {c : mC} (h : rOb 1003 gs c) : ∃ f : Nat → Int32, c = some (.inl (7, gs.length, .inl f)) ∧ ∀ (j : Nat) (v : Value), gs[j]? = some v → v = .int (f j) := h
theorem rOb_2 {gs : List Value} {c : mC} (h : rOb 1002 gs c) : ∃ (L : Nat) (f : Nat → Int32) (b x0 x1 x2 x3 x4 : Int32), c = some (.inl (4, L, .inl f)) ∧ L ≤ 10000 ∧ 0 ≤ b.toInt ∧ b.toInt + 5 ≤ L ∧ f b.toInt.toNat = x0 ∧ f (b.toInt.toNat + 1) = x1 ∧ f (b.toInt.toNat + 2) = x2 ∧ f (b.toInt.toNat + 3) = x3 ∧ f (b.toInt.toNat + 4) = x4 ∧ gs = [.int (Int32.ofNat L), .int b, .int x0, .int x1, .int x2, .int x3, .int x4, .long ((x1.toInt64 <<< 32) ||| (x2.toInt64 &&& 4294967295)), .int (Int32.ofNat (rGb ((x1.toInt64 <<< 32) ||| (x2.toInt64 &&& 4294967295))))] := h
set_option maxHeartbeats 4000000 in
theorem rMa_ok (hO : rOk ρ fs) (hn : fs.length < 60000) {k0 : Nat} {h h' : rH} {hc : mH} (hh : rHr ρ h hc) {i : Instr} {o1 o2 o3 : Nat} {v : Value} {st stc st' : List Value} {fs' : rF} (hs : rEs ρ st = some stc) (hg : rMa fs k0 i st h = some (fs', st', h')) : ∃ stc' hc', rMx' k0 i o1 o2 o3 v stc hc stc' hc' ∧ ∃ e, rOk (ρ ++ e) fs' ∧ rEs (ρ ++ e) st' = some stc' ∧ rHr (ρ ++ e) h' hc' := by
  have same : ∀ {st'' stc'' : List Value} {h'' : rH} {hc'' : mH}, rEs ρ st'' = some stc'' → rHr ρ h'' hc'' → ∃ e, rOk (ρ ++ e) fs ∧ rEs (ρ ++ e) st'' = some stc'' ∧ rHr (ρ ++ e) h'' hc'' := fun a b => ⟨[], by rw [List.append_nil]; exact hO, by rw [List.append_nil]; exact a, by rw [List.append_nil]; exact b⟩
  unfold rMa at hg
  split at hg
  · rename_i x a r
    obtain ⟨d, rd, hd, hr, rfl⟩ := rEs_cons hs
    obtain ⟨d2, re, hd2, hr2, rfl⟩ := rEs_cons hr
    cases hd2
    split at hg
    · rename_i i1 v1 i2 v2 i3 v3 hcell
      obtain ⟨cc, c1, gs, g1, g2⟩ := hh.2 _ _ hcell
      obtain ⟨f, f1, f2⟩ := rOb_0 g2
      obtain ⟨a', b', c', d', e', k', ha, hb, hcx, hdx, hex, hkx, rfl⟩ := rEs_6 g1
      obtain ⟨j1, w1, j2, w2, j3, w3, rfl, rfl, rfl, rfl, rfl, rfl, m1, m2, m3⟩ := rMe_6 f2
      rw [f1] at c1
      split at hg
      · rename_i hx
        obtain ⟨ix, rfl, hix⟩ := rIx_ok hO hd hx
        obtain ⟨q1, q2, q3⟩ := mIn_i hix
        have rd0 := rGi_k (rd := re) (o1 := o1) (o2 := o2) (v := v) (Or.inl rfl) c1 hix
        split at hg
        · rename_i he
          cases hg
          have := rEq_ok hO he hd
          rw [ha] at this
          cases this
          refine ⟨_, _, Or.inl ⟨rd0, rfl⟩, same (rEs_mk ?_ hr2) hh⟩
          rw [hb, q3, m1.2.2]
        · split at hg
          · rename_i he
            cases hg
            have := rEq_ok hO he hd
            rw [hcx] at this
            cases this
            refine ⟨_, _, Or.inl ⟨rd0, rfl⟩, same (rEs_mk ?_ hr2) hh⟩
            rw [hdx, q3, m2.2.2]
          · split at hg
            · rename_i he
              cases hg
              have := rEq_ok hO he hd
              rw [hex] at this
              cases this
              refine ⟨_, _, Or.inl ⟨rd0, rfl⟩, same (rEs_mk ?_ hr2) hh⟩
              rw [hkx, q3, m3.2.2]
            · cases hg
              obtain ⟨e, e1, e2⟩ := rNi_ok hO hn (Int32.le_toInt (f ix.toNatClampNeg)) (Int32.toInt_le (f ix.toNatClampNeg))
              refine ⟨_, _, Or.inl ⟨rd0, rfl⟩, e, e1, rEs_mk e2 (rEs_ext e hr2), ?_⟩
              have hob : rOb 1000 [.int j1, .int w1, .int j3, .int w3, .int ix, .int (f ix.toNatClampNeg)] (some (.inl (0, 240, .inl f))) := ⟨f, rfl, rMe_m m1 m3 ⟨q1, q2, rfl⟩⟩
              have hset := (rHr_ext e hh).set (a := some (.inr (1000, [i1, v1, i3, v3, x, (rNi fs rI0 rI1).2]))) (c := some (.inl (0, 240, .inl f))) a ⟨_, rEs_mk (rE_ext e ha) (rEs_mk (rE_ext e hb) (rEs_mk (rE_ext e hex) (rEs_mk (rE_ext e hkx) (rEs_mk (rE_ext e hd) (rEs_mk e2 rfl))))), hob⟩
              rw [rSet_same c1] at hset
              exact hset
      · cases hg
    · rename_i b y hcell
      obtain ⟨cc, c1, gs, g1, g2⟩ := hh.2 _ _ hcell
      obtain ⟨f, bb, vv, rfl, f1, f2, f3, f4, f5⟩ := rOb_1 g2
      obtain ⟨b', l1, hb, t1, e1⟩ := rEs_cons g1
      injection e1 with e1 e2
      subst e1
      rw [f1] at c1
      split at hg
      · rename_i p q hp hq
        split at hg
        · rename_i hlt
          cases hg
          obtain ⟨ix, rfl, x1, x2⟩ := rRg_ok hO hp hd
          obtain ⟨b2, e3, b3, b4⟩ := rRg_ok hO hq hb
          cases e3
          have hix : mIn ix 60 = true := by
            unfold mIn
            have z : (0 : Int32).toInt = 0 := rfl
            have e : ix.toNatClampNeg = ix.toInt.toNat := rfl
            rw [Bool.and_eq_true, decide_eq_true_eq, Bool.not_eq_true', decide_eq_false_iff_not, Int32.lt_iff_toInt_lt, z, e]
            omega
          have hv := f4 ix.toInt.toNat (by omega)
          have ec : ix.toNatClampNeg = ix.toInt.toNat := rfl
          obtain ⟨e, e1, e2⟩ := rNi_ok hO hn (x := f ix.toNatClampNeg) (l := 0) (u := 199) (by rw [ec]; exact hv.1) (by rw [ec]; exact hv.2)
          exact ⟨_, _, Or.inl ⟨rGi_k (Or.inl rfl) c1 hix, rfl⟩, e, e1, rEs_mk e2 (rEs_ext e hr2), rHr_ext e hh⟩
        · cases hg
      · cases hg
    · rename_i lx i0 y0 y1 y2 y3 y4 ex gx hcell
      obtain ⟨cc, c1, gs, g1, g2⟩ := hh.2 _ _ hcell
      obtain ⟨L, f, b, x0, x1, x2, x3, x4, f1, f2, f3, f4, k0', k1, k2, k3, k4, rfl⟩ := rOb_2 g2
      rw [f1] at c1
      obtain ⟨z1, l1, h1, t1, e1⟩ := rEs_cons g1
      injection e1 with e1 e1'
      subst e1 e1'
      obtain ⟨z2, l2, h2, t2, e1⟩ := rEs_cons t1
      injection e1 with e1 e1'
      subst e1 e1'
      obtain ⟨z3, l3, h3, t3, e1⟩ := rEs_cons t2
      injection e1 with e1 e1'
      subst e1 e1'
      obtain ⟨z4, l4, h4, t4, e1⟩ := rEs_cons t3
      injection e1 with e1 e1'
      subst e1 e1'
      obtain ⟨z5, l5, h5, t5, e1⟩ := rEs_cons t4
      injection e1 with e1 e1'
      subst e1 e1'
      obtain ⟨z6, l6, h6, t6, e1⟩ := rEs_cons t5
      injection e1 with e1 e1'
      subst e1 e1'
      obtain ⟨z7, l7, h7, t7, e1⟩ := rEs_cons t6
      injection e1 with e1 e1'
      subst e1 e1'
      split at hg
      · rename_i bx cx p q hp hq
        split at hg
        · rename_i hk
          obtain ⟨ix, rfl, ix1, ix2⟩ := rRg_ok hO hp hd
          obtain ⟨z, zz, e3⟩ := rVal_i hO hp hd
          obtain ⟨w, ww, e4⟩ := rVal_i hO hq h2
          rw [hk.1, ww] at zz
          cases zz
          have hi : ix.toInt = b.toInt + (rOf bx - rOf cx) := by omega
          have hix : mIn ix L = true := by
            unfold mIn
            have z : (0 : Int32).toInt = 0 := rfl
            have e : ix.toNatClampNeg = ix.toInt.toNat := rfl
            rw [Bool.and_eq_true, decide_eq_true_eq, Bool.not_eq_true', decide_eq_false_iff_not, Int32.lt_iff_toInt_lt, z, e]
            omega
          have rd0 := rGi_k (rd := re) (o1 := o1) (o2 := o2) (v := v) (Or.inr rfl) c1 hix
          have ec : ix.toNatClampNeg = b.toInt.toNat + (rOf bx - rOf cx).toNat := by
            have e : ix.toNatClampNeg = ix.toInt.toNat := rfl
            rw [e]
            omega
          have five : (rOf bx - rOf cx).toNat = 0 ∨ (rOf bx - rOf cx).toNat = 1 ∨ (rOf bx - rOf cx).toNat = 2 ∨ (rOf bx - rOf cx).toNat = 3 ∨ (rOf bx - rOf cx).toNat = 4 := by omega
          rw [ec] at rd0
          rcases five with h5' | h5' | h5' | h5' | h5'
          all_goals
            rw [h5'] at hg rd0
            cases hg
            refine ⟨_, _, Or.inl ⟨rd0, rfl⟩, same (rEs_mk ?_ hr2) hh⟩
          · rw [h3, Nat.add_zero, k0']
          · rw [h4, k1]
          · rw [h5, k2]
          · rw [h6, k3]
          · rw [h7, k4]
        · cases hg
      · cases hg
    · cases hg
  · rename_i x a r
    obtain ⟨d, rd, hd, hr, rfl⟩ := rEs_cons hs
    obtain ⟨d2, re, hd2, hr2, rfl⟩ := rEs_cons hr
    cases hd
    cases hd2
    split at hg
    · rename_i gs hcell
      split at hg
      · rename_i hix
        obtain ⟨cc, c1, gg, g1, g2⟩ := hh.2 _ _ hcell
        obtain ⟨f, f1, f2⟩ := rOb_3 g2
        rw [f1, rEs_len g1] at c1
        cases hx : gs[x.toNatClampNeg]? with
        | none => rw [hx] at hg; cases hg
        | some y =>
          rw [hx] at hg
          cases hg
          obtain ⟨c, d1, d2⟩ := rEs_get g1 hx
          have := f2 _ _ d1
          subst this
          refine ⟨.int (f x.toNatClampNeg) :: re, hc, Or.inl ⟨?_, rfl⟩, same (rEs_mk d2 hr2) hh⟩
          unfold mG
          dsimp only
          rw [c1]
          exact if_pos hix
      · cases hg
    · cases hg
  · rename_i a r
    obtain ⟨d, rd, hd, hr, rfl⟩ := rEs_cons hs
    cases hd
    split at hg
    · rename_i gs hcell
      cases hg
      obtain ⟨cc, c1, gg, g1, g2⟩ := hh.2 _ _ hcell
      obtain ⟨f, f1, f2⟩ := rOb_3 g2
      rw [f1, rEs_len g1] at c1
      refine ⟨.int (Int32.ofNat gs.length) :: rd, hc, Or.inl ⟨?_, rfl⟩, same (rEs_mk rfl hr) hh⟩
      unfold mG
      dsimp only
      rw [c1]
      rfl
    · rename_i lx i0 y0 y1 y2 y3 y4 ex gx hcell
      cases hg
      obtain ⟨cc, c1, gs, g1, g2⟩ := hh.2 _ _ hcell
      obtain ⟨L, f, b, x0, x1, x2, x3, x4, f1, f2, f3, f4, k0', k1, k2, k3, k4, rfl⟩ := rOb_2 g2
      rw [f1] at c1
      obtain ⟨z1, l1, h1, t1, e1⟩ := rEs_cons g1
      injection e1 with e1 e1'
      subst e1
      refine ⟨.int (Int32.ofNat L) :: rd, hc, Or.inl ⟨?_, rfl⟩, same (rEs_mk h1 hr) hh⟩
      unfold mG
      dsimp only
      rw [c1]
      rfl
    · cases hg
  · rename_i y x a r
    obtain ⟨d, rd, hd, hr, rfl⟩ := rEs_cons hs
    obtain ⟨d2, re, hd2, hr2, rfl⟩ := rEs_cons hr
    obtain ⟨d3, rf, hd3, hr3, rfl⟩ := rEs_cons hr2
    cases hd3
    have wr : ∀ {ix w : Int32} {n : Nat} {f : Nat → Int32}, hc[a]? = some (some (.inl (0, n, .inl f))) → mIn ix n = true → k0 ≤ a → mP k0 .iastore o1 o2 o3 (.int w :: .int ix :: .ref a :: rf) hc = some (rf, hc.set a (some (.inl (0, n, .inl (upd f ix.toNatClampNeg w))))) := fun c1 h1 h2 => by
      unfold mP
      dsimp only
      rw [c1]
      exact if_pos ⟨h1, h2⟩
    split at hg
    · rename_i a1 a2 a3 a4 a5 a6 q hcell hv
      split at hg
      · rename_i hx
        cases hg
        obtain ⟨cc, c1, gs, g1, g2⟩ := hh.2 _ _ hcell
        obtain ⟨f, f1, f2⟩ := rOb_0 g2
        rw [f1] at c1
        obtain ⟨w, rfl, -⟩ := rRg_ok hO hv hd
        obtain ⟨ix, rfl, hix⟩ := rIx_ok hO hd2 hx.1
        obtain ⟨q1, q2, q3⟩ := mIn_i hix
        refine ⟨_, _, Or.inr (wr c1 hix hx.2), same hr3 (hh.set a ⟨[.int ix, .int w, .int ix, .int w, .int ix, .int w], rEs_mk hd2 (rEs_mk hd (rEs_mk hd2 (rEs_mk hd (rEs_mk hd2 (rEs_mk hd rfl))))), ?_⟩)⟩
        have m : 0 ≤ ix.toInt ∧ ix.toInt < 240 ∧ upd f ix.toNatClampNeg w ix.toInt.toNat = w := ⟨q1, q2, by unfold upd; rw [q3, if_pos rfl]⟩
        exact ⟨_, rfl, rMe_m m m m⟩
      · cases hg
    · rename_i b y' q hcell hv
      split at hg
      · rename_i hx
        cases hg
        obtain ⟨cc, c1, gs, g1, g2⟩ := hh.2 _ _ hcell
        obtain ⟨f, bb, vv, rfl, f1, f2, f3, f4, f5⟩ := rOb_1 g2
        obtain ⟨b', l1, hb, t1, e1⟩ := rEs_cons g1
        injection e1 with e1 e2
        subst e1
        rw [f1] at c1
        obtain ⟨w, rfl, -⟩ := rRg_ok hO hv hd
        obtain ⟨ix, rfl, hix⟩ := rIx_ok hO hd2 hx.1
        obtain ⟨q1, q2, q3⟩ := mIn_i hix
        have heq := rEq_ok hO hx.2.1 hd2
        rw [hb] at heq
        cases heq
        refine ⟨_, _, Or.inr (wr c1 hix hx.2.2), same hr3 (hh.set a ⟨[.int bb, .int w], rEs_mk hb (rEs_mk hd rfl), ?_⟩)⟩
        refine ⟨_, bb, w, rfl, rfl, f2, f3, fun j hj => ?_, fun _ => ?_⟩
        · unfold upd
          rw [if_neg (by rw [q3]; omega)]
          exact f4 j hj
        · unfold upd
          rw [q3, if_pos rfl]
      · cases hg
    · cases hg
  · cases hg
end RM
end
section
/-! THE MACHINE WITH RANGES IS SOUND: one step -/
theorem mB_no {i : Instr} {lv : mL} {v : Value} (h : mB i lv = some v) (st : List Value) : mA i st = none := by
  cases i <;> simp only [mB, reduceCtorEq] at h <;> rfl
theorem mD_no {i : Instr} {nL : Nat} {lv : mL} {st : List Value} {x : mL × List Value} (h : mD i nL lv st = some x) (st2 : List Value) (lv2 : mL) : mA i st2 = none ∧ mB i lv2 = none := by
  cases i <;> simp only [mD, reduceCtorEq] at h <;> exact ⟨rfl, rfl⟩
theorem mJ_no {i : Instr} {pc : Nat} {st : List Value} {x : Nat × List Value} (h : mJ i pc st = some x) (nL : Nat) (st2 : List Value) (lv2 : mL) : mA i st2 = none ∧ mB i lv2 = none ∧ mD i nL lv2 st2 = none := by
  cases i <;> simp only [mJ, reduceCtorEq] at h <;> exact ⟨rfl, rfl, rfl⟩
theorem mG_no {i : Instr} {o1 o2 : Nat} {v : Value} {st x : List Value} {hp : mH} (h : mG i o1 o2 v st hp = some x) (nL pc : Nat) (st2 : List Value) (lv2 : mL) : mA i st2 = none ∧ mB i lv2 = none ∧ mD i nL lv2 st2 = none ∧ mJ i pc st2 = none := by
  cases i <;> simp only [mG, reduceCtorEq] at h <;> exact ⟨rfl, rfl, rfl, rfl⟩
theorem mP_no {k0 : Nat} {i : Instr} {o1 o2 o3 : Nat} {st : List Value} {hp : mH} {x : List Value × mH} (h : mP k0 i o1 o2 o3 st hp = some x) (nL pc q1 q2 : Nat) (v : Value) (st2 : List Value) (lv2 : mL) (h2 : mH) : mA i st2 = none ∧ mB i lv2 = none ∧ mD i nL lv2 st2 = none ∧ mJ i pc st2 = none ∧ mG i q1 q2 v st2 h2 = none := by
  cases i <;> simp only [mP, reduceCtorEq] at h <;> exact ⟨rfl, rfl, rfl, rfl, rfl⟩
theorem mN_no {dflt : Nat → List Value} {i : Instr} {o1 : Nat} {st : List Value} {hp : mH} {x : List Value × mH} (h : mN dflt i o1 st hp = some x) (k0 nL pc q1 q2 q3 : Nat) (v : Value) (st2 : List Value) (lv2 : mL) (h2 : mH) : mA i st2 = none ∧ mB i lv2 = none ∧ mD i nL lv2 st2 = none ∧ mJ i pc st2 = none ∧ mG i q1 q2 v st2 h2 = none ∧ mP k0 i q1 q2 q3 st2 h2 = none := by
  cases i <;> simp only [mN, reduceCtorEq] at h <;> exact ⟨rfl, rfl, rfl, rfl, rfl, rfl⟩
theorem mI_no {dflt : Nat → List Value} {i : Instr} (h : mIv i = true) (k0 nL pc q1 q2 q3 : Nat) (v : Value) (st2 : List Value) (lv2 : mL) (h2 : mH) : mA i st2 = none ∧ mB i lv2 = none ∧ mD i nL lv2 st2 = none ∧ mJ i pc st2 = none ∧ mG i q1 q2 v st2 h2 = none ∧ mP k0 i q1 q2 q3 st2 h2 = none ∧ mN dflt i q1 st2 h2 = none := by
  cases i <;> simp only [mIv, reduceCtorEq] at h <;> exact ⟨rfl, rfl, rfl, rfl, rfl, rfl, rfl⟩
section RN
variable {ρ : List Int} {fs : rF}
/-- where a state can lead: nothing is done, or one step -/
def rTo (k0 : Nat) (dflt : Nat → List Value) (e : mI) (ρ : List Int) (pc : Nat) (lc : mL) (stc : List Value) (hc : mH) (s : rT) : Prop := ∃ ex, rOk (ρ ++ ex) s.1 ∧ ∃ lc' stc' hc', rEv (ρ ++ ex) s.2.2.1 = some lc' ∧ rEs (ρ ++ ex) s.2.2.2.1 = some stc' ∧ rHr (ρ ++ ex) s.2.2.2.2 hc' ∧ ((s.2.1 = pc ∧ lc' = lc ∧ stc' = stc ∧ hc' = hc) ∨ mNx k0 dflt e pc lc stc hc = some (s.2.1, lc', stc', hc'))
theorem rNx_ok (hO : rOk ρ fs) (hn : fs.length < 60000) {k0 : Nat} {dflt : Nat → List Value} {e : mI} {pc : Nat} {lv lc : mL} {st stc : List Value} {h : rH} {hc : mH} {l : List rT} (hl : rEv ρ lv = some lc) (hs : rEs ρ st = some stc) (hh : rHr ρ h hc) (hx : rNx k0 e fs pc lv st h = some l) : ∃ s ∈ l, rTo k0 dflt e ρ pc lc stc hc s := by
  have zero : ∀ {f : rF} {q : Nat} {lv' lc' : mL} {st' stc' : List Value} {h' : rH} {hc' : mH}, rOk ρ f → rEv ρ lv' = some lc' → rEs ρ st' = some stc' → rHr ρ h' hc' → ((q = pc ∧ lc' = lc ∧ stc' = stc ∧ hc' = hc) ∨ mNx k0 dflt e pc lc stc hc = some (q, lc', stc', hc')) → rTo k0 dflt e ρ pc lc stc hc (f, q, lv', st', h') := fun a b c d k => ⟨[], by rw [List.append_nil]; exact a, _, _, _, by rw [List.append_nil]; exact b, by rw [List.append_nil]; exact c, by rw [List.append_nil]; exact d, k⟩
  unfold rNx at hx
  split at hx
  · rename_i st' hA
    cases hx
    obtain ⟨stc', k1, k2⟩ := mA_r hs hA
    refine ⟨_, List.mem_cons_self, zero hO hl k2 hh (Or.inr ?_)⟩
    unfold mNx
    rw [k1]
  split at hx
  · rename_i st' hA
    cases hx
    obtain ⟨stc', k1, k2⟩ := rLc_ok hO hs hA
    refine ⟨_, List.mem_cons_self, zero hO hl k2 hh (Or.inr ?_)⟩
    unfold mNx
    rw [k1]
  split at hx
  · rename_i q hA
    cases hx
    split at hA
    · cases hA
    · obtain ⟨stc', k1, ex, k2, k3⟩ := rU_ok hO hn hs hA
      refine ⟨_, List.mem_cons_self, ex, k2, lc, stc', hc, rEv_ext ex hl, k3, rHr_ext ex hh, Or.inr ?_⟩
      unfold mNx
      rw [k1]
  split at hx
  · rename_i v hB
    cases hx
    obtain ⟨c, k1, k2⟩ := rB_ok hO hl hB
    refine ⟨_, List.mem_cons_self, zero hO hl (rEs_mk k2 hs) hh (Or.inr ?_)⟩
    unfold mNx
    rw [mB_no k1, k1]
  split at hx
  · rename_i lv' st' hB
    cases hx
    obtain ⟨lc', stc', k1, k2, k3⟩ := rD_ok hO hn hl hs hB
    obtain ⟨n1, n2⟩ := mD_no k1 stc lc
    refine ⟨_, List.mem_cons_self, zero hO k2 k3 hh (Or.inr ?_)⟩
    unfold mNx
    rw [n1, n2, k1]
  split at hx
  · rename_i pc' st' hB
    cases hx
    obtain ⟨stc', k1, k2⟩ := rJ_ok hO hs hB
    obtain ⟨n1, n2, n3⟩ := mJ_no k1 e.2.1 stc lc
    refine ⟨_, List.mem_cons_self, zero hO hl k2 hh (Or.inr ?_)⟩
    unfold mNx
    rw [n1, n2, n3, k1]
  split at hx
  · rename_i q hB
    cases hx
    obtain ⟨stc', k1, ex, k2, k3⟩ := rG_ok hO hn hh hs hB
    obtain ⟨n1, n2, n3, n4⟩ := mG_no k1 e.2.1 pc stc lc
    refine ⟨_, List.mem_cons_self, ex, k2, lc, stc', hc, rEv_ext ex hl, k3, rHr_ext ex hh, Or.inr ?_⟩
    unfold mNx
    rw [n1, n2, n3, n4, k1]
  split at hx
  · rename_i st' h' hB
    cases hx
    obtain ⟨stc', hc', k1, k2, k3⟩ := rP_ok hO hh hs hB
    obtain ⟨n1, n2, n3, n4, n5⟩ := mP_no k1 e.2.1 pc e.2.1 e.2.2.1 e.2.2.2.2 stc lc hc
    refine ⟨_, List.mem_cons_self, zero hO hl k2 k3 (Or.inr ?_)⟩
    unfold mNx
    rw [n1, n2, n3, n4, n5, k1]
  split at hx
  · rename_i q hB
    cases hx
    obtain ⟨stc', hc', k1, ex, k2, k3, k4⟩ := rMa_ok (o1 := e.2.1) (o2 := e.2.2.1) (o3 := e.2.2.2.1) (v := e.2.2.2.2) hO hn hh hs hB
    refine ⟨_, List.mem_cons_self, ex, k2, lc, stc', hc', rEv_ext ex hl, k3, k4, Or.inr ?_⟩
    rcases k1 with ⟨k1, rfl⟩ | k1
    · obtain ⟨n1, n2, n3, n4⟩ := mG_no k1 e.2.1 pc stc lc
      unfold mNx
      rw [n1, n2, n3, n4, k1]
    · obtain ⟨n1, n2, n3, n4, n5⟩ := mP_no k1 e.2.1 pc e.2.1 e.2.2.1 e.2.2.2.2 stc lc hc
      unfold mNx
      rw [n1, n2, n3, n4, n5, k1]
  split at hx
  · rename_i hiv
    obtain ⟨n1, n2, n3, n4, n5, n6, n7⟩ := mI_no (dflt := dflt) hiv k0 e.2.1 pc e.2.1 e.2.2.1 e.2.2.2.1 e.2.2.2.2 stc lc hc
    split at hx
    · rename_i q hB
      cases hx
      obtain ⟨stc', k1, ex, k2, k3⟩ := rX_ok hO hn hc hs hB
      refine ⟨_, List.mem_cons_self, ex, k2, lc, stc', hc, rEv_ext ex hl, k3, rHr_ext ex hh, Or.inr ?_⟩
      unfold mNx
      rw [n1, n2, n3, n4, n5, n6, n7, if_pos hiv, k1]
    · split at hx
      · rename_i st' h' hB
        cases hx
        obtain ⟨stc', hc', k1, k2, k3⟩ := rY_ok hO hh hs hB
        refine ⟨_, List.mem_cons_self, zero hO hl k2 k3 (Or.inr ?_)⟩
        have hX : mX e.2.2.2.1 stc hc = none := by
          unfold mY at k1
          split at k1
          · rename_i ho; rw [ho]; rfl
          · rename_i ho; rw [ho]; rfl
          · cases k1
        unfold mNx
        rw [n1, n2, n3, n4, n5, n6, n7, if_pos hiv, hX]
        dsimp only
        rw [k1]
      · cases hx
  · split at hx
    · rename_i l' hB
      cases hx
      obtain ⟨k, k1, k2, stc', k3, k4⟩ := rZ_ok hO hs hB
      refine ⟨_, List.mem_map.mpr ⟨k, k1, rfl⟩, zero k2 hl k3 hh ?_⟩
      rcases k4 with ⟨z1, z2⟩ | z | ⟨z1, z2, z3⟩
      · exact Or.inl ⟨z1, rfl, z2, rfl⟩
      · refine Or.inr ?_
        obtain ⟨n1, n2, n3⟩ := mJ_no z e.2.1 stc lc
        unfold mNx
        rw [n1, n2, n3, z]
      · refine Or.inr ?_
        unfold mNx
        rw [z2, z3, z1]
        rfl
    · cases hx
end RN
end
section
/-! MORE FUEL DOES NO HARM -/
section FU
variable {k0 : Nat} {dflt : Nat → List Value} {P : Nat → Nat → Option mI} {Hn : Nat → List (Nat × Nat × Nat × Nat)} {dp : Nat}
theorem evF_up {call call' : Nat → List Value → mH → Option (mO × mH)} (hc : ∀ ce as h r, call ce as h = some r → call' ce as h = some r) : ∀ (n n' : Nat) {mi pc : Nat} {lv : mL} {st : List Value} {h : mH} {r : mO × mH}, n ≤ n' → evF k0 dflt P Hn dp call n mi pc lv st h = some r → evF k0 dflt P Hn dp call' n' mi pc lv st h = some r
  | 0, _, _, _, _, _, _, _, _, he => by cases he
  | n + 1, 0, _, _, _, _, _, _, hn, _ => by omega
  | n + 1, n' + 1, mi, pc, lv, st, h, r, hn, he => by
    unfold evF at he ⊢
    split at he
    · cases he
    · rename_i e hp
      try dsimp only at he ⊢
      split at he
      · rename_i v hv
        exact he
      · rename_i hv
        try dsimp only
        split at he
        · rename_i x hx
          exact he
        · rename_i hx
          try dsimp only
          split at he
          · rename_i ce as rest hcl
            try dsimp only
            split at he
            · rename_i v h' hcr
              rw [hc _ _ _ _ hcr]
              exact evF_up hc n n' (by omega) he
            · rename_i x a h' hcr
              rw [hc _ _ _ _ hcr]
              try dsimp only
              split at he
              · rename_i hp' hhd
                exact evF_up hc n n' (by omega) he
              · exact he
            · cases he
          · rename_i hcl
            try dsimp only
            split at he
            · exact evF_up hc n n' (by omega) he
            · cases he
theorem evM_up {mx : Nat → Nat} : ∀ (d n n' : Nat) {mi : Nat} {as : List Value} {h : mH} {r : mO × mH}, n ≤ n' → evM k0 dflt P Hn mx d n mi as h = some r → evM k0 dflt P Hn mx d n' mi as h = some r
  | 0, _, _, _, _, _, _, _, he => by cases he
  | d + 1, n, n', mi, as, h, r, hn, he => by
    unfold evM at he ⊢
    split at he
    · rename_i hl
      rw [if_pos hl]
      exact evF_up (fun ce as h r hr => evM_up d n n' hn hr) n n' hn he
    · cases he
end FU
end
section
/-! THE MACHINE WITH RANGES: a step, with calls, returns and throws -/
def rRt (fs : rF) (i : Instr) (o1 : Nat) (st : List Value) : Option (Option Value) := match i, st with
  | .ireturn, [v] => match rRg fs v with
    | some q => (match o1 with
      | 0 => some (some v)
      | 1 => if 0 ≤ q.1 ∧ q.2 ≤ 1 then some (some v) else none
      | 2 => if 0 ≤ q.1 ∧ q.2 ≤ 65535 then some (some v) else none
      | 3 => if -128 ≤ q.1 ∧ q.2 ≤ 127 then some (some v) else none
      | _ => none)
    | none => none
  | .lreturn, [v] => (rRl fs v).map (fun _ => some v)
  | .areturn, [.ref x] => some (some (.ref x))
  | .return_, [] => some none
  | _, _ => none
def rRx (i : Instr) : Bool := match i with
  | .ireturn => true
  | .lreturn => true
  | .areturn => true
  | .return_ => true
  | _ => false
def rRc (fs : rF) (i : Instr) (v : Value) (as : List Value) (h : rH) : Bool := match i with
  | .invokestatic _ => true
  | .invokespecial _ => match as with
    | .ref _ :: _ => true
    | _ => false
  | .invokevirtual _ => match as with
    | .ref b :: _ => match h.1[b]? with
      | some (some (.inr (ci, _))) => match v with
        | .retAddr k => ci == k && decide (ci < 1000)
        | _ => false
      | _ => false
    | .retAddr j :: _ => match fs[j]?, v with
      | some q, .retAddr k => decide (0 ≤ q.1) && ((List.range (q.2 - q.1 + 1).toNat).all (fun (t : Nat) => match h.1[q.1.toNat + t]? with
        | some (some (.inr (ci, _))) => ci == k && decide (ci < 1000)
        | _ => false))
      | _, _ => false
    | _ => false
  | _ => false
def rTl (fs : rF) (v : Value) : Option Value := match v with
  | .float b => rPlus fs (.float b) 1
  | .int x => if x.toInt < 1000000 then some (.int (x + 1)) else none
  | _ => none
def rAf (Hn : Nat → List (Nat × Nat × Nat × Nat)) (mi pc : Nat) (lv : mL) (rest : List Value) (r : rR) : Option (rT ⊕ rR) := match r with
  | (fs, .inl v, h) => some (.inl (fs, pc + 3, lv, v.toList ++ rest, h))
  | (fs, .inr x, h) => match mHd (Hn mi) pc x with
    | some hp => match rRg fs h.2 with
      | some q => if h.1.length < 1000000 then some (.inl (fs ++ [(0, h.1.length + q.2)], hp, lv, [.retAddr fs.length], h)) else none
      | none => none
    | none => if (Hn mi).isEmpty = true then some (.inr (fs, .inr x, h)) else none
def rMap {α β : Type} (f : α → Option β) : List α → Option (List β)
  | [] => some []
  | a :: r => match f a with
    | none => none
    | some b => match rMap f r with
      | none => none
      | some l => some (b :: l)
def rSp (k0 : Nat) (P : Nat → Nat → Option mI) (Hn : Nat → List (Nat × Nat × Nat × Nat)) (dp : Nat) (call : Nat → List Value → rF → rH → Option (List rR)) (mi : Nat) (s : rT) : Option (List (rT ⊕ rR)) :=
  if ¬ s.1.length < 60000 then none else match P mi s.2.1 with
  | none => none
  | some e => if rRx e.1 = true then (match rRt s.1 e.1 e.2.1 s.2.2.2.1 with
      | some v => some [.inr (s.1, .inl v, s.2.2.2.2)]
      | none => none) else
    match mTh e with
    | some x => if 7 ≤ dp ∧ s.2.2.2.1.isEmpty = true then (rTl s.1 s.2.2.2.2.2).map (fun t => [.inr (s.1, .inr x, (s.2.2.2.2.1, t))]) else none
    | none => if mIv e.1 = true ∧ e.2.2.2.1 = 0 then
        (if e.2.2.1 ≤ s.2.2.2.1.length ∧ ((s.2.2.2.1.drop e.2.2.1).map fun v => v.category).sum ≤ 8 ∧ rRc s.1 e.1 e.2.2.2.2 (s.2.2.2.1.take e.2.2.1).reverse s.2.2.2.2 = true then
          (match call e.2.1 (s.2.2.2.1.take e.2.2.1).reverse s.1 s.2.2.2.2 with
            | some rs => rMap (rAf Hn mi s.2.1 s.2.2.1 (s.2.2.2.1.drop e.2.2.1)) rs
            | none => none) else none)
      else match rNx k0 e s.1 s.2.1 s.2.2.1 s.2.2.2.1 s.2.2.2.2 with
        | some l => some (l.map Sum.inl)
        | none => none
/-- what a method answers, and what is told of it: a thrown object lies within the heap -/
def rOut (ρ : List Int) (o : rO) (oc : mO) (hc : mH) : Prop := match o with
  | .inl none => oc = .inl none
  | .inl (some v) => ∃ c, rE ρ v = some c ∧ oc = .inl (some c)
  | .inr x => ∃ a, a < hc.length ∧ oc = .inr (x, a)
section RS
variable {ρ : List Int}
theorem rRt_ok {fs : rF} (hO : rOk ρ fs) {i : Instr} {o1 : Nat} {st stc : List Value} {v : Option Value} (hs : rEs ρ st = some stc) (h : rRt fs i o1 st = some v) (hc : mH) : ∃ oc, mRt i o1 stc = some oc ∧ rOut ρ (.inl v) (.inl oc) hc := by
  unfold rRt at h
  split at h
  · rename_i w
    obtain ⟨c, rc, h1, h2, rfl⟩ := rEs_cons hs
    cases h2
    split at h
    · rename_i q hq
      obtain ⟨x, rfl, x1, x2⟩ := rRg_ok hO hq h1
      split at h
      · cases h
        exact ⟨_, rfl, _, h1, rfl⟩
      · split at h
        · rename_i hb
          cases h
          have : x = 0 ∨ x = 1 := by
            by_cases h0 : x.toInt = 0
            · exact Or.inl (Int32.toInt_inj.mp h0)
            · exact Or.inr (Int32.toInt_inj.mp (show x.toInt = 1 by omega))
          exact ⟨_, if_pos this, _, h1, rfl⟩
        · cases h
      · split at h
        · rename_i hb
          cases h
          exact ⟨_, if_pos (rCh_same ⟨by omega, by omega⟩), _, h1, rfl⟩
        · cases h
      · split at h
        · rename_i hb
          cases h
          exact ⟨_, if_pos (rBy_same ⟨by omega, by omega⟩), _, h1, rfl⟩
        · cases h
      · cases h
    · cases h
  · rename_i w
    obtain ⟨c, rc, h1, h2, rfl⟩ := rEs_cons hs
    cases h2
    cases hq : rRl fs w with
    | none => rw [hq] at h; cases h
    | some q =>
      rw [hq] at h
      cases h
      obtain ⟨x, rfl, x1, x2⟩ := rRl_ok hO hq h1
      exact ⟨_, rfl, _, h1, rfl⟩
  · cases h
    cases hs
    exact ⟨_, rfl, _, rfl, rfl⟩
  · cases h
    cases hs
    exact ⟨_, rfl, rfl⟩
  · cases h
theorem rRx_no {i : Instr} (h : ¬ rRx i = true) (o1 : Nat) (st : List Value) : mRt i o1 st = none := by
  cases i <;> first | rfl | exact absurd rfl h
theorem rRc_ok {fs : rF} (hO : rOk ρ fs) {h : rH} {hc : mH} (hh : rHr ρ h hc) {i : Instr} {v : Value} {as asc : List Value} (ha : rEs ρ as = some asc) (hr : rRc fs i v as h = true) : mRc i v asc hc = true := by
  cases i <;> simp only [rRc, reduceCtorEq] at hr
  case invokestatic ix => rfl
  case invokespecial ix =>
    split at hr
    · obtain ⟨c, rc, h1, h2, rfl⟩ := rEs_cons ha
      cases h1
      rfl
    · cases hr
  case invokevirtual ix =>
    split at hr
    · rename_i b r
      obtain ⟨c, rc, h1, h2, rfl⟩ := rEs_cons ha
      cases h1
      split at hr
      · rename_i ci gs hq
        split at hr
        · rename_i k
          obtain ⟨cc, c1, c2⟩ := hh.2 _ _ hq
          rw [Bool.and_eq_true, decide_eq_true_eq] at hr
          obtain ⟨g, e1, e2⟩ := c2.obj hr.2
          rw [e2] at c1
          show (match hc[b]? with
            | some (some (.inr (ci, _))) => ci == k
            | _ => false) = true
          rw [c1]
          exact hr.1
        · cases hr
      · cases hr
    · rename_i j r
      obtain ⟨c, rc, h1, h2, rfl⟩ := rEs_cons ha
      split at hr
      · rename_i q k hq
        rw [Bool.and_eq_true, decide_eq_true_eq] at hr
        obtain ⟨z, z1, z2, z3⟩ := hO.2.1 _ _ hq
        rw [rE_r, z1] at h1
        cases h1
        have h3 := List.all_eq_true.mp hr.2 (z - q.1).toNat (List.mem_range.mpr (by omega))
        have e0 : q.1.toNat + (z - q.1).toNat = z.toNat := by omega
        rw [e0] at h3
        split at h3
        · rename_i ci gs hcell
          obtain ⟨cc, c1, c2⟩ := hh.2 _ _ hcell
          rw [Bool.and_eq_true, decide_eq_true_eq] at h3
          obtain ⟨g, e1, e2⟩ := c2.obj h3.2
          rw [e2] at c1
          show (match hc[z.toNat]? with
            | some (some (.inr (ci, _))) => ci == k
            | _ => false) = true
          rw [c1]
          exact h3.1
        · cases h3
      · cases hr
    · cases hr
end RS
end
section
/-! A STEP WITH CALLS, RETURNS AND THROWS IS SOUND -/
/-- one of what can come of a state comes of it -/
def rHit (ρ : List Int) (E : Nat → Nat → mL → List Value → mH → Option (mO × mH)) (pc : Nat) (lc : mL) (stc : List Value) (hc : mH) (q : rT ⊕ rR) : Prop := match q with
  | .inl t => ∃ ex, rOk (ρ ++ ex) t.1 ∧ ∃ lc' stc' hc', rEv (ρ ++ ex) t.2.2.1 = some lc' ∧ rEs (ρ ++ ex) t.2.2.2.1 = some stc' ∧ rHr (ρ ++ ex) t.2.2.2.2 hc' ∧ ∃ j, ∀ n, E (n + j) pc lc stc hc = E n t.2.1 lc' stc' hc'
  | .inr r => ∃ ex, rOk (ρ ++ ex) r.1 ∧ ∃ oc hc', rOut (ρ ++ ex) r.2.1 oc hc' ∧ rHr (ρ ++ ex) r.2.2 hc' ∧ ∃ j, ∀ n, E (n + j) pc lc stc hc = some (oc, hc')
theorem rMap_mem {α β : Type} {f : α → Option β} : ∀ {l : List α} {ls : List β} {x : α}, rMap f l = some ls → x ∈ l → ∃ y, f x = some y ∧ y ∈ ls
  | [], _, _, _, hx => by cases hx
  | a :: r, ls, x, h, hx => by
    unfold rMap at h
    split at h
    · cases h
    · rename_i b hb
      split at h
      · cases h
      · rename_i l hl
        cases h
        rcases List.mem_cons.mp hx with rfl | hx
        · exact ⟨b, hb, List.mem_cons_self⟩
        · obtain ⟨y, y1, y2⟩ := rMap_mem hl hx
          exact ⟨y, y1, List.mem_cons_of_mem _ y2⟩
theorem rEs_app {ρ : List Int} : ∀ {a b x y : List Value}, rEs ρ a = some x → rEs ρ b = some y → rEs ρ (a ++ b) = some (x ++ y)
  | [], b, x, y, h1, h2 => by cases h1; exact h2
  | v :: r, b, x, y, h1, h2 => by
    obtain ⟨c, l, e1, e2, rfl⟩ := rEs_cons h1
    exact rEs_mk e1 (rEs_app e2 h2)
theorem rEs_take {ρ : List Int} : ∀ (k : Nat) {a x : List Value}, rEs ρ a = some x → rEs ρ (a.take k) = some (x.take k) ∧ rEs ρ (a.drop k) = some (x.drop k)
  | 0, a, x, h => ⟨rfl, h⟩
  | k + 1, [], x, h => by cases h; exact ⟨rfl, rfl⟩
  | k + 1, v :: r, x, h => by
    obtain ⟨c, l, e1, e2, rfl⟩ := rEs_cons h
    obtain ⟨k1, k2⟩ := rEs_take k e2
    exact ⟨rEs_mk e1 k1, k2⟩
theorem rEs_rev {ρ : List Int} {a x : List Value} (h : rEs ρ a = some x) : rEs ρ a.reverse = some x.reverse := by
  induction a generalizing x with
  | nil => cases h; rfl
  | cons v r ih =>
    obtain ⟨c, l, e1, e2, rfl⟩ := rEs_cons h
    rw [List.reverse_cons, List.reverse_cons]
    exact rEs_app (ih e2) (rEs_mk e1 rfl)
section SP
variable {ρ : List Int} {k0 : Nat} {dflt : Nat → List Value} {P : Nat → Nat → Option mI} {Hn : Nat → List (Nat × Nat × Nat × Nat)} {dp : Nat} {acall : Nat → List Value → rF → rH → Option (List rR)} {call : Nat → List Value → mH → Option (mO × mH)} {mi : Nat}
set_option maxHeartbeats 2000000 in
theorem rSp_ok (hcall : ∀ (ρ : List Int) ce as fs h rs asc hc, acall ce as fs h = some rs → rOk ρ fs → rEs ρ as = some asc → rHr ρ h hc → ∃ r ∈ rs, ∃ ex, rOk (ρ ++ ex) r.1 ∧ ∃ oc hc', rOut (ρ ++ ex) r.2.1 oc hc' ∧ rHr (ρ ++ ex) r.2.2 hc' ∧ call ce asc hc = some (oc, hc'))
    {s : rT} {l : List (rT ⊕ rR)} {lc : mL} {stc : List Value} {hc : mH} (hO : rOk ρ s.1) (hl : rEv ρ s.2.2.1 = some lc) (hs : rEs ρ s.2.2.2.1 = some stc) (hh : rHr ρ s.2.2.2.2 hc) (h : rSp k0 P Hn dp acall mi s = some l) : ∃ q ∈ l, rHit ρ (fun n => evF k0 dflt P Hn dp call n mi) s.2.1 lc stc hc q := by
  obtain ⟨fs, pc, lv, st, hp⟩ := s
  dsimp only at hO hl hs hh ⊢
  unfold rSp at h
  dsimp only at h
  split at h
  · cases h
  rename_i hlen
  have hn : fs.length < 60000 := by omega
  split at h
  · cases h
  rename_i e he
  split at h
  · rename_i hrt
    split at h
    · rename_i v hv
      cases h
      obtain ⟨oc, o1, o2⟩ := rRt_ok hO hs hv hc
      refine ⟨_, List.mem_cons_self, [], by rw [List.append_nil]; exact hO, .inl oc, hc, by rw [List.append_nil]; exact o2, by rw [List.append_nil]; exact hh, 1, fun n => ?_⟩
      dsimp only
      rw [evF, he]
      dsimp only
      rw [o1]
    · cases h
  rename_i hrt
  split at h
  · rename_i x hx
    split at h
    · rename_i hq
      cases ht : rTl fs hp.2 with
      | none => rw [ht] at h; cases h
      | some t =>
        rw [ht] at h
        cases h
        have hst : st = [] := by simpa using hq.2
        subst hst
        cases hs
        obtain ⟨⟨y, y1, y0, y2⟩, y3⟩ := hh
        have hy : ∃ y', rE ρ t = some (.int y') ∧ 0 ≤ y'.toInt ∧ y'.toInt = y.toInt + 1 := by
          unfold rTl at ht
          split at ht
          · rename_i b hb
            rw [hb] at y1
            obtain ⟨w, w1, w2, -, -⟩ := rPlus_ok hO ht hn y1
            exact ⟨w, w1, by omega, w2⟩
          · rename_i xx hb
            split at ht
            · rename_i hlt
              cases ht
              rw [hb] at y1
              cases y1
              have e1 : (1 : Int32).toInt = 1 := rfl
              have e2 : (y + 1).toInt = y.toInt + 1 := by
                rw [rAdd_ok (by rw [e1]; unfold rI0; omega) (by rw [e1]; unfold rI1; omega), e1]
              exact ⟨_, rfl, by omega, e2⟩
            · cases ht
          · cases ht
        obtain ⟨y', w1, w2, w3⟩ := hy
        refine ⟨_, List.mem_cons_self, [], by rw [List.append_nil]; exact hO, .inr (x, hc.length), hc ++ [mEx x], by rw [List.append_nil]; exact ⟨hc.length, by rw [List.length_append]; exact Nat.lt_succ_self _, rfl⟩, ?_, 1, fun n => ?_⟩
        · rw [List.append_nil]
          refine ⟨⟨y', w1, w2, by rw [List.length_append]; show ((hc.length + 1 : Nat) : Int) = (hp.1.length : Int) + y'.toInt; omega⟩, fun i a ha => ?_⟩
          obtain ⟨c, c1, c2⟩ := y3 i a ha
          exact ⟨c, by rw [List.getElem?_append_left (List.getElem?_eq_some_iff.mp c1).1]; exact c1, c2⟩
        · dsimp only
          rw [evF, he]
          dsimp only
          rw [rRx_no hrt, hx]
          dsimp only
          rw [if_pos ⟨hq.1, rfl⟩]
    · cases h
  rename_i hth
  split at h
  · rename_i hiv
    split at h
    · rename_i hq
      split at h
      · rename_i rs hrs
        obtain ⟨ht, hd⟩ := rEs_take e.2.2.1 hs
        obtain ⟨r, r1, ex, r2, oc, hc', r3, r4, r5⟩ := hcall ρ _ _ _ _ _ _ hc hrs hO (rEs_rev ht) hh
        obtain ⟨y, y1, y2⟩ := rMap_mem h r1
        refine ⟨y, y2, ?_⟩
        have hcl : mCl e stc hc = some (e.2.1, (stc.take e.2.2.1).reverse, stc.drop e.2.2.1) := by
          unfold mCl
          refine if_pos ⟨hiv.1, hiv.2, by rw [rEs_len hs]; exact hq.1, ?_, rRc_ok hO hh (rEs_rev ht) hq.2.2⟩
          rw [rEs_cats hd]
          exact hq.2.1
        obtain ⟨rf, ro, rh⟩ := r
        cases ro with
        | inl v =>
          cases y1
          cases v with
          | none =>
            have r3 : oc = .inl none := r3
            subst r3
            refine ⟨ex, r2, lc, stc.drop e.2.2.1, hc', rEv_ext ex hl, rEs_ext ex hd, r4, 1, fun n => ?_⟩
            dsimp only
            rw [evF, he]
            dsimp only
            rw [rRx_no hrt, hth]
            dsimp only
            rw [hcl]
            dsimp only
            rw [r5]
            rfl
          | some v =>
            obtain ⟨c, c1, rfl⟩ := r3
            refine ⟨ex, r2, lc, c :: stc.drop e.2.2.1, hc', rEv_ext ex hl, rEs_mk c1 (rEs_ext ex hd), r4, 1, fun n => ?_⟩
            dsimp only
            rw [evF, he]
            dsimp only
            rw [rRx_no hrt, hth]
            dsimp only
            rw [hcl]
            dsimp only
            rw [r5]
            rfl
        | inr x =>
          obtain ⟨a, a1, rfl⟩ := r3
          unfold rAf at y1
          dsimp only at y1
          split at y1
          · rename_i hp' hhd
            split at y1
            · rename_i q hq3
              split at y1
              rotate_left
              · cases y1
              rename_i hlen2
              cases y1
              obtain ⟨⟨z, z1, z0, z2⟩, z3⟩ := id r4
              obtain ⟨z', e1, e2, e3⟩ := rRg_ok r2 hq3 z1
              cases e1
              have hpush := r2.push (z := (a : Int)) (l := 0) (u := (rh.1.length : Int) + q.2) (by omega) (by dsimp only at z2; omega) (by omega) (by have := rRg_le hq3; unfold rI1 at this; omega)
              refine ⟨ex ++ [(a : Int)], by rw [← List.append_assoc]; exact hpush, lc, [.ref a], hc', by rw [← List.append_assoc]; exact rEv_ext _ (rEv_ext ex hl), ?_, by rw [← List.append_assoc]; exact rHr_ext _ r4, 1, fun n => ?_⟩
              · rw [← List.append_assoc]
                refine rEs_mk ?_ rfl
                rw [rE_r, ← r2.1, List.getElem?_append_right (Nat.le_refl _), Nat.sub_self]
                rfl
              · dsimp only
                rw [evF, he]
                dsimp only
                rw [rRx_no hrt, hth]
                dsimp only
                rw [hcl]
                dsimp only
                rw [r5]
                dsimp only
                rw [hhd]
            · cases y1
          · rename_i hhd
            split at y1
            · rename_i hemp
              cases y1
              refine ⟨ex, r2, .inr (x, a), hc', ⟨a, a1, rfl⟩, r4, 1, fun n => ?_⟩
              dsimp only
              rw [evF, he]
              dsimp only
              rw [rRx_no hrt, hth]
              dsimp only
              rw [hcl]
              dsimp only
              rw [r5]
              dsimp only
              rw [hhd]
              exact if_pos hemp
            · cases y1
      · cases h
    · cases h
  · rename_i hiv
    split at h
    · rename_i l' hx
      cases h
      obtain ⟨t, t1, ex, t2, lc', stc', hc', t3, t4, t5, t6⟩ := rNx_ok (dflt := dflt) hO hn hl hs hh hx
      refine ⟨.inl t, List.mem_map.mpr ⟨t, t1, rfl⟩, ex, t2, lc', stc', hc', t3, t4, t5, ?_⟩
      rcases t6 with ⟨z1, z2, z3, z4⟩ | z
      · refine ⟨0, fun n => ?_⟩
        dsimp only
        rw [z1, z2, z3, z4]
        rfl
      · refine ⟨1, fun n => ?_⟩
        have hcl : mCl e stc hc = none := if_neg (fun k => hiv ⟨k.1, k.2.1⟩)
        dsimp only
        rw [evF, he]
        dsimp only
        rw [rRx_no hrt, hth]
        dsimp only
        rw [hcl]
        dsimp only
        rw [z]
    · cases h
end SP
end
