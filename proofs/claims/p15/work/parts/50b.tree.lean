/-! A METHOD'S RUN TURNED ROUND: what must have happened, if it came to an end -/
abbrev zO : Type := Option Value ⊕ Nat
def zOut (c0 : mH) (o : zO) (σ : zS) : mO × mH := match o with
  | .inl v => (.inl v, zH c0 σ)
  | .inr x => (.inr (x, (zH c0 σ).length - 1), zH c0 σ)
/-- a relation of an outcome and a state -/
abbrev zCs : Type := zO → zS → Prop
def zRf (σ : zS) (o1 o2 a : Nat) : Option (Option Prop × Value) := match Nat.beq o1 13 with
  | true => (match o2 with
    | 0 => some (some (2 ≤ a ∧ a < 52), .ref (nSix (a - 2)))
    | 1 => some (some (2 ≤ a ∧ a < 52), .int (nOp (a - 2)).2.2.1)
    | 2 => some (some (2 ≤ a ∧ a < 52), .int (nOp (a - 2)).2.2.2)
    | _ => none)
  | false => match Nat.beq o1 14 with
    | true => (match o2 with
      | 0 => some (some (zIsS a), .ref (a + 1))
      | 1 => some (some (zIsS a), .int 0)
      | _ => none)
    | false => match Nat.ble 158 a with
      | false => none
      | true => match zTab[a - 158]? with
        | some (.inl (ci, ks)) => (match Nat.beq ci o1 with
          | true => (match ks[o2]? with
            | some kd => some (none, zV σ (a - 158) o2 kd)
            | none => none)
          | false => none)
        | _ => none
def zWk (σ : zS) (k o2 o3 : Nat) (kd : Option Nat) (v : Value) : Option (Option Prop × zS) := match kd, v with
  | some 0, .int x => some (none, zI σ k o2 x)
  | some 1, .int x => some (some (mFit o3 (.int x) = true), zI σ k o2 x)
  | some 2, .long x => some (none, zL σ k o2 x)
  | some 3, .ref q => some (none, zQ σ q)
  | _, _ => none
def zWf (σ : zS) (o1 o2 o3 : Nat) (v : Value) (a : Nat) : Option (Option Prop × zS) := match Nat.ble 158 a with
  | false => none
  | true => match zTab[a - 158]? with
    | some (.inl (ci, ks)) => (match Nat.beq ci o1 with
      | true => zWk σ (a - 158) o2 o3 ks[o2]? v
      | false => none)
    | _ => none
/-- the array of a reference: its number and length, if it is of that kind -/
def zAk (kd a : Nat) : Option Nat := match Nat.ble 158 a with
  | false => none
  | true => match zTab[a - 158]? with
    | some (.inr (kd', n)) => (match Nat.beq kd' kd with
      | true => some n
      | false => none)
    | _ => none
def zLi (kd pc : Nat) (lv : mL) (st : List Value) (σ : zS) : Option (Option Prop × Nat × mL × List Value × zS) := match st with
  | .int i :: .ref a :: r => (match zAk kd a with
    | some n => some (some (mIn i n = true), pc + 1, lv, .int (σ.2.2.1 (a - 158) i.toNatClampNeg) :: r, σ)
    | none => none)
  | _ => none
/-- the same of an old array -/
def zLo (kd pc : Nat) (lv : mL) (st : List Value) (σ : zS) : Option (Option Prop × Nat × mL × List Value × zS) := match st with
  | .int i :: .ref a :: r => (match Nat.blt 1 a && Nat.blt a 158 with
    | true => (match nCell 0 (fun _ => 0) a with
      | some (.inl (kd', n, .inl f)) => (match Nat.beq kd' kd with
        | true => some (some (mIn i n = true), pc + 1, lv, .int (f i.toNatClampNeg) :: r, σ)
        | false => none)
      | _ => none)
    | false => none)
  | _ => none
def zLa (pc : Nat) (lv : mL) (st : List Value) (σ : zS) : Option (Option Prop × Nat × mL × List Value × zS) := match st with
  | .int i :: .ref a :: r => (match Nat.beq a 52 with
    | true => some (some (mIn i 50 = true), pc + 1, lv, .ref (i.toNatClampNeg + 2) :: r, σ)
    | false => none)
  | _ => none
def zLl (pc : Nat) (lv : mL) (st : List Value) (σ : zS) : Option (Option Prop × Nat × mL × List Value × zS) := match st with
  | .int i :: .ref a :: r => (match zAk 1 a with
    | some n => some (some (mIn i n = true), pc + 1, lv, .long (σ.2.2.2.1 (a - 158) i.toNatClampNeg) :: r, σ)
    | none => none)
  | _ => none
def zSi (kd pc : Nat) (nar : Int32 → Int32) (lv : mL) (st : List Value) (σ : zS) : Option (Option Prop × Nat × mL × List Value × zS) := match st with
  | .int x :: .int i :: .ref a :: r => (match zAk kd a with
    | some n => some (some (mIn i n = true), pc + 1, lv, r, zA σ (a - 158) (upd (σ.2.2.1 (a - 158)) i.toNatClampNeg (nar x)))
    | none => none)
  | _ => none
def zSl (pc : Nat) (lv : mL) (st : List Value) (σ : zS) : Option (Option Prop × Nat × mL × List Value × zS) := match st with
  | .long x :: .int i :: .ref a :: r => (match zAk 1 a with
    | some n => some (some (mIn i n = true), pc + 1, lv, r, zB σ (a - 158) (vp_updL (σ.2.2.2.1 (a - 158)) i.toNatClampNeg x))
    | none => none)
  | _ => none
def zDi (f : Int32 → Int32 → Int32) (pc : Nat) (lv : mL) (st : List Value) (σ : zS) : Option (Option Prop × Nat × mL × List Value × zS) := match st with
  | .int y :: .int x :: r => some (some (¬ y = 0), pc + 1, lv, .int (f x y) :: r, σ)
  | _ => none
def zDl (f : Int64 → Int64 → Int64) (pc : Nat) (lv : mL) (st : List Value) (σ : zS) : Option (Option Prop × Nat × mL × List Value × zS) := match st with
  | .long y :: .long x :: r => some (some (¬ y = 0), pc + 1, lv, .long (f x y) :: r, σ)
  | _ => none
/-- what is left: stack, locals, jumps without a question, constants -/
def zPl (e : mI) (pc : Nat) (lv : mL) (st : List Value) (σ : zS) : Option (Option Prop × Nat × mL × List Value × zS) := match mA e.1 st with
  | some st' => some (none, pc + mLen e.1, lv, st', σ)
  | none => match mB e.1 lv with
    | some v => some (none, pc + mLen e.1, lv, v :: st, σ)
    | none => match mD e.1 e.2.1 lv st with
      | some p => some (none, pc + mLen e.1, p.1, p.2, σ)
      | none => match e.1 with
        | .goto off => (match mTo pc off with
          | some q => some (none, q, lv, st, σ)
          | none => none)
        | .getstatic _ => some (none, pc + mLen e.1, lv, e.2.2.2.2 :: st, σ)
        | .ldc _ => some (none, pc + mLen e.1, lv, e.2.2.2.2 :: st, σ)
        | .ldc_w _ => some (none, pc + mLen e.1, lv, e.2.2.2.2 :: st, σ)
        | .ldc2_w _ => some (none, pc + mLen e.1, lv, e.2.2.2.2 :: st, σ)
        | _ => none
/-- System.arraycopy, Math.min, Math.max -/
def zCy (o3 pc : Nat) (lv : mL) (st : List Value) (σ : zS) : Option (Option Prop × Nat × mL × List Value × zS) := match o3 with
  | 2 => (match st with
    | .int y :: .int x :: r => some (none, pc + 3, lv, .int (if y < x then y else x) :: r, σ)
    | _ => none)
  | 3 => (match st with
    | .int y :: .int x :: r => some (none, pc + 3, lv, .int (if x < y then y else x) :: r, σ)
    | _ => none)
  | 4 => (match st with
    | [.int n, .int dp, .ref a, .int sp, .ref b] => (match zAk 0 a, zAk 0 b with
      | some n1, some n0 => some (some (mYr sp dp n n0 n1 = true), pc + 3, lv, [], zA σ (a - 158) (va_cpy (σ.2.2.1 (b - 158)) (σ.2.2.1 (a - 158)) sp.toNatClampNeg dp.toNatClampNeg n.toNatClampNeg))
      | _, _ => none)
    | _ => none)
  | 5 => (match st with
    | [.int n, .int dp, .ref a, .int sp, .ref b] => (match zAk 1 a, zAk 1 b with
      | some n1, some n0 => some (some (mYr sp dp n n0 n1 = true), pc + 3, lv, [], zB σ (a - 158) (va_cpy (σ.2.2.2.1 (b - 158)) (σ.2.2.2.1 (a - 158)) sp.toNatClampNeg dp.toNatClampNeg n.toNatClampNeg))
      | _, _ => none)
    | _ => none)
  | _ => none
def zLn (pc : Nat) (lv : mL) (st : List Value) (σ : zS) : Option (Option Prop × Nat × mL × List Value × zS) := match st with
  | .ref a :: r => (match Nat.blt 1 a && Nat.blt a 158 with
    | true => (match nCell 0 (fun _ => 0) a with
      | some (.inl (7, n, .inl _)) => some (none, pc + 1, lv, .int (Int32.ofNat n) :: r, σ)
      | some (.inl (6, n, .inr (.inr (.inr (.inr _))))) => some (none, pc + 1, lv, .int (Int32.ofNat n) :: r, σ)
      | _ => none)
    | false => match zAk 0 a with
      | some n => some (none, pc + 1, lv, .int (Int32.ofNat n) :: r, σ)
      | none => none)
  | _ => none
def zSt (e : mI) (pc : Nat) (lv : mL) (st : List Value) (σ : zS) : Option (Option Prop × Nat × mL × List Value × zS) := match e.1 with
  | .getfield _ => (match st with
    | .ref a :: r => (match zRf σ e.2.1 e.2.2.1 a with
      | some v => some (v.1, pc + 3, lv, v.2 :: r, σ)
      | none => none)
    | _ => none)
  | .putfield _ => (match st with
    | v :: .ref a :: r => (match zWf σ e.2.1 e.2.2.1 e.2.2.2.1 v a with
      | some p => some (p.1, pc + 3, lv, r, p.2)
      | none => none)
    | _ => none)
  | .iaload => (match zLi 0 pc lv st σ with
    | some z => some z
    | none => zLo 4 pc lv st σ)
  | .caload => zLi 2 pc lv st σ
  | .baload => (match zLi 3 pc lv st σ with
    | some z => some z
    | none => zLo 7 pc lv st σ)
  | .aaload => zLa pc lv st σ
  | .laload => zLl pc lv st σ
  | .iastore => zSi 0 pc (fun x => x) lv st σ
  | .castore => zSi 2 pc (vp_nar .char) lv st σ
  | .bastore => zSi 3 pc (vp_nar .boolean) lv st σ
  | .lastore => zSl pc lv st σ
  | .idiv => zDi (fun x y => x / y) pc lv st σ
  | .irem => zDi (fun x y => x - x / y * y) pc lv st σ
  | .ldiv => zDl (fun x y => x / y) pc lv st σ
  | .lrem => zDl (fun x y => x - x / y * y) pc lv st σ
  | .invokestatic _ => zCy e.2.2.2.1 pc lv st σ
  | .arraylength => zLn pc lv st σ
  | _ => zPl e pc lv st σ
def zRt (i : Instr) (st : List Value) : Option (Option Value) := match i with
  | .ireturn => (match st with
    | [.int x] => some (some (.int x))
    | _ => none)
  | .lreturn => (match st with
    | [.long x] => some (some (.long x))
    | _ => none)
  | .areturn => (match st with
    | [.ref x] => some (some (.ref x))
    | _ => none)
  | .return_ => (match st with
    | [] => some none
    | _ => none)
  | _ => none
def zCa (e : mI) (st : List Value) : Option (Nat × List Value × List Value) := match (mIv e.1 && Nat.beq e.2.2.2.1 0) && Nat.ble e.2.2.1 st.length with
  | true => some (e.2.1, (st.take e.2.2.1).reverse, st.drop e.2.2.1)
  | false => none
/-- a question: whether, where to if so, where to if not, the stack -/
def zBr (e : mI) (pc : Nat) (st : List Value) : Option (Bool × Nat × List Value) := match e.1 with
  | .ifCond c off => (match st with
    | .int x :: r => (mTo pc off).map (fun q => (mCnd c x 0, q, r))
    | _ => none)
  | .if_icmp c off => (match st with
    | .int y :: .int x :: r => (mTo pc off).map (fun q => (mCnd c x y, q, r))
    | _ => none)
  | .if_acmp .eq off => (match st with
    | .ref y :: .ref x :: r => (mTo pc off).map (fun q => (decide (x = y), q, r))
    | _ => none)
  | .if_acmp .ne off => (match st with
    | .ref y :: .ref x :: r => (mTo pc off).map (fun q => (decide (¬ x = y), q, r))
    | _ => none)
  | _ => none
/-- switches: one question behind the other -/
def tLk (l : List (Int × Int)) (d x : Int) (f : Int → Prop) : Prop := match l with
  | [] => f d
  | q :: r => (q.1 = x ∧ f q.2) ∨ (¬ q.1 = x ∧ tLk r d x f)
def tTs (l : List Int) (lo d x : Int) (f : Int → Prop) : Prop := match l with
  | [] => f d
  | o :: r => (lo = x ∧ f o) ∨ (¬ lo = x ∧ tTs r (lo + 1) d x f)
def zSw (e : mI) (st : List Value) : Option (((Int → Prop) → Prop) × List Value) := match e.1 with
  | .lookupswitch d ps => (match st with
    | .int x :: r => some (tLk ps.toList d x.toInt, r)
    | _ => none)
  | .tableswitch d lo hi offs => (match st with
    | .int x :: r => (match Nat.beq offs.toList.length (hi - lo + 1).toNat with
      | true => some (tTs offs.toList lo d x.toInt, r)
      | false => none)
    | _ => none)
  | _ => none
/-- one step, what comes behind it being ih -/
def tG (C : List (Option mI)) (O : Nat → List Value → zS → Option zCs) (cut : Nat → Bool) (K : Nat → Nat → mL → List Value → zS → Prop) (Q : zO → zS → Prop) (ih : Nat → Nat → mL → List Value → zS → Prop) : Nat → Nat → mL → List Value → zS → Prop := fun i pc lv st σ => match cut pc && Nat.blt 0 i with
    | true => K i pc lv st σ
    | false => match C[pc]? with
      | some (some e) => (match zRt e.1 st with
        | some v => Q (.inl v) σ
        | none => match mTh e with
          | some x => (match Nat.blt x 4 with
            | true => Q (.inr x) (zX σ x)
            | false => K i pc lv st σ)
          | none => match zCa e st with
            | some (ce, as, rest) => (match O ce as σ with
              | some cs => ∃ o σ', cs o σ' ∧ (match o with
                | .inl v => ih (i + 1) (pc + 3) lv (v.toList ++ rest) σ'
                | .inr x => Q (.inr x) σ')
              | none => K i pc lv st σ)
            | none => match zBr e pc st with
              | some (c, p, r) => (c = true ∧ ih (i + 1) p lv r σ) ∨ (c = false ∧ ih (i + 1) (pc + 3) lv r σ)
              | none => match zSw e st with
                | some (T, r) => T (fun off => match mTo pc off with
                  | some q => ih (i + 1) q lv r σ
                  | none => True)
                | none => match zSt e pc lv st σ with
                  | some (c, pc', lv', st', σ') => (match c with
                    | some p => p ∧ ih (i + 1) pc' lv' st' σ'
                    | none => ih (i + 1) pc' lv' st' σ')
                  | none => K i pc lv st σ)
      | _ => K i pc lv st σ
/-- by the recursor itself, so that the kernel sees what the elaborator sees -/
noncomputable def tF (C : List (Option mI)) (O : Nat → List Value → zS → Option zCs) (cut : Nat → Bool) (K : Nat → Nat → mL → List Value → zS → Prop) (Q : zO → zS → Prop) : Nat → Nat → Nat → mL → List Value → zS → Prop := fun j => Nat.rec (motive := fun _ => Nat → Nat → mL → List Value → zS → Prop) K (fun _ ih => tG C O cut K Q ih) j
theorem tF_s (C : List (Option mI)) (O : Nat → List Value → zS → Option zCs) (cut : Nat → Bool) (K : Nat → Nat → mL → List Value → zS → Prop) (Q : zO → zS → Prop) (j i pc : Nat) (lv : mL) (st : List Value) (σ : zS) : tF C O cut K Q (j + 1) i pc lv st σ = tG C O cut K Q (tF C O cut K Q j) i pc lv st σ := rfl
section TR
variable {k0 : Nat} {dflt : Nat → List Value} {P : Nat → Nat → Option mI} {Hn : Nat → List (Nat × Nat × Nat × Nat)} {dp : Nat} {call : Nat → List Value → mH → Option (mO × mH)}
theorem evF_inv {m mi pc : Nat} {lv : mL} {st : List Value} {h : mH} {e : mI} {r : mO × mH} (hp : P mi pc = some e) (hx : evF k0 dflt P Hn dp call (m + 1) mi pc lv st h = some r) : (∃ v, mRt e.1 e.2.1 st = some v ∧ r = (.inl v, h)) ∨ (mRt e.1 e.2.1 st = none ∧ ∃ x, mTh e = some x ∧ r = (.inr (x, h.length), h ++ [mEx x])) ∨ (mRt e.1 e.2.1 st = none ∧ mTh e = none ∧ ∃ ce as rest o h', mCl e st h = some (ce, as, rest) ∧ call ce as h = some (o, h') ∧ ((∃ v, o = .inl v ∧ evF k0 dflt P Hn dp call m mi (pc + 3) lv (v.toList ++ rest) h' = some r) ∨ (∃ x a, o = .inr (x, a) ∧ ((∃ hp, mHd (Hn mi) pc x = some hp) ∨ (mHd (Hn mi) pc x = none ∧ r = (.inr (x, a), h')))))) ∨ (mRt e.1 e.2.1 st = none ∧ mTh e = none ∧ mCl e st h = none ∧ ∃ q, mNx k0 dflt e pc lv st h = some q ∧ evF k0 dflt P Hn dp call m mi q.1 q.2.1 q.2.2.1 q.2.2.2 = some r) := by
  unfold evF at hx
  rw [hp] at hx
  dsimp only at hx
  split at hx
  · rename_i v h1
    cases hx
    exact Or.inl ⟨v, h1, rfl⟩
  · rename_i h1
    split at hx
    · rename_i x h2
      split at hx
      · cases hx
        exact Or.inr (Or.inl ⟨h1, x, h2, rfl⟩)
      · cases hx
    · rename_i h2
      split at hx
      · rename_i ce as rest h3
        refine Or.inr (Or.inr (Or.inl ⟨h1, h2, ?_⟩))
        split at hx
        · rename_i v h' h4
          exact ⟨ce, as, rest, _, h', h3, h4, Or.inl ⟨v, rfl, hx⟩⟩
        · rename_i x a h' h4
          refine ⟨ce, as, rest, _, h', h3, h4, Or.inr ⟨x, a, rfl, ?_⟩⟩
          split at hx
          · rename_i hp' h5
            exact Or.inl ⟨hp', h5⟩
          · rename_i h5
            split at hx
            · cases hx
              exact Or.inr ⟨h5, rfl⟩
            · cases hx
        · cases hx
      · rename_i h3
        split at hx
        · rename_i pc' lv' st' h' h4
          exact Or.inr (Or.inr (Or.inr ⟨h1, h2, h3, (pc', lv', st', h'), h4, hx⟩))
        · cases hx
end TR
