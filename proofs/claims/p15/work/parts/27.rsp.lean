/-! THE MACHINE WITH RANGES: a step, with calls, returns and throws -/
def rRt (fs : rF) (i : Instr) (o1 : Nat) (st : List Value) : Option (Option Value) := match i, st with
  | .ireturn, [v] => match rRg fs v with
    | some q => (match o1 with
      | 0 => some (some v)
      | 1 => if 0 ≤ q.1 ∧ q.2 ≤ 1 then some (some v) else none
      | 2 => if 0 ≤ q.1 ∧ q.2 ≤ 65535 then some (some v) else none
      | 3 => if -128 ≤ q.1 ∧ q.2 ≤ 127 then some (some v) else none
      | _ => none)
    | none => none
  | .lreturn, [v] => (rRl fs v).map (fun _ => some v)
  | .areturn, [.ref x] => some (some (.ref x))
  | .return_, [] => some none
  | _, _ => none
def rRx (i : Instr) : Bool := match i with
  | .ireturn => true
  | .lreturn => true
  | .areturn => true
  | .return_ => true
  | _ => false
def rRc (fs : rF) (i : Instr) (v : Value) (as : List Value) (h : rH) : Bool := match i with
  | .invokestatic _ => true
  | .invokespecial _ => match as with
    | .ref _ :: _ => true
    | _ => false
  | .invokevirtual _ => match as with
    | .ref b :: _ => match rGt h.1 b with
      | some (some (.inr (ci, _))) => match v with
        | .retAddr k => ci == k && decide (ci < 1000)
        | _ => false
      | _ => false
    | .retAddr j :: _ => match fs[j]?, v with
      | some q, .retAddr k => decide (0 ≤ q.1) && ((List.range (q.2 - q.1 + 1).toNat).all (fun (t : Nat) => match rGt h.1 (q.1.toNat + t) with
        | some (some (.inr (ci, _))) => ci == k && decide (ci < 1000)
        | _ => false))
      | _, _ => false
    | _ => false
  | _ => false
def rTl (fs : rF) (v : Value) : Option Value := match v with
  | .float b => rPlus fs (.float b) 1
  | .int x => if x.toInt < 1000000 then some (.int (x + 1)) else none
  | _ => none
def rAf (Hn : Nat → List (Nat × Nat × Nat × Nat)) (mi pc : Nat) (lv : mL) (rest : List Value) (r : rR) : Option (rT ⊕ rR) := match r with
  | (fs, .inl v, h) => if fs.length < 50000 then some (.inl (fs, pc + 3, lv, v.toList ++ rest, h)) else none
  | (fs, .inr x, h) => match mHd (Hn mi) pc x with
    | some hp => match rRg fs h.2 with
      | some q => if fs.length < 50000 then some (.inl (fs ++ [(0, 206 + q.2)], hp, lv, [.retAddr fs.length], h)) else none
      | none => none
    | none => if (Hn mi).isEmpty = true then some (.inr (fs, .inr x, h)) else none
def rMap {α β : Type} (f : α → Option β) : List α → Option (List β)
  | [] => some []
  | a :: r => match f a with
    | none => none
    | some b => match rMap f r with
      | none => none
      | some l => some (b :: l)
def rSp (k0 : Nat) (P : Nat → Nat → Option mI) (Hn : Nat → List (Nat × Nat × Nat × Nat)) (dp : Nat) (call : Nat → List Value → rF → rH → Option (List rR)) (mi : Nat) (s : rT) : Option (List (rT ⊕ rR)) :=
  match P mi s.2.1 with
  | none => none
  | some e => if rRx e.1 = true then (match rRt s.1 e.1 e.2.1 s.2.2.2.1 with
      | some v => some [.inr (s.1, .inl v, s.2.2.2.2)]
      | none => none) else
    match mTh e with
    | some x => if 7 ≤ dp ∧ s.2.2.2.1.isEmpty = true then (rTl s.1 s.2.2.2.2.2).map (fun t => [.inr (s.1, .inr x, (s.2.2.2.2.1, t))]) else none
    | none => if mIv e.1 = true ∧ e.2.2.2.1 = 0 then
        (if e.2.2.1 ≤ s.2.2.2.1.length ∧ ((s.2.2.2.1.drop e.2.2.1).map fun v => v.category).sum ≤ 8 ∧ rRc s.1 e.1 e.2.2.2.2 (s.2.2.2.1.take e.2.2.1).reverse s.2.2.2.2 = true then
          (match call e.2.1 (s.2.2.2.1.take e.2.2.1).reverse s.1 s.2.2.2.2 with
            | some rs => rMap (rAf Hn mi s.2.1 s.2.2.1 (s.2.2.2.1.drop e.2.2.1)) rs
            | none => none) else none)
      else match rNx k0 e s.1 s.2.1 s.2.2.1 s.2.2.2.1 s.2.2.2.2 with
        | some l => some (l.map Sum.inl)
        | none => none
/-- what a method answers, and what is told of it: a thrown object lies within the heap -/
def rOut (ρ : List Int) (o : rO) (oc : mO) (hc : mH) : Prop := match o with
  | .inl none => oc = .inl none
  | .inl (some v) => ∃ c, rE ρ v = some c ∧ oc = .inl (some c)
  | .inr x => ∃ a, a < hc.length ∧ oc = .inr (x, a)
section RS
variable {ρ : List Int} {c0 : mH}
theorem rRt_ok {fs : rF} (hO : rOk ρ fs) {i : Instr} {o1 : Nat} {st stc : List Value} {v : Option Value} (hs : rEs ρ st = some stc) (h : rRt fs i o1 st = some v) (hc : mH) : ∃ oc, mRt i o1 stc = some oc ∧ rOut ρ (.inl v) (.inl oc) hc := by
  unfold rRt at h
  split at h
  · rename_i w
    obtain ⟨c, rc, h1, h2, rfl⟩ := rEs_cons hs
    cases h2
    split at h
    · rename_i q hq
      obtain ⟨x, rfl, x1, x2⟩ := rRg_ok hO hq h1
      split at h
      · cases h
        exact ⟨_, rfl, _, h1, rfl⟩
      · split at h
        · rename_i hb
          cases h
          have : x = 0 ∨ x = 1 := by
            by_cases h0 : x.toInt = 0
            · exact Or.inl (Int32.toInt_inj.mp h0)
            · exact Or.inr (Int32.toInt_inj.mp (show x.toInt = 1 by omega))
          exact ⟨_, if_pos this, _, h1, rfl⟩
        · cases h
      · split at h
        · rename_i hb
          cases h
          exact ⟨_, if_pos (rCh_same ⟨by omega, by omega⟩), _, h1, rfl⟩
        · cases h
      · split at h
        · rename_i hb
          cases h
          exact ⟨_, if_pos (rBy_same ⟨by omega, by omega⟩), _, h1, rfl⟩
        · cases h
      · cases h
    · cases h
  · rename_i w
    obtain ⟨c, rc, h1, h2, rfl⟩ := rEs_cons hs
    cases h2
    cases hq : rRl fs w with
    | none => rw [hq] at h; cases h
    | some q =>
      rw [hq] at h
      cases h
      obtain ⟨x, rfl, x1, x2⟩ := rRl_ok hO hq h1
      exact ⟨_, rfl, _, h1, rfl⟩
  · cases h
    cases hs
    exact ⟨_, rfl, _, rfl, rfl⟩
  · cases h
    cases hs
    exact ⟨_, rfl, rfl⟩
  · cases h
theorem rRx_no {i : Instr} (h : ¬ rRx i = true) (o1 : Nat) (st : List Value) : mRt i o1 st = none := by
  cases i <;> first | rfl | exact absurd rfl h
theorem rRc_ok {fs : rF} (hO : rOk ρ fs) {h : rH} {hc : mH} (hh : rHr c0 ρ h hc) {i : Instr} {v : Value} {as asc : List Value} (ha : rEs ρ as = some asc) (hr : rRc fs i v as h = true) : mRc i v asc hc = true := by
  cases i <;> simp only [rRc, reduceCtorEq] at hr
  case invokestatic ix => rfl
  case invokespecial ix =>
    split at hr
    · obtain ⟨c, rc, h1, h2, rfl⟩ := rEs_cons ha
      cases h1
      rfl
    · cases hr
  case invokevirtual ix =>
    split at hr
    · rename_i b r
      obtain ⟨c, rc, h1, h2, rfl⟩ := rEs_cons ha
      cases h1
      split at hr
      · rename_i ci gs hq
        split at hr
        · rename_i k
          obtain ⟨cc, c1, c2⟩ := hh.2.1 _ _ hq
          rw [Bool.and_eq_true, decide_eq_true_eq] at hr
          obtain ⟨g, e1, e2⟩ := c2.obj hr.2
          rw [e2] at c1
          show (match hc[b]? with
            | some (some (.inr (ci, _))) => ci == k
            | _ => false) = true
          rw [c1]
          exact hr.1
        · cases hr
      · cases hr
    · rename_i j r
      obtain ⟨c, rc, h1, h2, rfl⟩ := rEs_cons ha
      split at hr
      · rename_i q k hq
        rw [Bool.and_eq_true, decide_eq_true_eq] at hr
        obtain ⟨z, z1, z2, z3⟩ := hO.2.1 _ _ hq
        rw [rE_r, z1] at h1
        cases h1
        have h3 := List.all_eq_true.mp hr.2 (z - q.1).toNat (List.mem_range.mpr (by omega))
        have e0 : q.1.toNat + (z - q.1).toNat = z.toNat := by omega
        rw [e0] at h3
        split at h3
        · rename_i ci gs hcell
          obtain ⟨cc, c1, c2⟩ := hh.2.1 _ _ hcell
          rw [Bool.and_eq_true, decide_eq_true_eq] at h3
          obtain ⟨g, e1, e2⟩ := c2.obj h3.2
          rw [e2] at c1
          show (match hc[z.toNat]? with
            | some (some (.inr (ci, _))) => ci == k
            | _ => false) = true
          rw [c1]
          exact h3.1
        · cases h3
      · cases hr
    · cases hr
end RS
