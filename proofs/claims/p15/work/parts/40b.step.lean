/-! STEPS ONE BEHIND THE OTHER -/
def eS (k0 : Nat) (dflt : Nat → List Value) (e : mI) (pc : Nat) (lv : mL) (st : List Value) (h : mH) : Option (Nat × mL × List Value × mH) := match mRt e.1 e.2.1 st with
  | some _ => none
  | none => match mTh e with
    | some _ => none
    | none => match mCl e st h with
      | some _ => none
      | none => mNx k0 dflt e pc lv st h
def eR (k0 : Nat) (dflt : Nat → List Value) (C : List (Option mI)) : Nat → Nat → mL → List Value → mH → Option (Nat × mL × List Value × mH)
  | 0, pc, lv, st, h => some (pc, lv, st, h)
  | n + 1, pc, lv, st, h => match C[pc]? with
    | some (some e) => match eS k0 dflt e pc lv st h with
      | some q => eR k0 dflt C n q.1 q.2.1 q.2.2.1 q.2.2.2
      | none => none
    | _ => none
/-- whatever comes from there comes from here -/
def eW (E : Nat → Nat → mL → List Value → mH → Option (mO × mH)) (pc : Nat) (lv : mL) (st : List Value) (h : mH) (pc' : Nat) (lv' : mL) (st' : List Value) (h' : mH) : Prop := ∀ r, (∃ n, E n pc' lv' st' h' = some r) → ∃ n, E n pc lv st h = some r
theorem eW.trans {E : Nat → Nat → mL → List Value → mH → Option (mO × mH)} {a b c : Nat} {l1 l2 l3 : mL} {s1 s2 s3 : List Value} {h1 h2 h3 : mH} (x : eW E a l1 s1 h1 b l2 s2 h2) (y : eW E b l2 s2 h2 c l3 s3 h3) : eW E a l1 s1 h1 c l3 s3 h3 := fun r hr => x r (y r hr)
section ST
variable {k0 : Nat} {dflt : Nat → List Value} {P : Nat → Nat → Option mI} {Hn : Nat → List (Nat × Nat × Nat × Nat)} {dp : Nat} {call : Nat → List Value → mH → Option (mO × mH)}
theorem evF_e {n mi pc : Nat} {lv : mL} {st : List Value} {h : mH} {e : mI} {q : Nat × mL × List Value × mH} (hp : P mi pc = some e) (hs : eS k0 dflt e pc lv st h = some q) : evF k0 dflt P Hn dp call (n + 1) mi pc lv st h = evF k0 dflt P Hn dp call n mi q.1 q.2.1 q.2.2.1 q.2.2.2 := by
  unfold eS at hs
  split at hs
  · cases hs
  · rename_i h1
    split at hs
    · cases hs
    · rename_i h2
      split at hs
      · cases hs
      · rename_i h3
        obtain ⟨a, b, c, d⟩ := q
        conv => lhs; unfold evF
        simp only [hp, h1, h2, h3, hs]
theorem evF_r {C : List (Option mI)} {mi : Nat} (hC : ∀ pc e, C[pc]? = some (some e) → P mi pc = some e) : ∀ (j n : Nat) {pc : Nat} {lv : mL} {st : List Value} {h : mH} {q : Nat × mL × List Value × mH}, eR k0 dflt C j pc lv st h = some q → evF k0 dflt P Hn dp call (n + j) mi pc lv st h = evF k0 dflt P Hn dp call n mi q.1 q.2.1 q.2.2.1 q.2.2.2
  | 0, n, pc, lv, st, h, q, hr => by
    cases hr
    rfl
  | j + 1, n, pc, lv, st, h, q, hr => by
    unfold eR at hr
    split at hr
    · rename_i e he
      split at hr
      · rename_i q1 h1
        rw [show n + (j + 1) = (n + j) + 1 from rfl, evF_e (hC _ _ he) h1]
        exact evF_r hC j n hr
      · cases hr
    · cases hr
theorem eW.e {mi pc : Nat} {lv : mL} {st : List Value} {h : mH} {e : mI} {q : Nat × mL × List Value × mH} (hp : P mi pc = some e) (hs : eS k0 dflt e pc lv st h = some q) : eW (fun n => evF k0 dflt P Hn dp call n mi) pc lv st h q.1 q.2.1 q.2.2.1 q.2.2.2 := fun r ⟨n, hr⟩ => ⟨n + 1, (evF_e hp hs).trans hr⟩
theorem eW.r {C : List (Option mI)} {mi : Nat} (hC : ∀ pc e, C[pc]? = some (some e) → P mi pc = some e) (j : Nat) {pc : Nat} {lv : mL} {st : List Value} {h : mH} {q : Nat × mL × List Value × mH} (hr : eR k0 dflt C j pc lv st h = some q) : eW (fun n => evF k0 dflt P Hn dp call n mi) pc lv st h q.1 q.2.1 q.2.2.1 q.2.2.2 := fun r ⟨n, hx⟩ => ⟨n + j, (evF_r hC j n hr).trans hx⟩
theorem eW.lv {mi pc : Nat} {a b : mL} {st : List Value} {h : mH} (hs : rSubl a b) : eW (fun n => evF k0 dflt P Hn dp call n mi) pc b st h pc a st h := fun r ⟨n, hr⟩ => ⟨n, evF_lv n hs hr⟩
theorem eW.icmp {mi pc pc' : Nat} {lv : mL} {c : ClassFile.Cond} {off : Int} {o : Nat × Nat × Nat × Value} {x y : Int32} {r r' : List Value} {h : mH} (hp : P mi pc = some (.if_icmp c off, o)) {b : Bool} (hb : mCnd c x y = b) (hm : mBr b pc off r = some (pc', r')) : eW (fun n => evF k0 dflt P Hn dp call n mi) pc lv (.int y :: .int x :: r) h pc' lv r' h := by
  have e1 : mJ (.if_icmp c off) pc (.int y :: .int x :: r) = some (pc', r') := by
    show mBr (mCnd c x y) pc off r = _
    rw [hb, hm]
  have e2 : eS k0 dflt (.if_icmp c off, o) pc lv (.int y :: .int x :: r) h = some (pc', lv, r', h) := by
    simp [eS, mRt, mTh, mNw, mCl, mIv, mNx, mA, mB, mD, e1]
  exact eW.e hp e2
theorem eW.cond {mi pc pc' : Nat} {lv : mL} {c : ClassFile.Cond} {off : Int} {o : Nat × Nat × Nat × Value} {x : Int32} {r r' : List Value} {h : mH} (hp : P mi pc = some (.ifCond c off, o)) {b : Bool} (hb : mCnd c x 0 = b) (hm : mBr b pc off r = some (pc', r')) : eW (fun n => evF k0 dflt P Hn dp call n mi) pc lv (.int x :: r) h pc' lv r' h := by
  have e1 : mJ (.ifCond c off) pc (.int x :: r) = some (pc', r') := by
    show mBr (mCnd c x 0) pc off r = _
    rw [hb, hm]
  have e2 : eS k0 dflt (.ifCond c off, o) pc lv (.int x :: r) h = some (pc', lv, r', h) := by
    simp [eS, mRt, mTh, mNw, mCl, mIv, mNx, mA, mB, mD, e1]
  exact eW.e hp e2
theorem eW_call {mi pc : Nat} {lv : mL} {e : mI} {st as rest : List Value} {h h' : mH} {ce : Nat} {v : Option Value} (hp : P mi pc = some e) (h1 : mRt e.1 e.2.1 st = none) (h2 : mTh e = none) (h3 : mCl e st h = some (ce, as, rest)) (hc : call ce as h = some (.inl v, h')) : eW (fun n => evF k0 dflt P Hn dp call n mi) pc lv st h (pc + 3) lv (v.toList ++ rest) h' := by
  intro r ⟨n, hr⟩
  refine ⟨n + 1, ?_⟩
  show evF k0 dflt P Hn dp call (n + 1) mi pc lv st h = some r
  conv => lhs; unfold evF
  simp only [hp, h1, h2, h3, hc]
  exact hr
end ST
theorem mP'_ok {cods : Nat → List (Option mI)} {mi : Nat} {C : List (Option mI)} (hC : cods mi = C) : ∀ (pc : Nat) (e : mI), C[pc]? = some (some e) → mP' cods mi pc = some e := by
  intro pc e he
  unfold mP'
  rw [hC, he]
