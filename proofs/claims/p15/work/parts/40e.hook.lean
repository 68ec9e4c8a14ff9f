/-! THE JUMPS AND CALLS THAT KNOW A WRITE'S CHARACTERS -/
def nMxx' : Nat → Nat := fun i => (nMt i).2.2.1
def nWin (h : List rC) : Option (List Value) := match rGt h 0 with
  | some (some (.inr (1002, gs))) => some gs
  | _ => none
/-- areCharacters of the eight characters of the call at hand -/
def nOr1 (ce : Nat) (as : List Value) (fs : rF) (h : rH) : Option (List rR) := if ce = 56 then (match as, nWin h.1 with
  | [.double e, nv], some [_, _, _, _, _, _, _, .double e', gb] => if e = e' then (match rRg fs nv, rRg fs gb with
    | some q, some _ => if q.1 = q.2 ∧ 1 ≤ q.1 ∧ q.1 ≤ 8 then some ((match rCut fs gb q.1 8 with
      | some g => [(g, .inl (some (.int 1)), h)]
      | none => []) ++ (match rCut fs gb 0 (q.1 - 1) with
      | some g => [(g, .inl (some (.int 0)), h)]
      | none => [])) else none
    | _, _ => none) else none
  | _, _ => none) else none
def nJ4l (lv : mL) : mL := match mLd lv 5 with
  | some v => [(5, v)]
  | none => []
/-- the law's eight characters: 22 bytes of code from 109, 144 on -/
def nJ4 (mi : Nat) (s : rT) : Option rT := if mi = 0 ∧ (s.2.1 = 109 ∨ s.2.1 = 144) then (match mLd s.2.2.1 0, mLd s.2.2.1 1, mLd s.2.2.1 2, mLd s.2.2.1 3, mLd s.2.2.1 4, nWin s.2.2.2.2.1 with
  | some (.ref 0), some v1, some v2, some v3, some iv, some [_, b, _, _, _, _, _, e, _] => if rQ s.1 iv b = true ∧ (rRg s.1 b).isSome = true then some (s.1, s.2.1 + 22, (0, .ref 0) :: (1, v1) :: (2, v2) :: (3, v3) :: (4, iv) :: nJ4l s.2.2.1, e :: s.2.2.2.1, s.2.2.2.2) else none
  | _, _, _, _, _, _ => none) else none
/-- the reference's loop over the characters -/
def nJ5 (mi : Nat) (s : rT) : Option rT := if mi = 4 ∧ s.2.1 = 27 ∧ s.2.2.2.1.isEmpty = true then (match mLd s.2.2.1 0, mLd s.2.2.1 1, mLd s.2.2.1 3, mLd s.2.2.1 4, mLd s.2.2.1 5, nWin s.2.2.2.2.1 with
  | some v0, some (.double e), some nv, some (.int g), some (.int j), some [_, _, _, _, _, _, _, .double e', gb] => if e = e' ∧ g = 1 ∧ j = 0 then (match rRg s.1 nv, rRg s.1 gb with
    | some q, some p => if q.1 = q.2 ∧ 1 ≤ q.1 ∧ q.1 ≤ 8 then (if q.1 ≤ p.1 then some (s.1, 84, [(4, .int 1), (0, v0), (1, .double e), (3, nv)], [], s.2.2.2.2) else if p.2 < q.1 then some (s.1, 84, [(4, .int 0), (0, v0), (1, .double e), (3, nv)], [], s.2.2.2.2) else none) else none
    | _, _ => none) else none
  | _, _, _, _, _, _ => none) else none
/-- a write's answer goes into the array out -/
def nJ7 (mi : Nat) (s : rT) : Option rT := if mi = 3 ∧ s.2.1 = 9 then (match s.2.2.2.1, rGt s.2.2.2.2.1 205 with
  | [v, .int z, .ref 205], some (some (.inl (1, 1, _, _))) => if z = 0 ∧ (rRg s.1 v).isSome = true then some (s.1, 11, s.2.2.1, [], (s.2.2.2.2.1.set (rX' 205) (some (.inr (1004, [v]))), s.2.2.2.2.2)) else none
  | _, _ => none) else none
/-- out[0] is the reference's answer -/
def nJ8 (_ : Nat) (_ : rT) : Option rT := none
def nJ1 (dd mi k : Nat) (s : rT) : Option rT := match k with
  | 4 => nJ4 mi s
  | 5 => if 2 ≤ dd then nJ5 mi s else none
  | 7 => nJ7 mi s
  | 8 => nJ8 mi s
  | k => rMisc 190 201 183 37 k s
section HK
variable {ρ : List Int} {fs : rF} {c0 : mH}
theorem nWin_ok {h : rH} {hc : mH} (hh : rHr c0 ρ h hc) {a0 a1 a2 a3 a4 a5 a6 a7 a8 : Value} (hw : nWin h.1 = some [a0, a1, a2, a3, a4, a5, a6, a7, a8]) : ∃ (L : Nat) (f : Nat → Int32) (b : Int32), hc[0]? = some (some (.inl (4, L, .inl f))) ∧ L ≤ 10000 ∧ 0 ≤ b.toInt ∧ b.toInt + 5 ≤ L ∧ rE ρ a0 = some (.int (Int32.ofNat L)) ∧ rE ρ a1 = some (.int b) ∧ rE ρ a7 = some (.long (((f (b.toInt.toNat + 1)).toInt64 <<< 32) ||| ((f (b.toInt.toNat + 2)).toInt64 &&& 4294967295))) ∧ rE ρ a8 = some (.int (Int32.ofNat (rGb (((f (b.toInt.toNat + 1)).toInt64 <<< 32) ||| ((f (b.toInt.toNat + 2)).toInt64 &&& 4294967295))))) := by
  unfold nWin at hw
  split at hw
  · rename_i gs hg
    cases hw
    obtain ⟨c, c1, g, g1, g2⟩ := hh.2.1 _ _ hg
    obtain ⟨L, f, b, x0, x1, x2, x3, x4, f1, f2, f3, f4, e0, e1, e2, e3, e4, rfl⟩ := rOb_2 g2
    obtain ⟨_, l0, r0, g1, q⟩ := rEs_cons g1; cases q
    obtain ⟨_, l1, r1, g1, q⟩ := rEs_cons g1; cases q
    obtain ⟨_, l2, r2, g1, q⟩ := rEs_cons g1; cases q
    obtain ⟨_, l3, r3, g1, q⟩ := rEs_cons g1; cases q
    obtain ⟨_, l4, r4, g1, q⟩ := rEs_cons g1; cases q
    obtain ⟨_, l5, r5, g1, q⟩ := rEs_cons g1; cases q
    obtain ⟨_, l6, r6, g1, q⟩ := rEs_cons g1; cases q
    obtain ⟨_, l7, r7, g1, q⟩ := rEs_cons g1; cases q
    obtain ⟨_, l8, r8, g1, q⟩ := rEs_cons g1; cases q
    rw [f1] at c1
    refine ⟨L, f, b, c1, f2, f3, f4, r0, r1, ?_, ?_⟩
    · rw [e1, e2]; exact r7
    · rw [e1, e2]; exact r8
  · cases hw
theorem rG8 {n : Nat} (h : n ≤ 8) : (Int32.ofNat n).toInt = n := by
  have key : ∀ n : Fin 9, (Int32.ofNat n.val).toInt = (n.val : Int) := by decide
  exact key ⟨n, by omega⟩
theorem rK8 {x : Int32} {q : Int × Int} (h1 : q.1 ≤ x.toInt) (h2 : x.toInt ≤ q.2) (h : q.1 = q.2 ∧ 1 ≤ q.1 ∧ q.1 ≤ 8) : ∃ k : Nat, x = Int32.ofNat k ∧ (k : Int) = q.1 ∧ 1 ≤ k ∧ k ≤ 8 := by
  refine ⟨q.1.toNat, ?_, by omega, by omega, by omega⟩
  apply Int32.toInt_inj.mp
  rw [rG8 (by omega)]
  omega
theorem nOr1_ok {v5 : Value} (d : Nat) {ce : Nat} {as asc : List Value} {h : rH} {rs : List rR} {hc : mH} (hx : nOr1 ce as fs h = some rs) (hO : rOk ρ fs) (ha : rEs ρ as = some asc) (hh : rHr c0 ρ h hc) : ∃ r ∈ rs, ∃ ex, rOk (ρ ++ ex) r.1 ∧ ∃ oc hc', rOut (ρ ++ ex) r.2.1 oc hc' ∧ rHr c0 (ρ ++ ex) r.2.2 hc' ∧ ∃ n, evM 158 nDflt (mP' (nCodw v5)) nHn nMxx' (d + 1) n ce asc hc = some (oc, hc') := by
  unfold nOr1 at hx
  split at hx
  · rename_i hce
    subst hce
    split at hx
    · rename_i e nv a0 a1 a2 a3 a4 a5 a6 e' gb hw
      split at hx
      · rename_i he
        subst he
        split at hx
        · rename_i q p hq hp
          split at hx
          · rename_i hb
            cases hx
            obtain ⟨L, f, b, w1, w2, w3, w4, w5, w6, w7, w8⟩ := nWin_ok hh hw
            generalize ((f (b.toInt.toNat + 1)).toInt64 <<< 32) ||| ((f (b.toInt.toNat + 2)).toInt64 &&& 4294967295) = E at w7 w8
            obtain ⟨_, l, e1, e2, rfl⟩ := rEs_cons ha
            obtain ⟨_, l2, e3, e4, rfl⟩ := rEs_cons e2
            cases e4
            rw [w7] at e1
            cases e1
            obtain ⟨x, rfl, x1, x2⟩ := rRg_ok hO hq e3
            obtain ⟨k, rfl, k1, k2, k3⟩ := rK8 x1 x2 hb
            obtain ⟨n, hn⟩ := cA (dflt := nDflt) (cods := nCodw v5) (Hn := nHn) (E := E) (h := hc) nMxx' rfl rfl k3 d
            have hv := rVal_i hO hp w8
            rw [rG8 (rGb_le E)] at hv
            have h8 := rGb_le E
            have same : rOk (ρ ++ []) fs → rHr c0 (ρ ++ []) h hc := fun _ => by rw [List.append_nil]; exact hh
            by_cases hk : k ≤ rGb E
            · rw [if_pos hk] at hn
              obtain ⟨g, g1, g2⟩ := rCut_ok (lo := q.1) (hi := 8) hO hv (by omega) (by omega)
              refine ⟨(g, .inl (some (.int 1)), h), List.mem_append_left _ (by rw [g1]; exact List.mem_cons_self), [], by rw [List.append_nil]; exact g2, .inl (some (.int 1)), hc, ⟨_, rfl, rfl⟩, by rw [List.append_nil]; exact hh, n, hn⟩
            · rw [if_neg hk] at hn
              obtain ⟨g, g1, g2⟩ := rCut_ok (lo := 0) (hi := q.1 - 1) hO hv (by omega) (by omega)
              refine ⟨(g, .inl (some (.int 0)), h), List.mem_append_right _ (by rw [g1]; exact List.mem_cons_self), [], by rw [List.append_nil]; exact g2, .inl (some (.int 0)), hc, ⟨_, rfl, rfl⟩, by rw [List.append_nil]; exact hh, n, hn⟩
          · cases hx
        · cases hx
      · cases hx
    · cases hx
  · cases hx
end HK
section HJ
variable {ρ : List Int} {c0 : mH} {dp : Nat} {call : Nat → List Value → mH → Option (mO × mH)} {v5 : Value}
theorem eS_ial {k0 : Nat} {dflt : Nat → List Value} {o : Nat × Nat × Nat × Value} {pc a L : Nat} {lv : mL} {r : List Value} {h : mH} {f : Nat → Int32} {i : Int32} (hc : h[a]? = some (some (.inl (4, L, .inl f)))) (hi : mIn i L = true) : eS k0 dflt (.iaload, o) pc lv (.int i :: .ref a :: r) h = some (pc + 1, lv, .int (f i.toNatClampNeg) :: r, h) := by
  have e1 : mG .iaload o.1 o.2.1 o.2.2.2 (.int i :: .ref a :: r) h = some (.int (f i.toNatClampNeg) :: r) := rGi_k (Or.inr rfl) hc hi
  simp [eS, mRt, mTh, mNw, mCl, mIv, mNx, mA, mB, mD, mJ, e1, mLen]
/-- a place of the script -/
theorem cIn {b : Int32} {L j : Nat} (h0 : 0 ≤ b.toInt) (h5 : b.toInt + 5 ≤ L) (hL : L ≤ 10000) (hj : j < 5) : mIn (b + Int32.ofInt j) L = true ∧ (b + Int32.ofInt j).toNatClampNeg = b.toInt.toNat + j := by
  have e0 : (Int32.ofInt j).toInt = j := rInt (by unfold rI0; omega) (by unfold rI1; omega)
  have e1 : (b + Int32.ofInt j).toInt = b.toInt + j := by
    rw [rAdd_ok (by rw [e0]; unfold rI0; omega) (by rw [e0]; unfold rI1; omega), e0]
  have e2 : (b + Int32.ofInt j).toNatClampNeg = (b + Int32.ofInt j).toInt.toNat := rfl
  refine ⟨?_, by rw [e2, e1]; omega⟩
  unfold mIn
  rw [Bool.and_eq_true, Bool.not_eq_true', decide_eq_false_iff_not, decide_eq_true_eq, Int32.lt_iff_toInt_lt, e2, e1]
  have z : (0 : Int32).toInt = 0 := rfl
  rw [z]
  omega
def cL5 (c1 c2 c3 : Value) (x : Int32) : mL := [(0, .ref 0), (1, c1), (2, c2), (3, c3), (4, .int x)]
def cL6 (c1 c2 c3 : Value) (x : Int32) (E : mL) : mL := (0, .ref 0) :: (1, c1) :: (2, c2) :: (3, c3) :: (4, .int x) :: E
set_option maxRecDepth 4000 in
theorem cEight {c1 c2 c3 : Value} {x : Int32} {E : mL} {stc : List Value} {h : mH} {L : Nat} {f : Nat → Int32} (hc : h[0]? = some (some (.inl (4, L, .inl f)))) (hL : L ≤ 10000) (h0 : 0 ≤ x.toInt) (h5 : x.toInt + 5 ≤ L) {pc : Nat} (hpc : pc = 109 ∨ pc = 144) : eW (fun n => evF 158 nDflt (mP' (nCodw v5)) nHn dp call n 0) pc (cL6 c1 c2 c3 x E) stc h (pc + 22) (cL6 c1 c2 c3 x E) (.long (((f (x.toInt.toNat + 1)).toInt64 <<< 32) ||| ((f (x.toInt.toNat + 2)).toInt64 &&& 4294967295)) :: stc) h := by
  have hC : nCodw v5 0 = nC0 := rfl
  obtain ⟨i1, n1⟩ := cIn (j := 1) h0 h5 hL (by omega)
  obtain ⟨i2, n2⟩ := cIn (j := 2) h0 h5 hL (by omega)
  have n32 : ((Int8.ofInt 32).toInt32.toInt64 &&& 63) = 32 := by decide
  rw [← n1, ← n2, ← n32]
  rcases hpc with rfl | rfl
  · have s1 := eW.r (k0 := 158) (dflt := nDflt) (Hn := nHn) (dp := dp) (call := call) (mP'_ok hC) 4 (show eR 158 nDflt nC0 4 109 (cL6 c1 c2 c3 x E) stc h = some (114, cL6 c1 c2 c3 x E, .int (x + Int32.ofInt 1) :: .ref 0 :: stc, h) from rfl)
    have s2 := eW.e (k0 := 158) (dflt := nDflt) (Hn := nHn) (dp := dp) (call := call) (mP'_ok hC 114 _ rfl) (eS_ial (k0 := 158) (dflt := nDflt) (o := (0, 0, 0, .null)) (pc := 114) (lv := cL6 c1 c2 c3 x E) (r := stc) hc i1)
    have s3 := eW.r (k0 := 158) (dflt := nDflt) (Hn := nHn) (dp := dp) (call := call) (mP'_ok hC) 7 (show eR 158 nDflt nC0 7 115 (cL6 c1 c2 c3 x E) (.int (f (x + Int32.ofInt 1).toNatClampNeg) :: stc) h = some (124, cL6 c1 c2 c3 x E, .int (x + Int32.ofInt 2) :: .ref 0 :: .long ((f (x + Int32.ofInt 1).toNatClampNeg).toInt64 <<< ((Int8.ofInt 32).toInt32.toInt64 &&& 63)) :: stc, h) from rfl)
    have s4 := eW.e (k0 := 158) (dflt := nDflt) (Hn := nHn) (dp := dp) (call := call) (mP'_ok hC 124 _ rfl) (eS_ial (k0 := 158) (dflt := nDflt) (o := (0, 0, 0, .null)) (pc := 124) (lv := cL6 c1 c2 c3 x E) (r := .long ((f (x + Int32.ofInt 1).toNatClampNeg).toInt64 <<< ((Int8.ofInt 32).toInt32.toInt64 &&& 63)) :: stc) hc i2)
    have s5 := eW.r (k0 := 158) (dflt := nDflt) (Hn := nHn) (dp := dp) (call := call) (mP'_ok hC) 4 (show eR 158 nDflt nC0 4 125 (cL6 c1 c2 c3 x E) (.int (f (x + Int32.ofInt 2).toNatClampNeg) :: .long ((f (x + Int32.ofInt 1).toNatClampNeg).toInt64 <<< ((Int8.ofInt 32).toInt32.toInt64 &&& 63)) :: stc) h = some (131, cL6 c1 c2 c3 x E, .long (((f (x + Int32.ofInt 1).toNatClampNeg).toInt64 <<< ((Int8.ofInt 32).toInt32.toInt64 &&& 63)) ||| ((f (x + Int32.ofInt 2).toNatClampNeg).toInt64 &&& 4294967295)) :: stc, h) from rfl)
    exact (((s1.trans s2).trans s3).trans s4).trans s5
  · have s1 := eW.r (k0 := 158) (dflt := nDflt) (Hn := nHn) (dp := dp) (call := call) (mP'_ok hC) 4 (show eR 158 nDflt nC0 4 144 (cL6 c1 c2 c3 x E) stc h = some (149, cL6 c1 c2 c3 x E, .int (x + Int32.ofInt 1) :: .ref 0 :: stc, h) from rfl)
    have s2 := eW.e (k0 := 158) (dflt := nDflt) (Hn := nHn) (dp := dp) (call := call) (mP'_ok hC 149 _ rfl) (eS_ial (k0 := 158) (dflt := nDflt) (o := (0, 0, 0, .null)) (pc := 149) (lv := cL6 c1 c2 c3 x E) (r := stc) hc i1)
    have s3 := eW.r (k0 := 158) (dflt := nDflt) (Hn := nHn) (dp := dp) (call := call) (mP'_ok hC) 7 (show eR 158 nDflt nC0 7 150 (cL6 c1 c2 c3 x E) (.int (f (x + Int32.ofInt 1).toNatClampNeg) :: stc) h = some (159, cL6 c1 c2 c3 x E, .int (x + Int32.ofInt 2) :: .ref 0 :: .long ((f (x + Int32.ofInt 1).toNatClampNeg).toInt64 <<< ((Int8.ofInt 32).toInt32.toInt64 &&& 63)) :: stc, h) from rfl)
    have s4 := eW.e (k0 := 158) (dflt := nDflt) (Hn := nHn) (dp := dp) (call := call) (mP'_ok hC 159 _ rfl) (eS_ial (k0 := 158) (dflt := nDflt) (o := (0, 0, 0, .null)) (pc := 159) (lv := cL6 c1 c2 c3 x E) (r := .long ((f (x + Int32.ofInt 1).toNatClampNeg).toInt64 <<< ((Int8.ofInt 32).toInt32.toInt64 &&& 63)) :: stc) hc i2)
    have s5 := eW.r (k0 := 158) (dflt := nDflt) (Hn := nHn) (dp := dp) (call := call) (mP'_ok hC) 4 (show eR 158 nDflt nC0 4 160 (cL6 c1 c2 c3 x E) (.int (f (x + Int32.ofInt 2).toNatClampNeg) :: .long ((f (x + Int32.ofInt 1).toNatClampNeg).toInt64 <<< ((Int8.ofInt 32).toInt32.toInt64 &&& 63)) :: stc) h = some (166, cL6 c1 c2 c3 x E, .long (((f (x + Int32.ofInt 1).toNatClampNeg).toInt64 <<< ((Int8.ofInt 32).toInt32.toInt64 &&& 63)) ||| ((f (x + Int32.ofInt 2).toNatClampNeg).toInt64 &&& 4294967295)) :: stc, h) from rfl)
    exact (((s1.trans s2).trans s3).trans s4).trans s5
theorem rSub5 {lc : mL} {c1 c2 c3 : Value} {x : Int32} (h0 : mLd lc 0 = some (.ref 0)) (h1 : mLd lc 1 = some c1) (h2 : mLd lc 2 = some c2) (h3 : mLd lc 3 = some c3) (h4 : mLd lc 4 = some (.int x)) : rSubl (cL5 c1 c2 c3 x) lc := by
  intro q hq
  simp only [cL5, List.mem_cons, List.not_mem_nil, or_false] at hq
  rcases hq with rfl | rfl | rfl | rfl | rfl
  · exact h0
  · exact h1
  · exact h2
  · exact h3
  · exact h4
theorem rSub6 {lc E : mL} {c1 c2 c3 : Value} {x : Int32} (hE : rSubl E lc) (h0 : mLd lc 0 = some (.ref 0)) (h1 : mLd lc 1 = some c1) (h2 : mLd lc 2 = some c2) (h3 : mLd lc 3 = some c3) (h4 : mLd lc 4 = some (.int x)) : rSubl (cL6 c1 c2 c3 x E) lc := by
  intro q hq
  simp only [cL6, List.mem_cons] at hq
  rcases hq with rfl | rfl | rfl | rfl | rfl | hq
  · exact h0
  · exact h1
  · exact h2
  · exact h3
  · exact h4
  · exact hE q hq
theorem nJ4l_ok {lv lc : mL} (hl : rEv ρ lv = some lc) : ∃ E, rEv ρ (nJ4l lv) = some E ∧ rSubl E lc := by
  unfold nJ4l
  split
  · rename_i v m5
    obtain ⟨k5, l5, r5⟩ := rLd hl m5
    refine ⟨[(5, k5)], rEv_mk r5 rfl, ?_⟩
    intro q hq
    simp only [List.mem_cons, List.not_mem_nil, or_false] at hq
    subst hq
    exact l5
  · refine ⟨[], rfl, ?_⟩
    intro q hq
    cases hq
theorem nJ4_ok {mi : Nat} {s t : rT} {lc : mL} {stc : List Value} {hc : mH} (h : nJ4 mi s = some t) (hO : rOk ρ s.1) (hl : rEv ρ s.2.2.1 = some lc) (hs : rEs ρ s.2.2.2.1 = some stc) (hh : rHr c0 ρ s.2.2.2.2 hc) : rOk ρ t.1 ∧ ∃ lc' stc' hc', rEv ρ t.2.2.1 = some lc' ∧ rEs ρ t.2.2.2.1 = some stc' ∧ rHr c0 ρ t.2.2.2.2 hc' ∧ eW (fun n => evF 158 nDflt (mP' (nCodw v5)) nHn dp call n mi) s.2.1 lc stc hc t.2.1 lc' stc' hc' := by
  unfold nJ4 at h
  split at h
  · rename_i hm
    obtain ⟨rfl, hpc⟩ := hm
    split at h
    · rename_i v1 v2 v3 iv a0 b a2 a3 a4 a5 a6 e a8 m0 m1 m2 m3 m4 hw
      split at h
      · rename_i hb
        cases h
        obtain ⟨L, f, bb, w1, w2, w3, w4, w5, w6, w7, w8⟩ := nWin_ok hh hw
        obtain ⟨k0, l0, r0⟩ := rLd hl m0
        obtain ⟨k1, l1, r1⟩ := rLd hl m1
        obtain ⟨k2, l2, r2⟩ := rLd hl m2
        obtain ⟨k3, l3, r3⟩ := rLd hl m3
        obtain ⟨k4, l4, r4⟩ := rLd hl m4
        cases r0
        have r4' := rQ_ok' hO hb.1 w6
        rw [r4] at r4'
        cases r4'
        obtain ⟨E, hE, hE2⟩ := nJ4l_ok hl
        refine ⟨hO, cL6 k1 k2 k3 bb E, _, hc, rEv_mk rfl (rEv_mk r1 (rEv_mk r2 (rEv_mk r3 (rEv_mk r4 hE)))), rEs_mk w7 hs, hh, ?_⟩
        exact (eW.lv (rSub6 hE2 l0 l1 l2 l3 l4)).trans (cEight w1 w2 w3 w4 hpc)
      · cases h
    · cases h
  · cases h
theorem rOb_4 {gs : List Value} {c : mC} (h : rOb 1004 gs c) : ∃ (f : Nat → Int64) (x : Int32), gs = [.int x] ∧ c = some (.inl (1, 1, .inr (.inl f))) ∧ f 0 = x.toInt64 := h
theorem eS_las {k0 : Nat} {dflt : Nat → List Value} {o : Nat × Nat × Nat × Value} {pc a : Nat} {lv : mL} {r : List Value} {h : mH} {f : Nat → Int64} {y : Int64} (ha : k0 ≤ a) (hc : h[a]? = some (some (.inl (1, 1, .inr (.inl f))))) : eS k0 dflt (.lastore, o) pc lv (.long y :: .int 0 :: .ref a :: r) h = some (pc + 1, lv, r, h.set a (some (.inl (1, 1, .inr (.inl (vp_updL f 0 y)))))) := by
  have e1 : mP k0 .lastore o.1 o.2.1 o.2.2.1 (.long y :: .int 0 :: .ref a :: r) h = some (r, h.set a (some (.inl (1, 1, .inr (.inl (vp_updL f 0 y)))))) := by
    unfold mP
    dsimp only
    rw [hc]
    exact if_pos ⟨by decide, ha⟩
  simp [eS, mRt, mTh, mNw, mCl, mIv, mNx, mA, mB, mD, mJ, mG, e1, mLen]
theorem eS_lal {k0 : Nat} {dflt : Nat → List Value} {o : Nat × Nat × Nat × Value} {pc a : Nat} {lv : mL} {r : List Value} {h : mH} {f : Nat → Int64} (hc : h[a]? = some (some (.inl (1, 1, .inr (.inl f))))) : eS k0 dflt (.laload, o) pc lv (.int 0 :: .ref a :: r) h = some (pc + 1, lv, .long (f 0) :: r, h) := by
  have e1 : mG .laload o.1 o.2.1 o.2.2.2 (.int 0 :: .ref a :: r) h = some (.long (f 0) :: r) := by
    unfold mG
    dsimp only
    rw [hc]
    exact if_pos (by decide)
  simp [eS, mRt, mTh, mNw, mCl, mIv, mNx, mA, mB, mD, mJ, e1, mLen]
theorem nJ7_ok {mi : Nat} {s t : rT} {lc : mL} {stc : List Value} {hc : mH} (h : nJ7 mi s = some t) (hO : rOk ρ s.1) (hl : rEv ρ s.2.2.1 = some lc) (hs : rEs ρ s.2.2.2.1 = some stc) (hh : rHr c0 ρ s.2.2.2.2 hc) : rOk ρ t.1 ∧ ∃ lc' stc' hc', rEv ρ t.2.2.1 = some lc' ∧ rEs ρ t.2.2.2.1 = some stc' ∧ rHr c0 ρ t.2.2.2.2 hc' ∧ eW (fun n => evF 158 nDflt (mP' (nCodw v5)) nHn dp call n mi) s.2.1 lc stc hc t.2.1 lc' stc' hc' := by
  unfold nJ7 at h
  split at h
  · rename_i hm
    obtain ⟨rfl, hpc⟩ := hm
    split at h
    · rename_i v z l u hst hcell
      split at h
      · rename_i hb
        cases h
        obtain ⟨rfl, hb⟩ := hb
        rw [hst] at hs
        obtain ⟨cv, l1, r1, q1, rfl⟩ := rEs_cons hs
        obtain ⟨cz, l2, r2, q2, rfl⟩ := rEs_cons q1
        obtain ⟨ca, l3, r3, q3, rfl⟩ := rEs_cons q2
        cases q3
        cases r2
        cases r3
        cases hq : rRg s.1 v with
        | none => rw [hq] at hb; cases hb
        | some q =>
          obtain ⟨x, rfl, -, -⟩ := rRg_ok hO hq r1
          obtain ⟨cc, c1, c2⟩ := hh.2.1 _ _ hcell
          obtain ⟨f, rfl, -⟩ := rCr.lng c2
          have hset := hh.set (a' := .inr (1004, [v])) (c := some (.inl (1, 1, .inr (.inl (vp_updL f 0 x.toInt64))))) 205 hcell ⟨_, rEs_mk r1 rfl, vp_updL f 0 x.toInt64, x, rfl, rfl, by simp [vp_updL]⟩
          refine ⟨hO, lc, [], _, hl, rfl, hset, ?_⟩
          rw [hpc]
          have hC : nCodw v5 3 = nC3 := rfl
          have s1 := eW.r (k0 := 158) (dflt := nDflt) (Hn := nHn) (dp := dp) (call := call) (mP'_ok hC) 1 (show eR 158 nDflt nC3 1 9 lc [.int x, .int 0, .ref 205] hc = some (10, lc, [.long x.toInt64, .int 0, .ref 205], hc) from rfl)
          have s2 := eW.e (k0 := 158) (dflt := nDflt) (Hn := nHn) (dp := dp) (call := call) (mP'_ok hC 10 _ rfl) (eS_las (k0 := 158) (dflt := nDflt) (o := (0, 0, 0, .null)) (pc := 10) (lv := lc) (r := []) (y := x.toInt64) (by decide) c1)
          exact s1.trans s2
      · cases h
    · cases h
  · cases h
set_option maxRecDepth 20000 in
theorem nJ8_ok {mi : Nat} {s t : rT} {lc : mL} {stc : List Value} {hc : mH} (h : nJ8 mi s = some t) (hO : rOk ρ s.1) (hl : rEv ρ s.2.2.1 = some lc) (hs : rEs ρ s.2.2.2.1 = some stc) (hh : rHr c0 ρ s.2.2.2.2 hc) : rOk ρ t.1 ∧ ∃ lc' stc' hc', rEv ρ t.2.2.1 = some lc' ∧ rEs ρ t.2.2.2.1 = some stc' ∧ rHr c0 ρ t.2.2.2.2 hc' ∧ eW (fun n => evF 158 nDflt (mP' (nCodw v5)) nHn dp call n mi) s.2.1 lc stc hc t.2.1 lc' stc' hc' := by
  cases h
theorem nJ5_ok {mi : Nat} {s t : rT} {lc : mL} {stc : List Value} {hc : mH} (hcall : ∀ (x lo hi : Int32) (h : mH), call 36 [.int x, .int lo, .int hi] h = some (.inl (some (.int (if lo.toInt ≤ x.toInt ∧ x.toInt ≤ hi.toInt then 1 else 0))), h)) (h : nJ5 mi s = some t) (hO : rOk ρ s.1) (hl : rEv ρ s.2.2.1 = some lc) (hs : rEs ρ s.2.2.2.1 = some stc) (hh : rHr c0 ρ s.2.2.2.2 hc) : rOk ρ t.1 ∧ ∃ lc' stc' hc', rEv ρ t.2.2.1 = some lc' ∧ rEs ρ t.2.2.2.1 = some stc' ∧ rHr c0 ρ t.2.2.2.2 hc' ∧ eW (fun n => evF 158 nDflt (mP' (nCodw v5)) nHn dp call n mi) s.2.1 lc stc hc t.2.1 lc' stc' hc' := by
  unfold nJ5 at h
  split at h
  · rename_i hm
    obtain ⟨rfl, hpc, hemp⟩ := hm
    split at h
    · rename_i v0 e nv g j a0 a1 a2 a3 a4 a5 a6 e' gb m0 m1 m3 m4 m5 hw
      split at h
      · rename_i he
        obtain ⟨rfl, rfl, rfl⟩ := he
        split at h
        · rename_i q p hq hp
          split at h
          · rename_i hb
            obtain ⟨L, f, b, w1, w2, w3, w4, w5, w6, w7, w8⟩ := nWin_ok hh hw
            generalize ((f (b.toInt.toNat + 1)).toInt64 <<< 32) ||| ((f (b.toInt.toNat + 2)).toInt64 &&& 4294967295) = E at w7 w8
            obtain ⟨k0, l0, r0⟩ := rLd hl m0
            obtain ⟨k1, l1, r1⟩ := rLd hl m1
            obtain ⟨k3, l3, r3⟩ := rLd hl m3
            obtain ⟨k4, l4, r4⟩ := rLd hl m4
            obtain ⟨k5, l5, r5⟩ := rLd hl m5
            have w7' := w7
            rw [r1] at w7'
            cases w7'
            cases r4
            cases r5
            obtain ⟨x, rfl, x1, x2⟩ := rRg_ok hO hq r3
            obtain ⟨k, rfl, k1, k2, k3⟩ := rK8 x1 x2 hb
            obtain ⟨y, hy, y1, y2⟩ := rRg_ok hO hp w8
            cases hy
            rw [rG8 (rGb_le E)] at y1 y2
            have hst : s.2.2.2.1 = [] := by simpa using hemp
            rw [hst] at hs
            cases hs
            have hsub : rSubl (cU 0 k 1 k0 E) lc := by
              intro q hq
              simp only [cU, List.mem_cons, List.not_mem_nil, or_false] at hq
              rcases hq with rfl | rfl | rfl | rfl | rfl
              · exact l5
              · exact l4
              · exact l0
              · exact l1
              · exact l3
            have hloop := cB_loop (dflt := nDflt) (cods := nCodw v5) (Hn := nHn) (dp := dp) (call := call) (E := E) (k := k) (h := hc) (v0 := k0) rfl k3 (fun x lo hi => hcall x lo hi hc) k 0 1 (by omega) (Or.inl ⟨rfl, fun j hj => by omega⟩)
            have hend : ∀ g : Int32, g = (if k ≤ rGb E then 1 else 0) → eW (fun n => evF 158 nDflt (mP' (nCodw v5)) nHn dp call n 4) s.2.1 lc [] hc 84 [(4, .int g), (0, k0), (1, .long E), (3, .int (Int32.ofNat k))] [] hc := by
              intro g hg
              rw [hpc]
              refine ((eW.lv hsub).trans hloop).trans (eW.lv ?_)
              rw [← hg]
              intro q hq
              simp only [List.mem_cons, List.not_mem_nil, or_false] at hq
              rcases hq with rfl | rfl | rfl | rfl <;> rfl
            have hlv : ∀ g : Int32, rEv ρ [(4, .int g), (0, v0), (1, .double e), (3, nv)] = some [(4, .int g), (0, k0), (1, .long E), (3, .int (Int32.ofNat k))] := fun g => rEv_mk rfl (rEv_mk r0 (rEv_mk w7 (rEv_mk r3 rfl)))
            split at h
            · rename_i hle
              cases h
              exact ⟨hO, _, [], hc, hlv 1, rfl, hh, hend 1 (by rw [if_pos (by omega)])⟩
            · split at h
              · rename_i hlt
                cases h
                exact ⟨hO, _, [], hc, hlv 0, rfl, hh, hend 0 (by rw [if_neg (by omega)])⟩
              · cases h
          · cases h
        · cases h
      · cases h
    · cases h
  · cases h
end HJ
theorem nHk1 (v5 : Value) : rHooks 158 nDflt (mP' (nCodw v5)) nHn nMxx' nJ1 nOr1 := by
  refine ⟨fun d d' call c0 hd hcl mi k s t ρ lc stc hc h hO hl hs hh => ?_, fun d' c0 hd ρ ce as fs h rs asc hc hx hO ha hh => ?_⟩
  · have fin : (rOk ρ t.1 ∧ ∃ lc' stc' hc', rEv ρ t.2.2.1 = some lc' ∧ rEs ρ t.2.2.2.1 = some stc' ∧ rHr c0 ρ t.2.2.2.2 hc' ∧ eW (fun n => evF 158 nDflt (mP' (nCodw v5)) nHn (d' + 1) call n mi) s.2.1 lc stc hc t.2.1 lc' stc' hc') → ∃ ex, rOk (ρ ++ ex) t.1 ∧ ∃ lc' stc' hc', rEv (ρ ++ ex) t.2.2.1 = some lc' ∧ rEs (ρ ++ ex) t.2.2.2.1 = some stc' ∧ rHr c0 (ρ ++ ex) t.2.2.2.2 hc' ∧ ∀ r, (∃ n, evF 158 nDflt (mP' (nCodw v5)) nHn (d' + 1) call n mi t.2.1 lc' stc' hc' = some r) → ∃ n, evF 158 nDflt (mP' (nCodw v5)) nHn (d' + 1) call n mi s.2.1 lc stc hc = some r := by
      rintro ⟨h1, lc', stc', hc', h2, h3, h4, h5⟩
      exact ⟨[], by rw [List.append_nil]; exact h1, lc', stc', hc', by rw [List.append_nil]; exact h2, by rw [List.append_nil]; exact h3, by rw [List.append_nil]; exact h4, h5⟩
    unfold nJ1 at h
    split at h
    · exact fin (nJ4_ok h hO hl hs hh)
    · split at h
      · rename_i h2
        refine fin (nJ5_ok (fun x lo hi h => ?_) h hO hl hs hh)
        obtain ⟨e, rfl⟩ : ∃ e, d' = e + 1 := ⟨d' - 1, by omega⟩
        obtain ⟨n, hn⟩ := cW (dflt := nDflt) (cods := nCodw v5) (Hn := nHn) nMxx' rfl rfl e x lo hi h
        exact (hcl _ _ _ _).mpr ⟨n, hn⟩
      · cases h
    · exact fin (nJ7_ok h hO hl hs hh)
    · exact fin (nJ8_ok h hO hl hs hh)
    · obtain ⟨ex, e1, e2, e3, e4, e5⟩ := rMisc_ok h hO hl hs hh
      exact ⟨ex, e1, lc, stc, hc, e2, e3, e4, fun r hr => by rw [e5] at hr; exact hr⟩
  · obtain ⟨e, rfl⟩ : ∃ e, d' = e + 1 := ⟨d' - 1, by omega⟩
    exact nOr1_ok e hx hO ha hh
