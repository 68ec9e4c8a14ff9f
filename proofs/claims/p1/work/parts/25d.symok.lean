/-! THE MACHINE WITH UNKNOWN NUMBERS IS SOUND: steps, stretches, rounds, methods -/
theorem mB_no {i : Instr} {lv : mL} {v : Value} (h : mB i lv = some v) (st : List Value) : mA i st = none := by
  cases i <;> simp only [mB, reduceCtorEq] at h <;> rfl
theorem mD_no {i : Instr} {nL : Nat} {lv : mL} {st : List Value} {x : mL × List Value} (h : mD i nL lv st = some x) (st2 : List Value) (lv2 : mL) : mA i st2 = none ∧ mB i lv2 = none := by
  cases i <;> simp only [mD, reduceCtorEq] at h <;> exact ⟨rfl, rfl⟩
theorem mJ_no {i : Instr} {pc : Nat} {st : List Value} {x : Nat × List Value} (h : mJ i pc st = some x) (nL : Nat) (st2 : List Value) (lv2 : mL) : mA i st2 = none ∧ mB i lv2 = none ∧ mD i nL lv2 st2 = none := by
  cases i <;> simp only [mJ, reduceCtorEq] at h <;> exact ⟨rfl, rfl, rfl⟩
theorem mG_no {i : Instr} {o1 o2 : Nat} {v : Value} {st x : List Value} {hp : mH} (h : mG i o1 o2 v st hp = some x) (nL pc : Nat) (st2 : List Value) (lv2 : mL) : mA i st2 = none ∧ mB i lv2 = none ∧ mD i nL lv2 st2 = none ∧ mJ i pc st2 = none := by
  cases i <;> simp only [mG, reduceCtorEq] at h <;> exact ⟨rfl, rfl, rfl, rfl⟩
theorem mP_no {k0 : Nat} {i : Instr} {o1 o2 o3 : Nat} {st : List Value} {hp : mH} {x : List Value × mH} (h : mP k0 i o1 o2 o3 st hp = some x) (nL pc q1 q2 : Nat) (v : Value) (st2 : List Value) (lv2 : mL) (h2 : mH) : mA i st2 = none ∧ mB i lv2 = none ∧ mD i nL lv2 st2 = none ∧ mJ i pc st2 = none ∧ mG i q1 q2 v st2 h2 = none := by
  cases i <;> simp only [mP, reduceCtorEq] at h <;> exact ⟨rfl, rfl, rfl, rfl, rfl⟩
theorem mN_no {dflt : Nat → List Value} {i : Instr} {o1 : Nat} {st : List Value} {hp : mH} {x : List Value × mH} (h : mN dflt i o1 st hp = some x) (k0 nL pc q1 q2 q3 : Nat) (v : Value) (st2 : List Value) (lv2 : mL) (h2 : mH) : mA i st2 = none ∧ mB i lv2 = none ∧ mD i nL lv2 st2 = none ∧ mJ i pc st2 = none ∧ mG i q1 q2 v st2 h2 = none ∧ mP k0 i q1 q2 q3 st2 h2 = none := by
  cases i <;> simp only [mN, reduceCtorEq] at h <;> exact ⟨rfl, rfl, rfl, rfl, rfl, rfl⟩
theorem mI_no {dflt : Nat → List Value} {i : Instr} (h : mIv i = true) (k0 nL pc q1 q2 q3 : Nat) (v : Value) (st2 : List Value) (lv2 : mL) (h2 : mH) : mA i st2 = none ∧ mB i lv2 = none ∧ mD i nL lv2 st2 = none ∧ mJ i pc st2 = none ∧ mG i q1 q2 v st2 h2 = none ∧ mP k0 i q1 q2 q3 st2 h2 = none ∧ mN dflt i q1 st2 h2 = none := by
  cases i <;> simp only [mIv, reduceCtorEq] at h <;> exact ⟨rfl, rfl, rfl, rfl, rfl, rfl, rfl⟩
section AN
variable {sI : Nat → Int32} {sL : Nat → Int64}
theorem aNx_ok (hD : aDn sI sL) {k0 : Nat} {dflt : Nat → List Value} {e : mI} {fs : aF} {pc : Nat} {lv : mL} {st : List Value} {h : aH} {hc : mH} {l : List aT} (hO : aOk sI fs) (hh : aHr sI sL h hc) (hn : aNx k0 dflt e fs pc lv st h = some l) :
    ∃ s ∈ l, aOk sI s.1 ∧ ∃ hc', aHr sI sL s.2.2.2.2 hc' ∧ ((s.2.1 = pc ∧ s.2.2.1 = lv ∧ aSs sI sL s.2.2.2.1 = aSs sI sL st ∧ hc' = hc) ∨ mNx k0 dflt e pc (aSv sI sL lv) (aSs sI sL st) hc = some (s.2.1, aSv sI sL s.2.2.1, aSs sI sL s.2.2.2.1, hc')) := by
  unfold aNx at hn
  split at hn
  · rename_i st' hA
    cases hn
    refine ⟨_, List.mem_cons_self, hO, hc, hh, Or.inr ?_⟩
    unfold mNx
    rw [mA_s hA]
  split at hn
  · rename_i st' hA
    cases hn
    refine ⟨_, List.mem_cons_self, hO, hc, hh, Or.inr ?_⟩
    unfold mNx
    rw [aU_ok hD hA]
  split at hn
  · rename_i st' hA
    cases hn
    refine ⟨_, List.mem_cons_self, hO, hc, hh, Or.inr ?_⟩
    unfold mNx
    rw [aLc_ok hD hO hA]
  split at hn
  · rename_i v hB
    cases hn
    refine ⟨_, List.mem_cons_self, hO, hc, hh, Or.inr ?_⟩
    have k := aB_ok (sI := sI) (sL := sL) hB
    unfold mNx
    rw [mB_no k, k]
    rfl
  split at hn
  · rename_i lv' st' hB
    cases hn
    refine ⟨_, List.mem_cons_self, hO, hc, hh, Or.inr ?_⟩
    have k := aD_ok (sI := sI) (sL := sL) hB
    obtain ⟨n1, n2⟩ := mD_no k (aSs sI sL st) (aSv sI sL lv)
    unfold mNx
    rw [n1, n2, k]
  split at hn
  · rename_i pc' st' hB
    cases hn
    refine ⟨_, List.mem_cons_self, hO, hc, hh, Or.inr ?_⟩
    have k := aJ_ok hD hO hB
    obtain ⟨n1, n2, n3⟩ := mJ_no k e.2.1 (aSs sI sL st) (aSv sI sL lv)
    unfold mNx
    rw [n1, n2, n3, k]
  split at hn
  · rename_i st' hB
    cases hn
    refine ⟨_, List.mem_cons_self, hO, hc, hh, Or.inr ?_⟩
    have k := aG_ok hD hO hh hB
    obtain ⟨n1, n2, n3, n4⟩ := mG_no k e.2.1 pc (aSs sI sL st) (aSv sI sL lv)
    unfold mNx
    rw [n1, n2, n3, n4, k]
  split at hn
  · rename_i st' h' hB
    cases hn
    obtain ⟨hc', k, hh'⟩ := aP_ok hD hO hh hB
    refine ⟨_, List.mem_cons_self, hO, hc', hh', Or.inr ?_⟩
    obtain ⟨n1, n2, n3, n4, n5⟩ := mP_no k e.2.1 pc e.2.1 e.2.2.1 e.2.2.2.2 (aSs sI sL st) (aSv sI sL lv) hc
    unfold mNx
    rw [n1, n2, n3, n4, n5, k]
  split at hn
  · rename_i st' h' hB
    cases hn
    obtain ⟨hc', k, hh'⟩ := aN_ok hh hB
    refine ⟨_, List.mem_cons_self, hO, hc', hh', Or.inr ?_⟩
    obtain ⟨n1, n2, n3, n4, n5, n6⟩ := mN_no k k0 e.2.1 pc e.2.1 e.2.2.1 e.2.2.2.1 e.2.2.2.2 (aSs sI sL st) (aSv sI sL lv) hc
    unfold mNx
    rw [n1, n2, n3, n4, n5, n6, k]
  split at hn
  · rename_i hiv
    split at hn
    · rename_i st' hB
      cases hn
      refine ⟨_, List.mem_cons_self, hO, hc, hh, Or.inr ?_⟩
      have k := aX_ok (sI := sI) (sL := sL) hc hB
      obtain ⟨n1, n2, n3, n4, n5, n6, n7⟩ := mI_no (dflt := dflt) hiv k0 e.2.1 pc e.2.1 e.2.2.1 e.2.2.2.1 e.2.2.2.2 (aSs sI sL st) (aSv sI sL lv) hc
      unfold mNx
      rw [n1, n2, n3, n4, n5, n6, n7, if_pos hiv, k]
    · cases hn
  · split at hn
    · rename_i l' hB
      cases hn
      obtain ⟨q, q1, q2, q3⟩ := aZ_ok hD hO hB
      exact ⟨_, List.mem_map.mpr ⟨q, q1, rfl⟩, q2, hc, hh, Or.inl ⟨rfl, rfl, q3, rfl⟩⟩
    · cases hn
def aSo (sI : Nat → Int32) (sL : Nat → Int64) (o : mO) : mO := match o with
  | .inl v => .inl (v.map (aS sI sL))
  | .inr x => .inr x
/-- one of what can come of a state comes of it -/
def aHit (sI : Nat → Int32) (sL : Nat → Int64) (E : Nat → Nat → mL → List Value → mH → Option (mO × mH)) (B : Nat) (s : aT) (hc : mH) (q : aT ⊕ aR) : Prop := match q with
  | .inl t => aOk sI t.1 ∧ ∃ hc' j, aHr sI sL t.2.2.2.2 hc' ∧ j ≤ B ∧ ∀ n, E (n + j) s.2.1 (aSv sI sL s.2.2.1) (aSs sI sL s.2.2.2.1) hc = E n t.2.1 (aSv sI sL t.2.2.1) (aSs sI sL t.2.2.2.1) hc'
  | .inr r => aOk sI r.1 ∧ ∃ hc' j, aHr sI sL r.2.2 hc' ∧ j ≤ B ∧ ∀ n, E (n + j) s.2.1 (aSv sI sL s.2.2.1) (aSs sI sL s.2.2.2.1) hc = some (aSo sI sL r.2.1, hc')
theorem aMap_mem {α β : Type} {f : α → Option β} : ∀ {l : List α} {ls : List β} {x : α}, aMap f l = some ls → x ∈ l → ∃ y, f x = some y ∧ y ∈ ls
  | [], _, _, _, hx => by cases hx
  | a :: r, ls, x, h, hx => by
    unfold aMap at h
    split at h
    · cases h
    · rename_i b hb
      split at h
      · cases h
      · rename_i l hl
        cases h
        rcases List.mem_cons.mp hx with rfl | hx
        · exact ⟨b, hb, List.mem_cons_self⟩
        · obtain ⟨y, y1, y2⟩ := aMap_mem hl hx
          exact ⟨y, y1, List.mem_cons_of_mem _ y2⟩
theorem mRt_s {i : Instr} {o1 : Nat} {st : List Value} {v : Option Value} (h : mRt i o1 st = some v) : mRt i o1 (aSs sI sL st) = some (v.map (aS sI sL)) := by
  cases i <;> simp only [mRt, reduceCtorEq] at h
  case ireturn =>
    split at h
    · rename_i x
      show mRt .ireturn o1 [.int x] = _
      simp only [mRt]
      split at h
      · cases h; rfl
      · split at h
        · rename_i hq
          cases h
          exact if_pos hq
        · cases h
      · split at h
        · rename_i hq
          cases h
          exact if_pos hq
        · cases h
      · cases h
    · cases h
  all_goals
    split at h
    · cases h; rfl
    · cases h
theorem mRt_no {i : Instr} (h : ¬ aRt i = true) (o1 : Nat) (st : List Value) : mRt i o1 st = none := by
  cases i <;> first | rfl | exact absurd rfl h
theorem aRc_ok {h : aH} {hc : mH} (hh : aHr sI sL h hc) {i : Instr} {v : Value} {as : List Value} (hr : aRc i v as h = true) : mRc i v (aSs sI sL as) hc = true := by
  cases i <;> simp only [aRc, reduceCtorEq] at hr
  case invokestatic ix => rfl
  case invokespecial ix =>
    split at hr
    · rfl
    · cases hr
  case invokevirtual ix =>
    split at hr
    · rename_i b r
      split at hr
      · rename_i _ ci fs hq
        split at hr
        · rename_i k
          obtain ⟨c, e1, e2⟩ := hh.2 _ _ hq
          rw [e2.obj] at e1
          show (match hc[b]? with
            | some (some (.inr (ci, _))) => ci == k
            | _ => false) = true
          rw [e1]
          exact hr
        · cases hr
      · cases hr
    · cases hr
theorem aSs_len (l : List Value) : (aSs sI sL l).length = l.length := List.length_map ..
section AE
variable {k0 : Nat} {dflt : Nat → List Value} {P : Nat → Nat → Option mI} {Hn : Nat → List (Nat × Nat × Nat × Nat)} {dp : Nat} {acall : Nat → List Value → aF → aH → Option (List aR)} {call : Nat → List Value → mH → Option (mO × mH)} {mi : Nat}
set_option maxHeartbeats 1000000 in
theorem aSp_ok (hD : aDn sI sL) (hcall : ∀ ce as fs h rs hc, acall ce as fs h = some rs → aOk sI fs → aHr sI sL h hc → ∃ r ∈ rs, aOk sI r.1 ∧ ∃ hc', aHr sI sL r.2.2 hc' ∧ call ce (aSs sI sL as) hc = some (aSo sI sL r.2.1, hc'))
    {s : aT} {l : List (aT ⊕ aR)} {hc : mH} (hO : aOk sI s.1) (hh : aHr sI sL s.2.2.2.2 hc) (h : aSp k0 dflt P Hn dp acall mi s = some l) : ∃ q ∈ l, aHit sI sL (fun n => evF k0 dflt P Hn dp call n mi) 1 s hc q := by
  obtain ⟨fs, pc, lv, st, hp⟩ := s
  dsimp only at hO hh
  unfold aSp at h
  dsimp only at h
  split at h
  · cases h
  rename_i e he
  split at h
  · rename_i hrt
    split at h
    · rename_i v hv
      cases h
      refine ⟨_, List.mem_cons_self, hO, hc, 1, hh, Nat.le_refl 1, fun n => ?_⟩
      show evF k0 dflt P Hn dp call (n + 1) mi pc (aSv sI sL lv) (aSs sI sL st) hc = _
      rw [evF, he]
      dsimp only
      rw [mRt_s hv]
      rfl
    · cases h
  rename_i hrt
  split at h
  · rename_i x hx
    split at h
    · rename_i hq
      cases h
      have hst : st = [] := by simpa using hq.2
      subst hst
      refine ⟨_, List.mem_cons_self, hO, hc ++ [mEx x], 1, hh.push rfl, Nat.le_refl 1, fun n => ?_⟩
      show evF k0 dflt P Hn dp call (n + 1) mi pc (aSv sI sL lv) [] hc = _
      rw [evF, he]
      dsimp only
      rw [mRt_no hrt, hx]
      dsimp only
      rw [if_pos ⟨hq.1, rfl⟩, hh.1]
      rfl
    · cases h
  rename_i hth
  split at h
  · rename_i hiv
    split at h
    · rename_i hq
      split at h
      · rename_i rs hrs
        obtain ⟨r, r1, r2, hc', r3, r4⟩ := hcall _ _ _ _ _ hc hrs hO hh
        obtain ⟨y, y1, y2⟩ := aMap_mem h r1
        refine ⟨y, y2, ?_⟩
        have hcl : mCl e (aSs sI sL st) hc = some (e.2.1, aSs sI sL (st.take e.2.2.1).reverse, aSs sI sL (st.drop e.2.2.1)) := by
          unfold mCl
          have e1 : (aSs sI sL st).drop e.2.2.1 = aSs sI sL (st.drop e.2.2.1) := (List.map_drop ..).symm
          have e2 : ((aSs sI sL st).take e.2.2.1).reverse = aSs sI sL (st.take e.2.2.1).reverse := by
            unfold aSs
            rw [List.map_reverse, List.map_take]
          rw [e1, e2, aSs_len, aSs_cats]
          exact if_pos ⟨hiv.1, hiv.2, hq.1, hq.2.1, aRc_ok hh hq.2.2⟩
        obtain ⟨rf, ro, rh⟩ := r
        cases ro with
        | inl v =>
          cases y1
          refine ⟨r2, hc', 1, r3, Nat.le_refl 1, fun n => ?_⟩
          show evF k0 dflt P Hn dp call (n + 1) mi pc (aSv sI sL lv) (aSs sI sL st) hc = evF k0 dflt P Hn dp call n mi (pc + 3) (aSv sI sL lv) (aSs sI sL (v.toList ++ st.drop e.2.2.1)) hc'
          rw [evF, he]
          dsimp only
          rw [mRt_no hrt, hth]
          dsimp only
          rw [hcl]
          dsimp only
          rw [r4]
          dsimp only [aSo]
          rw [aSs_app]
          cases v <;> rfl
        | inr xa =>
          obtain ⟨x, a⟩ := xa
          unfold aAf at y1
          dsimp only at y1
          split at y1
          · rename_i hp' hhd
            cases y1
            refine ⟨r2, hc', 1, r3, Nat.le_refl 1, fun n => ?_⟩
            show evF k0 dflt P Hn dp call (n + 1) mi pc (aSv sI sL lv) (aSs sI sL st) hc = evF k0 dflt P Hn dp call n mi hp' (aSv sI sL lv) [.ref a] hc'
            rw [evF, he]
            dsimp only
            rw [mRt_no hrt, hth]
            dsimp only
            rw [hcl]
            dsimp only
            rw [r4]
            dsimp only [aSo]
            rw [hhd]
          · rename_i hhd
            split at y1
            · rename_i hemp
              cases y1
              refine ⟨r2, hc', 1, r3, Nat.le_refl 1, fun n => ?_⟩
              show evF k0 dflt P Hn dp call (n + 1) mi pc (aSv sI sL lv) (aSs sI sL st) hc = some (.inr (x, a), hc')
              rw [evF, he]
              dsimp only
              rw [mRt_no hrt, hth]
              dsimp only
              rw [hcl]
              dsimp only
              rw [r4]
              dsimp only [aSo]
              rw [hhd]
              exact if_pos hemp
            · cases y1
      · cases h
    · cases h
  · rename_i hiv
    split at h
    · rename_i l' hl
      cases h
      obtain ⟨t, t1, t2, hc', t3, t4⟩ := aNx_ok hD hO hh hl
      refine ⟨.inl t, List.mem_map.mpr ⟨t, t1, rfl⟩, t2, ?_⟩
      rcases t4 with ⟨z1, z2, z3, z4⟩ | t4
      · refine ⟨hc', 0, t3, Nat.zero_le 1, fun n => ?_⟩
        show evF k0 dflt P Hn dp call n mi pc (aSv sI sL lv) (aSs sI sL st) hc = evF k0 dflt P Hn dp call n mi t.2.1 (aSv sI sL t.2.2.1) (aSs sI sL t.2.2.2.1) hc'
        rw [z1, z2, z3, z4]
      · refine ⟨hc', 1, t3, Nat.le_refl 1, fun n => ?_⟩
        show evF k0 dflt P Hn dp call (n + 1) mi pc (aSv sI sL lv) (aSs sI sL st) hc = evF k0 dflt P Hn dp call n mi t.2.1 (aSv sI sL t.2.2.1) (aSs sI sL t.2.2.2.1) hc'
        have hcl : mCl e (aSs sI sL st) hc = none := if_neg (fun k => hiv ⟨k.1, k.2.1⟩)
        rw [evF, he]
        dsimp only
        rw [mRt_no hrt, hth]
        dsimp only
        rw [hcl]
        dsimp only
        rw [t4]
    · cases h
end AE
theorem aHit_trans {E : Nat → Nat → mL → List Value → mH → Option (mO × mH)} {A B C : Nat} {s t : aT} {hc hc' : mH} {j : Nat} {q : aT ⊕ aR} (hj : j ≤ A) (hC : A + B ≤ C) (h1 : ∀ n, E (n + j) s.2.1 (aSv sI sL s.2.2.1) (aSs sI sL s.2.2.2.1) hc = E n t.2.1 (aSv sI sL t.2.2.1) (aSs sI sL t.2.2.2.1) hc') (h2 : aHit sI sL E B t hc' q) : aHit sI sL E C s hc q := by
  cases q with
  | inl u =>
    obtain ⟨g1, hd, k, g2, g3, g4⟩ := h2
    refine ⟨g1, hd, k + j, g2, by omega, fun n => ?_⟩
    rw [← Nat.add_assoc, h1, g4]
  | inr u =>
    obtain ⟨g1, hd, k, g2, g3, g4⟩ := h2
    refine ⟨g1, hd, k + j, g2, by omega, fun n => ?_⟩
    rw [← Nat.add_assoc, h1, g4]
theorem aHit_mono {E : Nat → Nat → mL → List Value → mH → Option (mO × mH)} {A B : Nat} {s : aT} {hc : mH} {q : aT ⊕ aR} (h : A ≤ B) (h2 : aHit sI sL E A s hc q) : aHit sI sL E B s hc q := by
  cases q with
  | inl u =>
    obtain ⟨g1, hd, k, g2, g3, g4⟩ := h2
    exact ⟨g1, hd, k, g2, by omega, g4⟩
  | inr u =>
    obtain ⟨g1, hd, k, g2, g3, g4⟩ := h2
    exact ⟨g1, hd, k, g2, by omega, g4⟩
section AG
variable {k0 : Nat} {dflt : Nat → List Value} {P : Nat → Nat → Option mI} {Hn : Nat → List (Nat × Nat × Nat × Nat)} {jp : Nat → Nat → Bool} {dp : Nat} {acall : Nat → List Value → aF → aH → Option (List aR)} {call : Nat → List Value → mH → Option (mO × mH)} {mi : Nat}
theorem aSeg_ok (hD : aDn sI sL) (hcall : ∀ ce as fs h rs hc, acall ce as fs h = some rs → aOk sI fs → aHr sI sL h hc → ∃ r ∈ rs, aOk sI r.1 ∧ ∃ hc', aHr sI sL r.2.2 hc' ∧ call ce (aSs sI sL as) hc = some (aSo sI sL r.2.1, hc')) :
    ∀ (f : Nat) {s : aT} {l : List (aT ⊕ aR)} {hc : mH}, aOk sI s.1 → aHr sI sL s.2.2.2.2 hc → aSeg k0 dflt P Hn jp dp acall mi f s = some l → ∃ q ∈ l, aHit sI sL (fun n => evF k0 dflt P Hn dp call n mi) f s hc q
  | 0, _, _, _, _, _, h => by cases h
  | f + 1, s, l, hc, hO, hh, h => by
    unfold aSeg at h
    split at h
    · cases h
    · rename_i l0 hl0
      split at h
      · cases h
      · rename_i ls hls
        cases h
        obtain ⟨q, q1, q2⟩ := aSp_ok (call := call) hD hcall hO hh hl0
        obtain ⟨y, y1, y2⟩ := aMap_mem hls q1
        cases q with
        | inr r =>
          cases y1
          exact ⟨.inr r, List.mem_flatten.mpr ⟨_, y2, List.mem_cons_self⟩, aHit_mono (by omega) q2⟩
        | inl t =>
          dsimp only at y1
          split at y1
          · cases y1
            exact ⟨.inl t, List.mem_flatten.mpr ⟨_, y2, List.mem_cons_self⟩, aHit_mono (by omega) q2⟩
          · obtain ⟨t1, hc', j, t2, t3, t4⟩ := q2
            obtain ⟨u, u1, u2⟩ := aSeg_ok hD hcall f t1 t2 y1
            exact ⟨u, List.mem_flatten.mpr ⟨_, y2, u1⟩, aHit_trans t3 (by omega) t4 u2⟩
end AG
theorem aJn_ok : ∀ {f g r : aF}, aJn f g = some r → (aOk sI f ∨ aOk sI g) → aOk sI r
  | [], [], r, h, _ => by cases h; exact fun q hq => by cases hq
  | [], _ :: _, _, h, _ => by cases h
  | _ :: _, [], _, h, _ => by cases h
  | a :: f, b :: g, r, h, ho => by
    unfold aJn at h
    split at h
    · rename_i hab
      subst hab
      cases hj : aJn f g with
      | none => rw [hj] at h; cases h
      | some r0 =>
        rw [hj] at h
        cases h
        have ih := aJn_ok hj (ho.imp (fun k q hq => k q (List.mem_cons_of_mem _ hq)) (fun k q hq => k q (List.mem_cons_of_mem _ hq)))
        intro q hq
        rcases List.mem_cons.mp hq with rfl | hq
        · exact ho.elim (fun k => k _ List.mem_cons_self) (fun k => k _ List.mem_cons_self)
        · exact ih q hq
    · split at h
      · rename_i hab
        cases h
        intro q hq
        rcases List.mem_cons.mp hq with rfl | hq
        · rcases ho with k | k
          · obtain ⟨w, w1, w2⟩ := k a List.mem_cons_self
            exact ⟨w, List.mem_append_left _ w1, w2⟩
          · obtain ⟨w, w1, w2⟩ := k b List.mem_cons_self
            rw [← hab.1] at w2
            exact ⟨w, List.mem_append_right _ w1, w2⟩
        · rcases ho with k | k
          · exact k q (List.mem_cons_of_mem _ hq)
          · exact k q (List.mem_cons_of_mem _ (by rw [← hab.2]; exact hq))
      · cases h
theorem aIns_ok {β : Type} (dq : DecidableEq β) (x : aF × β) : ∀ (l : List (aF × β)) (y : aF × β), (y = x ∨ y ∈ l) → aOk sI y.1 → ∃ z ∈ aIns dq x l, aOk sI z.1 ∧ z.2 = y.2
  | [], y, hy, ho => by
    rcases hy with rfl | hy
    · exact ⟨y, List.mem_cons_self, ho, rfl⟩
    · cases hy
  | w :: r, y, hy, ho => by
    have ih := aIns_ok dq x r y
    unfold aIns
    split
    · rename_i hxw
      split
      · rename_i f hf
        rcases hy with rfl | hy
        · exact ⟨_, List.mem_cons_self, aJn_ok hf (Or.inl ho), hxw.symm⟩
        · rcases List.mem_cons.mp hy with rfl | hy
          · exact ⟨_, List.mem_cons_self, aJn_ok hf (Or.inr ho), rfl⟩
          · exact ⟨y, List.mem_cons_of_mem _ hy, ho, rfl⟩
      · rcases hy with rfl | hy
        · obtain ⟨z, z1, z2⟩ := ih (Or.inl rfl) ho
          exact ⟨z, List.mem_cons_of_mem _ z1, z2⟩
        · rcases List.mem_cons.mp hy with rfl | hy
          · exact ⟨y, List.mem_cons_self, ho, rfl⟩
          · obtain ⟨z, z1, z2⟩ := ih (Or.inr hy) ho
            exact ⟨z, List.mem_cons_of_mem _ z1, z2⟩
    · rcases hy with rfl | hy
      · obtain ⟨z, z1, z2⟩ := ih (Or.inl rfl) ho
        exact ⟨z, List.mem_cons_of_mem _ z1, z2⟩
      · rcases List.mem_cons.mp hy with rfl | hy
        · exact ⟨y, List.mem_cons_self, ho, rfl⟩
        · obtain ⟨z, z1, z2⟩ := ih (Or.inr hy) ho
          exact ⟨z, List.mem_cons_of_mem _ z1, z2⟩
theorem aMg_ok {β : Type} (dq : DecidableEq β) : ∀ (l : List (aF × β)) (y : aF × β), y ∈ l → aOk sI y.1 → ∃ z ∈ aMg dq l, aOk sI z.1 ∧ z.2 = y.2
  | [], y, hy, _ => by cases hy
  | x :: r, y, hy, ho => by
    unfold aMg
    rcases List.mem_cons.mp hy with rfl | hy
    · exact aIns_ok dq y (aMg dq r) y (Or.inl rfl) ho
    · obtain ⟨z, z1, z2, z3⟩ := aMg_ok dq r y hy ho
      obtain ⟨w, w1, w2, w3⟩ := aIns_ok dq x (aMg dq r) z (Or.inr z1) z2
      exact ⟨w, w1, w2, w3.trans z3⟩
theorem aLs_mem {α β : Type} {a : α} : ∀ {l : List (α ⊕ β)}, Sum.inl a ∈ l → a ∈ aLs l
  | [], h => by cases h
  | .inl b :: r, h => by
    rcases List.mem_cons.mp h with h | h
    · cases h; exact List.mem_cons_self
    · exact List.mem_cons_of_mem _ (aLs_mem h)
  | .inr b :: r, h => by
    rcases List.mem_cons.mp h with h | h
    · cases h
    · exact aLs_mem (l := r) h
theorem aRs_mem {α β : Type} {b : β} : ∀ {l : List (α ⊕ β)}, Sum.inr b ∈ l → b ∈ aRs l
  | [], h => by cases h
  | .inr a :: r, h => by
    rcases List.mem_cons.mp h with h | h
    · cases h; exact List.mem_cons_self
    · exact List.mem_cons_of_mem _ (aRs_mem h)
  | .inl a :: r, h => by
    rcases List.mem_cons.mp h with h | h
    · cases h
    · exact aRs_mem (l := r) h
theorem aRnd_sub {seg : aT → Option (List (aT ⊕ aR))} : ∀ (k : Nat) {pd : List aT} {dn rs : List aR}, aRnd seg k pd dn = some rs → ∀ r ∈ dn, r ∈ rs
  | 0, _, _, _, h => by cases h
  | k + 1, [], dn, rs, h => by cases h; exact fun r hr => hr
  | k + 1, s :: pd, dn, rs, h => by
    unfold aRnd at h
    split at h
    · cases h
    · exact fun r hr => aRnd_sub k h r (List.mem_append_left _ hr)
theorem aRnd_ok {seg : aT → Option (List (aT ⊕ aR))} {E : Nat → Nat → mL → List Value → mH → Option (mO × mH)} {f : Nat} (hseg : ∀ {s : aT} {l : List (aT ⊕ aR)} {hc : mH}, aOk sI s.1 → aHr sI sL s.2.2.2.2 hc → seg s = some l → ∃ q ∈ l, aHit sI sL E f s hc q) :
    ∀ (k : Nat) {pd : List aT} {dn rs : List aR} {s : aT} {hc : mH}, aRnd seg k pd dn = some rs → s ∈ pd → aOk sI s.1 → aHr sI sL s.2.2.2.2 hc → ∃ r ∈ rs, aHit sI sL E (k * f) s hc (.inr r)
  | 0, _, _, _, _, _, h, _, _, _ => by cases h
  | k + 1, [], _, _, _, _, _, hs, _, _ => by cases hs
  | k + 1, s0 :: pd, dn, rs, s, hc, h, hs, hO, hh => by
    have e : (k + 1) * f = f + k * f := by rw [Nat.add_mul, Nat.one_mul, Nat.add_comm]
    unfold aRnd at h
    split at h
    · cases h
    · rename_i ls hls
      obtain ⟨l, l1, l2⟩ := aMap_mem hls hs
      obtain ⟨q, q1, q2⟩ := hseg hO hh l1
      have hq : q ∈ ls.flatten := List.mem_flatten.mpr ⟨l, l2, q1⟩
      cases q with
      | inr r => exact ⟨r, aRnd_sub k h r (List.mem_append_right _ (aRs_mem hq)), aHit_mono (by omega) q2⟩
      | inl t =>
        obtain ⟨t1, hc', j, t2, t3, t4⟩ := q2
        obtain ⟨⟨uf, u⟩, u1, u2, u3⟩ := aMg_ok aDqT _ t (aLs_mem hq) t1
        obtain ⟨tf, t⟩ := t
        have u3 : u = t := u3
        subst u3
        obtain ⟨r, r1, r2⟩ := aRnd_ok hseg k h u1 u2 t2
        exact ⟨r, r1, aHit_trans (t := (uf, u)) t3 (by omega) t4 r2⟩
theorem aM_ok (hD : aDn sI sL) {k0 : Nat} {dflt : Nat → List Value} {P : Nat → Nat → Option mI} {Hn : Nat → List (Nat × Nat × Nat × Nat)} {mx : Nat → Nat} {jp : Nat → Nat → Bool} {f k N : Nat} (hN : k * f ≤ N) :
    ∀ (d mi : Nat) (as : List Value) (fs : aF) (h : aH) (rs : List aR) (hc : mH), aM k0 dflt P Hn mx jp f k d mi as fs h = some rs → aOk sI fs → aHr sI sL h hc → ∃ r ∈ rs, aOk sI r.1 ∧ ∃ hc', aHr sI sL r.2.2 hc' ∧ evM k0 dflt P Hn mx d N mi (aSs sI sL as) hc = some (aSo sI sL r.2.1, hc')
  | 0, _, _, _, _, _, _, h, _, _ => by cases h
  | d + 1, mi, as, fs, h, rs, hc, hr, hO, hh => by
    have IH := aM_ok hD (k0 := k0) (dflt := dflt) (P := P) (Hn := Hn) (mx := mx) (jp := jp) (f := f) (k := k) (N := N) hN d
    unfold aM at hr
    split at hr
    · rename_i hl
      split at hr
      · rename_i rs0 hrs
        cases hr
        obtain ⟨r, r1, r2, hc', j, r3, r4, r5⟩ := aRnd_ok (E := fun n => evF k0 dflt P Hn (d + 1) (evM k0 dflt P Hn mx d N) n mi) (fun {s l hc} a b c => aSeg_ok hD (call := evM k0 dflt P Hn mx d N) IH f a b c) k (s := (fs, 0, lv_args 0 as, [], h)) (hc := hc) hrs List.mem_cons_self hO hh
        obtain ⟨z, z1, z2, z3⟩ := aMg_ok aDqR _ r r1 r2
        refine ⟨z, z1, z2, hc', by rw [z3]; exact r3, ?_⟩
        unfold evM
        rw [lg_sl_s, if_pos hl, lv_args_s, z3]
        have := r5 (N - j)
        rw [Nat.sub_add_cancel (by omega)] at this
        exact this
      · cases hr
    · cases hr
end AN
