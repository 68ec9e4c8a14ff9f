/-! ONE STEP OF THE SMALL MACHINE, WHERE NO CALL, RETURN OR THROW IS AT HAND -/
def mSls (h : mH) : Nat := (h.map mSz).sum
theorem mSls_app (h : mH) (x : mC) : mSls (h ++ [x]) = mSls h + mSz x := by simp [mSls]
theorem mSls_set : ∀ (h : mH) {a : Nat} {x y : mC}, h[a]? = some x → mSz y = mSz x → mSls (h.set a y) = mSls h
  | [], a, x, y, hx, _ => by simp at hx
  | z :: h, 0, x, y, hx, hs => by
    have hz : z = x := by simpa using hx
    subst hz
    simp [mSls, hs]
  | z :: h, a + 1, x, y, hx, hs => by
    have h1 := mSls_set h (a := a) (x := x) (y := y) (by simpa using hx) hs
    show (mSz z :: (h.set a y).map mSz).sum = (mSz z :: h.map mSz).sum
    rw [List.sum_cons, List.sum_cons]
    exact congrArg (mSz z + ·) h1
theorem mP_keeps {k0 : Nat} {i : Instr} {o1 o2 o3 : Nat} {st st' : List Value} {h h' : mH} (hg : mP k0 i o1 o2 o3 st h = some (st', h')) : h'.length = h.length ∧ mSls h' = mSls h := by
  cases i <;> simp only [mP, reduceCtorEq] at hg
  case putfield ix =>
    split at hg
    · split at hg
      · rename_i hc
        split at hg
        · cases hg
          exact ⟨by simp, mSls_set h hc (by simp [mSz])⟩
        · cases hg
      · cases hg
    · cases hg
  all_goals
    split at hg
    · split at hg
      · rename_i hc
        split at hg
        · cases hg
          exact ⟨by simp, mSls_set h hc (by simp [mSz])⟩
        · cases hg
      · cases hg
    · cases hg
theorem mN_grows {dflt : Nat → List Value} {i : Instr} {o1 : Nat} {st st' : List Value} {h h' : mH} (hg : mN dflt i o1 st h = some (st', h')) : ∃ x, h' = h ++ [x] := by
  cases i <;> simp only [mN, reduceCtorEq] at hg
  case newarray t =>
    cases t <;> simp only [reduceCtorEq] at hg
    all_goals
      obtain ⟨n, r, -, -, -, -, rfl⟩ := mNa_inv hg
      exact ⟨_, rfl⟩
  case new ix =>
    cases hg
    exact ⟨_, rfl⟩
theorem mX_same {o3 : Nat} {st st' : List Value} {h h' : mH} (hg : mX o3 st h = some (st', h')) : h' = h := by
  unfold mX at hg
  split at hg
  · split at hg
    · split at hg
      · cases hg; rfl
      · cases hg
    · cases hg
  · split at hg
    · split at hg
      · cases hg; rfl
      · cases hg
    · cases hg
  · split at hg
    · split at hg
      · cases hg; rfl
      · cases hg
    · cases hg
  · cases hg
theorem mY_keeps {k0 o3 : Nat} {st st' : List Value} {h h' : mH} (hg : mY k0 o3 st h = some (st', h')) : h'.length = h.length ∧ mSls h' = mSls h := by
  unfold mY at hg
  split at hg
  · split at hg
    · split at hg
      · rename_i ha hb
        split at hg
        · cases hg
          exact ⟨List.length_set .., mSls_set _ ha rfl⟩
        · cases hg
      · cases hg
    · cases hg
  · split at hg
    · split at hg
      · rename_i ha hb
        split at hg
        · cases hg
          exact ⟨List.length_set .., mSls_set _ ha rfl⟩
        · cases hg
      · cases hg
    · cases hg
  · cases hg
theorem mY_o3 {k0 o3 : Nat} {st : List Value} {h : mH} {r : List Value × mH} (hg : mY k0 o3 st h = some r) : o3 = 4 ∨ o3 = 5 := by
  unfold mY at hg
  split at hg
  · exact Or.inl rfl
  · exact Or.inr rfl
  · cases hg
def mVd (nL : Nat) (i : Instr) (o1 : Nat) : Prop := match i with
  | .istore _ => o1 = nL
  | .istore_n _ => o1 = nL
  | .lstore _ => o1 = nL
  | .lstore_n _ => o1 = nL
  | .astore _ => o1 = nL
  | .astore_n _ => o1 = nL
  | .iinc _ _ => o1 = nL
  | _ => True
theorem mD_nL {nL : Nat} {i : Instr} {o1 : Nat} {lv : mL} {st : List Value} {r : mL × List Value} (h : mD i o1 lv st = some r) (hV : mVd nL i o1) : o1 = nL := by
  cases i <;> simp only [mD, reduceCtorEq] at h <;> exact hV
theorem mIv_len {i : Instr} {o1 : Nat} (h : mIv i = true) : mLn i o1 = 3 := by
  cases i <;> simp only [mIv, reduceCtorEq] at h <;> rfl
/-- what an entry must be -/
def mV (own : String) (cl : List vw_C) (zs : List (String × String × String × Value)) (Ts : List Cond) (dflt : Nat → List Value) (isI : Bool) (nL : Nat) (en : mI) : Prop :=
  mVd nL en.1 en.2.1 ∧ mVg own cl zs Ts en.1 en.2.1 en.2.2.1 en.2.2.2.2 ∧ mVp own cl Ts isI en.1 en.2.1 en.2.2.1 en.2.2.2.1 ∧ (en.2.2.2.1 = 0 ∨ mNw en.1 = false → mVn own cl Ts dflt en.1 en.2.1) ∧ (mIv en.1 = true → mVx own Ts en.1 en.2.2.2.1)
section MX
variable {p : Program} {l : Launch} {e : Env} {R : Room} {s : State} {m : MethodId} {args : Array Value} {below : List Frame} {meth : Method} {c : Code} {H : Heap} {locs : List Loc} {cells slots : Nat} {Q : State → Prop}
variable {cc : ByteArray} {pc : Nat} {ls : Array Slot} {rest : List Value} {D : va_G} {cl : List vw_C} {tyC : Nat → ClassId} {k0 sz0 : Nat} {ad : Nat → Nat} {zs : List (String × String × String × Value)} {Ts : List Cond} {own : String}
set_option maxHeartbeats 4000000 in
theorem mNx_ok {dflt : Nat → List Value} {isI : Bool} {nL : Nat} {en : mI} {pc' : Nat} {lv lv' : mL} {st st' : List Value} {h h' : mH} (had : mAd k0 sz0 ad) (hx : p.tables.exec = Jvm.exec) (hb : c.code = cc) (hdg : decode cc pc = .ok (en.1, mLn en.1 en.2.1)) (hown : s.vm.findClass own = some m.cls) (hts : ∀ w ∈ Ts, w.before args s = true) (hV : mV own cl zs Ts dflt isI nL en) (hI : isI = true → meth.name = "<init>") (hth : mTh en = none)
    (hml : c.maxLocals = nL) (hOK : mOK D cl tyC k0 sz0 ad zs s h H) (hOK0 : ∀ z ∈ zs, mZ z.1 z.2.1 z.2.2.1 (mT ad z.2.2.2) (mNew sz0) s s.heap) (hRN : vk_R mRN.1 mRN.2.1 mRN.2.2.1 (ad mRN.2.2.2) s) (hS : va_S (mNew sz0) s.heap H locs) (hl : lv_has ls nL (mTl ad lv)) (hfr : 1 ≤ R.frames) (hlo : 20 ≤ R.locals)
    (hn : mNx k0 dflt en pc lv st h = some (pc', lv', st', h')) (hcells : cells + (h'.length - h.length) ≤ R.cells) (hslots : slots + (mSls h' - mSls h) ≤ R.slots)
    (kk : ∀ (ls' : Array Slot) (H1 : Heap) (locs1 : List Loc), lv_has ls' nL (mTl ad lv') → mOK D cl tyC k0 sz0 ad zs s h' H1 → va_S (mNew sz0) s.heap H1 locs1 → W p l e R s m args below meth c H1 locs1 (cells + (h'.length - h.length)) (slots + (mSls h' - mSls h)) Q (F0 m pc' ls' (mTs ad st'))) : W p l e R s m args below meth c H locs cells slots Q (F0 m pc ls (mTs ad st)) := by
  obtain ⟨v1, v2, v3, v4, v5⟩ := hV
  have same : ∀ {q1 : Nat} {l1 : Array Slot} {s1 : List Value}, W p l e R s m args below meth c H locs (cells + (h.length - h.length)) (slots + (mSls h - mSls h)) Q (F0 m q1 l1 s1) → W p l e R s m args below meth c H locs cells slots Q (F0 m q1 l1 s1) := fun k => by
    rw [Nat.sub_self, Nat.sub_self] at k
    exact k
  unfold mNx at hn
  split at hn
  · rename_i st1 hA
    cases hn
    exact mA_ok ad hx hb hdg hA (same (kk ls H locs hl hOK hS))
  · split at hn
    · rename_i v hB
      cases hn
      exact mB_ok ad hx hb hdg hl hB (same (kk ls H locs hl hOK hS))
    · split at hn
      · rename_i lv1 st1 hD
        cases hn
        have hq := mD_nL hD v1
        rw [hq] at hD hdg
        exact mD_ok ad hx hb hdg hl hD (fun ls' hl' => same (kk ls' H locs hl' hOK hS))
      · split at hn
        · rename_i pc1 st1 hJ
          cases hn
          exact mJ_ok ad had.2.2 hx hb hdg hJ (same (kk ls H locs hl hOK hS))
        · split at hn
          · rename_i st1 hG
            cases hn
            exact mG_ok had hx hb hdg hown hts v2 hOK hOK0 hRN hS hG (same (kk ls H locs hl hOK hS))
          · split at hn
            · rename_i st1 h1 hP
              cases hn
              obtain ⟨e1, e2⟩ := mP_keeps hP
              refine mP_ok had hx hb hdg hown hts v3 hI hOK hS hP (fun H1 locs1 k1 k2 => ?_)
              have k3 := kk ls H1 locs1 hl k1 k2
              rw [e1, e2, Nat.sub_self, Nat.sub_self] at k3
              exact k3
            · split at hn
              · rename_i st1 h1 hN
                cases hn
                obtain ⟨x, hx1⟩ := mN_grows hN
                have e1 : h'.length - h.length = 1 := by rw [hx1]; simp
                have e2 : mSls h' - mSls h = mSz x := by rw [hx1, mSls_app]; omega
                rw [e1, e2] at kk
                rw [e1] at hcells
                rw [e2] at hslots
                have h0 : en.2.2.2.1 = 0 ∨ mNw en.1 = false := by
                  unfold mTh at hth
                  cases hnw : mNw en.1
                  · exact Or.inr rfl
                  · rw [if_pos hnw] at hth
                    split at hth
                    · rename_i hz; exact Or.inl hz
                    · cases hth
                have hinj : ∀ y : mC, h' = h ++ [y] → y = x := fun y hy => by
                  have := hy.symm.trans hx1
                  simpa using this
                refine mN_ok had hx hb hdg hown hts (v4 h0) hOK hS hN hcells (fun y hy => by rw [hinj y hy]; exact hslots) (fun y H1 hy k1 k2 => ?_)
                rw [hinj y hy]
                exact kk ls H1 locs hl k1 k2
              · split at hn
                · rename_i hiv
                  split at hn
                  · rename_i st1 h1 hX
                    cases hn
                    have e1 := mX_same hX
                    subst e1
                    rw [mIv_len hiv] at hdg
                    exact mX_ok (nL := nL) hx hb hdg hown hts (v5 hiv) (by rw [hml]; exact hl.1) hX hfr hlo (by omega) (by omega) (fun _ => same (kk ls H locs hl hOK hS))
                  · split at hn
                    · rename_i st1 h1 hY
                      cases hn
                      obtain ⟨e1, e2⟩ := mY_keeps hY
                      rw [mIv_len hiv] at hdg
                      have hVy : mVy own Ts en.1 := by
                        have hv := v5 hiv
                        rcases mY_o3 hY with ho | ho <;> (rw [ho] at hv; exact hv)
                      refine mY_ok had hx hb (by rw [hml, hl.1]) hdg hown hts hVy hOK hS hY hfr hlo (fun H1 locs1 k1 k2 => ?_)
                      have k3 := kk ls H1 locs1 hl k1 k2
                      rw [e1, e2, Nat.sub_self, Nat.sub_self] at k3
                      exact k3
                    · cases hn
                · cases hn
end MX
