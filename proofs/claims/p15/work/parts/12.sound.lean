/-! SOUNDNESS OF THE SMALL MACHINE -/
section MS
variable {p : Program} {l : Launch} {e : Env} {R : Room} {s : State} {m : MethodId} {args : Array Value} {below : List Frame} {meth : Method} {c : Code} {Q : State → Prop}
variable {D : va_G} {cl : List vw_C} {tyC : Nat → ClassId} {k0 sz0 : Nat} {ad : Nat → Nat} {zs : List (String × String × String × Value)} {Ts : List Cond} {dflt : Nat → List Value} {strs : List (String × Nat × String)} {ncs : List (Nat × Nat)} {EX : Nat → String} {ct : Nat → Nat} {P : Nat → Nat → Option mI} {Hn : Nat → List (Nat × Nat × Nat × Nat)} {mx : Nat → Nat} {mt : Nat → mMt}
theorem mCl_inv {en : mI} {st : List Value} {h : mH} {ce : Nat} {as rest : List Value} (hc : mCl en st h = some (ce, as, rest)) : mIv en.1 = true ∧ en.2.2.2.1 = 0 ∧ ce = en.2.1 ∧ st = as.reverse ++ rest ∧ as.length = en.2.2.1 ∧ (rest.map fun v => v.category).sum ≤ 8 ∧ mRc en.1 en.2.2.2.2 as h = true := by
  unfold mCl at hc
  split at hc
  · rename_i hq
    obtain ⟨h1, h2, h3, h4, h5⟩ := hq
    cases hc
    refine ⟨h1, h2, rfl, ?_, ?_, h4, h5⟩
    · rw [List.reverse_reverse, List.take_append_drop]
    · rw [List.length_reverse, List.length_take]
      omega
  · cases hc
theorem va_SF {A : Nat → Prop} {H0 H H1 : Heap} {locs L : List Loc} {st t : State} (hS : va_S A H0 H locs) (h0 : st.heap = H) (hF : va_F A st t) (h1 : t.heap = H1) (hL : ∀ q ∈ L, A q.base) : va_S A H0 H1 (locs ++ L) := by
  subst h0; subst h1
  refine ⟨Nat.le_trans hS.1 hF.1, fun q a1 a2 => ?_, fun q hq => ?_⟩
  · rw [hF.2 q (Nat.lt_of_lt_of_le a1 hS.1) a2]
    exact hS.2.1 q a1 a2
  · rcases List.mem_append.mp hq with h | h
    · exact hS.2.2 q h
    · exact hL q h
set_option maxHeartbeats 8000000 in
/-- the instruction at hand is linked to its method -/
theorem mLk {T : State} {H : Heap} {locs : List Loc} {cells slots : Nat} {mi ce pc : Nat} {en : mI} {st as rest : List Value} {h : mH} {ls : Array Slot} {cc : ByteArray} (X : Stand p l e R s m args below meth c T locs cells slots) (hT : T.heap = H) (hx : p.tables.exec = Jvm.exec) (hb : c.code = cc) (hdg : decode cc pc = .ok (en.1, 3)) (hown : s.vm.findClass (mt mi).1.cls = some m.cls) (hts : ∀ w ∈ Ts, w.before args s = true)
    (hVc : mVc (mt mi).1.cls cl Ts mt Hn en) (hVM : mVM cl zs Ts dflt strs ncs EX ct P Hn mx mt ce) (hOK : mOK D cl tyC k0 sz0 ad zs s h H) (hcl : mCl en st h = some (ce, as, rest)) :
    mLkd p l e R s m args below meth c T locs cells slots (F0 m pc ls (mTs ad st)) (mTs ad rest) (mt ce).1 (as.map (mT ad)).toArray := by
  obtain ⟨h1, h2, rfl, rfl, h5, h6, h7⟩ := mCl_inv hcl
  have hV := hVc h2
  obtain ⟨w1, w2, w3, w4, -⟩ := hVM
  obtain ⟨i, o1, o2, o3, v⟩ := en
  dsimp only at *
  cases i <;> simp only [mIv, reduceCtorEq] at h1
  case invokevirtual ix =>
    obtain ⟨v1, v2, v3, v4, v5, v6⟩ := hV
    cases as with
    | nil => simp [mRc] at h7
    | cons r as =>
      cases r with
      | ref b =>
        simp only [mRc] at h7
        split at h7
        · rename_i ci fs hc
          split at h7
          · rename_i k
            have hk : ci = k := by simpa using h7
            obtain ⟨cell, q1, q3, hfc⟩ : ∃ cell : Cell, H[ad b]? = some cell ∧ cell.vm.isStatics = false ∧ s.vm.findClass (mt o1).1.cls = some cell.cls := by
              rcases v6 k rfl with ⟨T0, N0, hck⟩ | ⟨hcn, hcc⟩
              · obtain ⟨r0, g1, cell, q1, q2, q3, q4⟩ := (hOK.2.2.2.1 b _ hc).obj (by rw [hk]; exact hck)
                refine ⟨cell, q1, by rw [q3]; rfl, ?_⟩
                rw [q2, hk]
                exact (hOK.1.1 k _ hck).2.1
              · obtain ⟨⟨cell, q1, q2, q3⟩, -⟩ := (hOK.2.2.2.1 b _ hc).con (by rw [hk]; exact hcn)
                refine ⟨cell, q1, q2, ?_⟩
                rw [← hcc, ← hk]
                exact q3
            refine mLkV X hx hown (v1.imp (hts _) (fun ⟨host, hh⟩ => ⟨host, hts _ hh⟩)) (hts _ v2) (hts _ v3) (hts _ w3) w2 (b := ad b) (cellB := cell) (by rw [hT]; exact q1) q3 hfc rfl (argsL := as.map (mT ad)) ?_ ?_ (by rw [hb]; exact hdg)
            · rw [v4, List.length_map]
              simp only [List.length_cons] at h5
              rw [← h5]
              rfl
            · show List.map (mT ad) ((Value.ref b :: as).reverse ++ rest) = _
              simp [mT]
          · cases h7
        · cases h7
      | _ => simp [mRc] at h7
  case invokestatic ix =>
    obtain ⟨v1, v2, v4⟩ := hV
    refine mLkS X hx hown (v1.imp (hts _) (fun ⟨host, hh⟩ => ⟨host, hts _ hh⟩)) (hts _ v2) (hts _ w4) (hts _ w3) w2 rfl (argsL := as.map (mT ad)) ?_ ?_ (by rw [hb]; exact hdg)
    · rw [v4, List.length_map, h5]
    · show List.map (mT ad) (as.reverse ++ rest) = _
      simp
  case invokespecial ix =>
    obtain ⟨v0, v1, v2, v3, vr, v4, v5⟩ := hV
    cases as with
    | nil => simp [mRc] at h7
    | cons r as =>
      cases r with
      | ref b =>
        have w3' : Cond.code (mt o1).1 (mt o1).2.1 (mt o1).2.2.1 none ∈ Ts := by
          rw [v3, vr] at w3
          exact w3
        refine mLkI X hx hown v0 (hts _ v1) (hts _ v2) (hts _ w3') w2 (b := ad b) rfl (argsL := as.map (mT ad)) ?_ ?_ (by rw [hb]; exact hdg)
        · rw [v4, List.length_map]
          simp only [List.length_cons] at h5
          rw [← h5]
          rfl
        · show List.map (mT ad) ((Value.ref b :: as).reverse ++ rest) = _
          simp [mT]
      | _ => simp [mRc] at h7
set_option maxHeartbeats 16000000 in
theorem mRun {mi dp mc ms : Nat} {call : Nat → List Value → mH → Option (mO × mH)} {o : mO} {hF : mH} (had : mAd k0 sz0 ad) (hx : p.tables.exec = Jvm.exec) (hV : mVM cl zs Ts dflt strs ncs EX ct P Hn mx mt mi) (hcv : ∀ ce as h r, call ce as h = some r → mVM cl zs Ts dflt strs ncs EX ct P Hn mx mt ce)
    (hcall : ∀ ce as h o' h', call ce as h = some (o', h') → MetX l (mt ce).1 Ts { frames := dp - 1, cells := h'.length - h.length, slots := mSls h' - mSls h, locals := 39 * (dp - 1) } (mPc D cl tyC k0 sz0 ad zs strs ncs EX as h) (mQc D cl tyC k0 sz0 ad zs o' h') (h'.length - h.length) (mSls h' - mSls h) (mNew sz0))
    (hcm : ∀ ce as h o' h', call ce as h = some (o', h') → h.length ≤ h'.length ∧ mSls h ≤ mSls h') (hcx : ∀ ce as h x a h', call ce as h = some (.inr (x, a), h') → h'[a]? = some (mEx x))
    (hdp : 1 ≤ dp) (hRf : dp ≤ R.frames) (hRl : 39 * dp ≤ R.locals) (hRc : mc ≤ R.cells) (hRs : ms ≤ R.slots) (hct : ∀ y, ct y ≠ 0)
    (hb : c.code = (mt mi).2.1) (hml : c.maxLocals = (mt mi).2.2.1) (hex : c.exceptionTable.toList.map (fun h => (h.startPc, h.endPc, h.handlerPc, h.catchType)) = (Hn mi).map (fun q => (q.1, q.2.1, q.2.2.1, ct q.2.2.2))) (hown : s.vm.findClass (mt mi).1.cls = some m.cls) (hts : ∀ w ∈ Ts, w.before args s = true) (hwarm : ∀ w ∈ Ts, mWarm w)
    (hI : meth.name = (mt mi).1.name) (hk2 : mK2 ad strs ncs EX s) (hOK0 : ∀ z ∈ zs, mZ z.1 z.2.1 z.2.2.1 (mT ad z.2.2.2) (mNew sz0) s s.heap)
    (kRet : ∀ (pc : Nat) (en : mI) (st : List Value) (v : Option Value) (H : Heap) (locs : List Loc) (ls : Array Slot), P mi pc = some en → mRt en.1 en.2.1 st = some v → o = .inl v → mOK D cl tyC k0 sz0 ad zs s hF H → va_S (mNew sz0) s.heap H locs → W p l e R s m args below meth c H locs mc ms Q (F0 m pc ls (mTs ad st)))
    (kLeave : ∀ (pc x a : Nat) (st : List Value) (H : Heap) (locs : List Loc) (ls : Array Slot), Hn mi = [] → o = .inr (x, a) → mOK D cl tyC k0 sz0 ad zs s hF H → va_S (mNew sz0) s.heap H locs → WT p l e R s m args below meth c H locs mc ms Q (F0 m pc ls st) (ad a))
    (kThrow : ∀ (pc : Nat) (en : mI) (x : Nat) (h : mH) (H : Heap) (locs : List Loc) (ls : Array Slot) (cells slots : Nat), P mi pc = some en → mTh en = some x → 7 ≤ dp → o = .inr (x, h.length) → hF = h ++ [mEx x] → mOK D cl tyC k0 sz0 ad zs s h H → va_S (mNew sz0) s.heap H locs → ls.size = (mt mi).2.2.1 → cells + 1 = mc → slots + 6 = ms → W p l e R s m args below meth c H locs cells slots Q (F0 m pc ls [])) :
    ∀ (n pc : Nat) (lv : mL) (st : List Value) (h : mH) (H : Heap) (locs : List Loc) (cells slots : Nat) (ls : Array Slot), evF k0 dflt P Hn dp call n mi pc lv st h = some (o, hF) → mOK D cl tyC k0 sz0 ad zs s h H → va_S (mNew sz0) s.heap H locs → lv_has ls (mt mi).2.2.1 (mTl ad lv) → cells + (hF.length - h.length) = mc → slots + (mSls hF - mSls h) = ms →
      W p l e R s m args below meth c H locs cells slots Q (F0 m pc ls (mTs ad st))
  | 0, _, _, _, _, _, _, _, _, _, he, _, _, _, _, _ => by cases he
  | n + 1, pc, lv, st, h, H, locs, cells, slots, ls, he, hOK, hS, hl, hmc, hms => by
    have IH := mRun (mi := mi) (dp := dp) (mc := mc) (ms := ms) (call := call) (o := o) (hF := hF) had hx hV hcv hcall hcm hcx hdp hRf hRl hRc hRs hct hb hml hex hown hts hwarm hI hk2 hOK0 kRet kLeave kThrow n
    obtain ⟨w1, w2, w3, w4, w5, w6, w7, w8, w9⟩ := id hV
    have hws : ∀ w ∈ Ts, ∀ (a' : Array Value) (U : State), s.WarmedH U.vm → w.before a' U = true := fun w hw a' U hU => hwarm w hw _ _ _ _ hU (hts w hw)
    unfold evF at he
    split at he
    · cases he
    · rename_i en hen
      obtain ⟨vD, vV, vR, vC, vT⟩ := w7 pc en hen
      split at he
      · rename_i v hrt
        cases he
        rw [Nat.sub_self] at hmc hms
        cases hmc
        cases hms
        exact kRet pc en st v H locs ls hen hrt rfl hOK hS
      · split at he
        · rename_i x hth
          split at he
          · rename_i hq
            cases he
            have hst : st = [] := by simpa using hq.2
            subst hst
            refine kThrow pc en x h H locs ls cells slots hen hth hq.1 rfl rfl hOK hS hl.1 ?_ ?_
            · simpa using hmc
            · rw [mSls_app] at hms
              have : mSz (mEx x) = 6 := rfl
              omega
          · cases he
        · rename_i hth
          split at he
          · rename_i ce as rest hcl
            obtain ⟨i1, i2, i3, i4, i5, i6, i7⟩ := mCl_inv hcl
            have hd3 : decode (mt mi).2.1 pc = .ok (en.1, 3) := by rw [mIv_len i1] at vD; exact vD
            split at he
            · rename_i v h' hcr
              have hM := hcall ce as h _ h' hcr
              have hVM := hcv ce as h _ hcr
              obtain ⟨m1, m2⟩ := hcm ce as h _ h' hcr
              obtain ⟨m3, m4⟩ := evF_mono hcm n _ _ _ _ _ _ _ he
              obtain ⟨y1, y2, y3, y4, y5, y6, -⟩ := id hVM
              refine mCallW hM mPc_blind rfl rfl (by show dp - 1 + 1 ≤ R.frames; omega) (by show 8 + ((mt ce).2.2.1 + 11) + 39 * (dp - 1) ≤ R.locals; omega) hws y3 y4 hb hml hl.1 hd3 (by rw [mTs_cat]; exact i6) (by omega) (by omega)
                (fun U hU hW => ⟨rfl, by rw [hU]; exact hOK.moved hW.alike, hk2.warm hW⟩) (fun T hT X => mLk X hT hx hb hd3 hown hts vC hVM hOK hcl) (fun v' st0 t L g1 g2 g3 g4 => ?_) (fun x st0 t L g1 g2 g3 g4 => ?_)
              · obtain ⟨q1, q2, q3⟩ := g4
                have q1 : Outcome.returned v' = .returned (v.map (mT ad)) := q1
                cases q1
                have hk := IH (pc + 3) lv (v.toList ++ rest) h' t.heap (locs ++ L) (cells + (h'.length - h.length)) (slots + (mSls h' - mSls h)) ls he (q2.moved g2.alike.symm) (va_SF hS g1 q3 rfl g3) hl (by omega) (by omega)
                have e1 : mTs ad (v.toList ++ rest) = (v.map (mT ad)).toList ++ mTs ad rest := by
                  cases v <;> simp
                rw [e1] at hk
                exact hk
              · obtain ⟨q1, -, -⟩ := g4
                cases q1
            · rename_i x a h' hcr
              have hM := hcall ce as h _ h' hcr
              have hVM := hcv ce as h _ hcr
              obtain ⟨m1, m2⟩ := hcm ce as h _ h' hcr
              obtain ⟨y1, y2, y3, y4, y5, y6, -⟩ := id hVM
              have hxa := hcx ce as h x a h' hcr
              split at he
              · rename_i hp hhd
                obtain ⟨m3, m4⟩ := evF_mono hcm n _ _ _ _ _ _ _ he
                refine mCallW hM mPc_blind rfl rfl (by show dp - 1 + 1 ≤ R.frames; omega) (by show 8 + ((mt ce).2.2.1 + 11) + 39 * (dp - 1) ≤ R.locals; omega) hws y3 y4 hb hml hl.1 hd3 (by rw [mTs_cat]; exact i6) (by omega) (by omega)
                  (fun U hU hW => ⟨rfl, by rw [hU]; exact hOK.moved hW.alike, hk2.warm hW⟩) (fun T hT X => mLk X hT hx hb hd3 hown hts vC hVM hOK hcl) (fun v' st0 t L g1 g2 g3 g4 => ?_) (fun x' st0 t L g1 g2 g3 g4 => ?_)
                · obtain ⟨q1, -, -⟩ := g4
                  cases q1
                · obtain ⟨q1, q2, q3⟩ := g4
                  have q1 : Outcome.threw x' = .threw (ad a) := q1
                  cases q1
                  have hOK1 := q2.moved g2.alike.symm
                  obtain ⟨qh, hqh, hqx⟩ := mHd_mem hhd
                  obtain ⟨u1, u2, ⟨T0, N0, u3⟩, u4⟩ := w8 qh hqh
                  rw [hqx] at u2 u3 u4
                  obtain ⟨r0, z1, cell, z2, z3, z4, z5⟩ := ((hOK1.2.2.2.1 a _ hxa).obj u3)
                  have hfc : s.vm.findClass (EX x) = some cell.cls := by
                    rw [z3]
                    exact (hOK1.1.1 _ _ u3).2.1
                  refine WT.catch (own := (mt mi).1.cls) (EX := EX) (ct := ct) (x := x) (hp := hp) (cell := cell) hown z2 hfc (by rw [z4]; rfl) hct (hts _ u2) hex (fun q hq => hts _ (w8 q hq).1) (fun q hq hne => hk2.2.1 (x, q.2.2.2) (u4 q hq hne)) hhd ?_
                  exact IH hp lv [.ref a] h' t.heap (locs ++ L) (cells + (h'.length - h.length)) (slots + (mSls h' - mSls h)) ls he hOK1 (va_SF hS g1 q3 rfl g3) hl (by omega) (by omega)
              · split at he
                · rename_i hemp
                  cases he
                  have hn0 : Hn mi = [] := by simpa using hemp
                  refine mCallW hM mPc_blind rfl rfl (by show dp - 1 + 1 ≤ R.frames; omega) (by show 8 + ((mt ce).2.2.1 + 11) + 39 * (dp - 1) ≤ R.locals; omega) hws y3 y4 hb hml hl.1 hd3 (by rw [mTs_cat]; exact i6) (by omega) (by omega)
                    (fun U hU hW => ⟨rfl, by rw [hU]; exact hOK.moved hW.alike, hk2.warm hW⟩) (fun T hT X => mLk X hT hx hb hd3 hown hts vC hVM hOK hcl) (fun v' st0 t L g1 g2 g3 g4 => ?_) (fun x' st0 t L g1 g2 g3 g4 => ?_)
                  · obtain ⟨q1, -, -⟩ := g4
                    cases q1
                  · obtain ⟨q1, q2, q3⟩ := g4
                    have q1 : Outcome.threw x' = .threw (ad a) := q1
                    cases q1
                    rw [hmc, hms]
                    exact kLeave pc x a _ t.heap (locs ++ L) ls hn0 rfl (q2.moved g2.alike.symm) (va_SF hS g1 q3 rfl g3)
                · cases he
            · cases he
          · split at he
            · rename_i pc' lv' st' h' hnx
              obtain ⟨m1, m2⟩ := mNx_mono hnx
              obtain ⟨m3, m4⟩ := evF_mono hcm n _ _ _ _ _ _ _ he
              refine mNx_ok had hx hb vD hown hts vV (fun hq => by rw [hI]; simpa using hq) hth hml hOK hOK0 hk2.2.2 hS hl (by omega) (by omega) hnx (by omega) (by omega) (fun ls' H1 locs1 k1 k2 k3 => ?_)
              exact IH pc' lv' st' h' H1 locs1 (cells + (h'.length - h.length)) (slots + (mSls h' - mSls h)) ls' he k2 k3 k1 (by omega) (by omega)
            · cases he
end MS
