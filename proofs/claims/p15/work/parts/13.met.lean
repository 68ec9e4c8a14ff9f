/-! EVERY RUN OF THE SMALL MACHINE IS A CONTRACT -/
theorem lg_sl_T (ad : Nat → Nat) : ∀ as : List Value, (lg_sl (as.map (mT ad))).length = (lg_sl as).length
  | [] => rfl
  | v :: as => by
    have h := lg_sl_T ad as
    unfold lg_sl at h ⊢
    rw [List.map_cons, List.flatMap_cons, List.flatMap_cons, List.length_append, List.length_append, h]
    cases v <;> rfl
theorem lv_args_T (ad : Nat → Nat) : ∀ (as : List Value) (i : Nat), lv_args i (as.map (mT ad)) = mTl ad (lv_args i as)
  | [], _ => rfl
  | v :: as, i => by
    show (i, mT ad v) :: lv_args (if (mT ad v).category = 2 then i + 2 else i + 1) (as.map (mT ad)) = mTl ad ((i, v) :: lv_args (if v.category = 2 then i + 2 else i + 1) as)
    rw [mT_cat, lv_args_T ad as]
    rfl
section MM
variable {l : Launch}
variable {D : va_G} {cl : List vw_C} {tyC : Nat → ClassId} {k0 sz0 : Nat} {ad : Nat → Nat} {zs : List (String × String × String × Value)} {Ts : List Cond} {dflt : Nat → List Value} {strs : List (String × Nat × String)} {ncs : List (Nat × Nat)} {EX : Nat → String} {ct : Nat → Nat} {P : Nat → Nat → Option mI} {Hn : Nat → List (Nat × Nat × Nat × Nat)} {mx : Nat → Nat} {mt : Nat → mMt}
theorem mQc_of {o : mO} {hF : mH} {args : Array Value} {s t : State} {H : Heap} {locs : List Loc} {oc : Outcome} (ho : oc = mOut ad o) (hOK : mOK D cl tyC k0 sz0 ad zs s hF H) (hS : va_S (mNew sz0) s.heap H locs) (ht : t.heap = H) (hW : s.WarmedH t.vm) : mQc D cl tyC k0 sz0 ad zs o hF args s oc t :=
  ⟨ho, by rw [ht]; exact hOK.moved hW.alike, hS.F ht⟩
set_option maxHeartbeats 8000000 in
theorem mMet_ret {p : Program} {e : Env} {R : Room} {s : State} {m : MethodId} {args : Array Value} {below : List Frame} {meth : Method} {c : Code} {cc : ByteArray} {rt : Option FieldType} {o : mO} {hF : mH} {pc : Nat} {en : mI} {st : List Value} {v : Option Value} {H : Heap} {locs : List Loc} {ls : Array Slot} {mc ms : Nat} (hx : p.tables.exec = Jvm.exec) (hb : c.code = cc) (hr : meth.sig.returnType = rt) (hlocks : meth.locks = false) (hdg : decode cc pc = .ok (en.1, mLn en.1 en.2.1)) (vR : mVr rt en.1 en.2.1)
    (hrt : mRt en.1 en.2.1 st = some v) (ho : o = .inl v) (hOK : mOK D cl tyC k0 sz0 ad zs s hF H) (hS : va_S (mNew sz0) s.heap H locs) : W p l e R s m args below meth c H locs mc ms (MQX below (mQc D cl tyC k0 sz0 ad zs o hF) args s mc ms (mNew sz0)) (F0 m pc ls (mTs ad st)) := by
  subst ho
  obtain ⟨i, o1, o2⟩ := en
  dsimp only at *
  cases i <;> simp only [mRt, reduceCtorEq] at hrt
  case ireturn =>
    split at hrt
    · rename_i x
      split at hrt
      · cases hrt
        exact W.mono (fun t h => h.toX) (W.iret (v := x) hx hb (hr.trans (vR.1 rfl)) (fun t ht hW => mQc_of rfl hOK hS ht hW) hS.2.2 hdg hlocks)
      · split at hrt
        · rename_i hq
          cases hrt
          exact W.mono (fun t h => h.toX) (W.zret (v := x) hx hb (hr.trans (vR.2.1 rfl)) (by rcases hq with rfl | rfl <;> rfl) (fun t ht hW => mQc_of rfl hOK hS ht hW) hS.2.2 hdg hlocks)
        · cases hrt
      · split at hrt
        · rename_i hq
          cases hrt
          refine W.mono (fun t h => h.toX) (W.zret (v := x) hx hb (hr.trans (vR.2.2.1 rfl)) ?_ (fun t ht hW => mQc_of rfl hOK hS ht hW) hS.2.2 hdg hlocks)
          rw [← hq]
          exact pk_nc x
        · cases hrt
      · split at hrt
        · rename_i hq
          cases hrt
          refine W.mono (fun t h => h.toX) (W.zret (v := x) hx hb (hr.trans (vR.2.2.2 rfl)) ?_ (fun t ht hW => mQc_of rfl hOK hS ht hW) hS.2.2 hdg hlocks)
          show Value.int x.toInt8.toInt32 = .int x
          rw [hq]
        · cases hrt
      · cases hrt
    · cases hrt
  case lreturn =>
    split at hrt
    · rename_i x
      cases hrt
      exact W.mono (fun t h => h.toX) (W.lret (v := x) hx hb (hr.trans vR) (fun t ht hW => mQc_of rfl hOK hS ht hW) hS.2.2 hdg hlocks)
    · cases hrt
  case areturn =>
    split at hrt
    · rename_i x
      cases hrt
      rcases vR with ⟨n, hn⟩ | ⟨n, hn⟩
      · exact W.mono (fun t h => h.toX) (W.aret (v := .ref (ad x)) hx hb (hr.trans hn) (Or.inl ⟨_, rfl⟩) (Or.inr ⟨_, rfl⟩) (fun t ht hW => mQc_of rfl hOK hS ht hW) hS.2.2 hdg hlocks)
      · exact W.mono (fun t h => h.toX) (W.aret (v := .ref (ad x)) hx hb (hr.trans hn) (Or.inr ⟨_, rfl⟩) (Or.inr ⟨_, rfl⟩) (fun t ht hW => mQc_of rfl hOK hS ht hW) hS.2.2 hdg hlocks)
    · cases hrt
  case return_ =>
    split at hrt
    · cases hrt
      exact W.mono (fun t h => h.toX) (W.vret hx hb (hr.trans vR) (fun t ht hW => mQc_of rfl hOK hS ht hW) hS.2.2 hdg hlocks)
    · cases hrt
set_option maxHeartbeats 8000000 in
theorem mMet_throw {p : Program} {e : Env} {R : Room} {s : State} {m : MethodId} {args : Array Value} {below : List Frame} {meth : Method} {c : Code} {cc : ByteArray} {own : String} {pc : Nat} {en : mI} {x : Nat} {h : mH} {H : Heap} {locs : List Loc} {ls : Array Slot} {cells slots : Nat} (hnt : l.stackTraces = false) (had : mAd k0 sz0 ad) (hx : p.tables.exec = Jvm.exec) (hb : c.code = cc) (hml : c.maxLocals = ls.size) (hlocks : meth.locks = false) (hdg : decode cc pc = .ok (en.1, mLn en.1 en.2.1)) (vT : mVt own cl Ts strs EX cc pc en)
    (hth : mTh en = some x) (hout : c.exceptionTable.toList = []) (hown : s.vm.findClass own = some m.cls) (hts : ∀ w ∈ Ts, w.before args s = true) (hwarm : ∀ w ∈ Ts, mWarm w) (hk2 : mK2 ad strs ncs EX s)
    (hz1 : ∃ v, ("java/lang/Throwable", "UNASSIGNED_STACK", "[Ljava/lang/StackTraceElement;", v) ∈ zs ∧ (v = .null ∨ ∃ t, v = .ref t)) (hz2 : ∃ v, ("java/lang/Throwable", "SUPPRESSED_SENTINEL", "Ljava/util/List;", v) ∈ zs ∧ (v = .null ∨ ∃ t, v = .ref t))
    (hOK : mOK D cl tyC k0 sz0 ad zs s h H) (hS : va_S (mNew sz0) s.heap H locs) (hRc : cells + 1 ≤ R.cells) (hRs : slots + 6 ≤ R.slots) (hRf : 7 ≤ R.frames) (hRl : 100 ≤ R.locals) :
    W p l e R s m args below meth c H locs cells slots (MQX below (mQc D cl tyC k0 sz0 ad zs (.inr (x, h.length)) (h ++ [mEx x])) args s (cells + 1) (slots + 6) (mNew sz0)) (F0 m pc ls []) := by
  obtain ⟨ix, kx, ic, tx, T, xk, kl, t1, t2, t3, t4, t5, t6, t7, t8, t9, t10, t10b, t11, t12⟩ := vT x hth
  rw [t1] at hdg
  have hA := mAd_at had hOK
  have hmTv : ∀ v : Value, (v = .null ∨ ∃ t, v = .ref t) → (mT ad v = .null ∨ ∃ t, mT ad v = .ref t) := fun v hv => by
    rcases hv with rfl | ⟨t, rfl⟩
    · exact Or.inl rfl
    · exact Or.inr ⟨_, rfl⟩
  have key := mThrow (R := R) (Qc := mQc D cl tyC k0 sz0 ad zs (.inr (x, h.length)) (h ++ [mEx x])) (free := mNew sz0) (own := own) (X := EX x) (tx := tx) (names := ["java/lang/RuntimeException", "java/lang/Exception"]) (xk := xk) (ix := ix) (kx := kx) (ic := ic) (cX := D.1 (mXc x)) (st := []) (cells := cells) (slots := slots) (locs := locs) (H := H) (s := s) (m := m) (args := args) (below := below) (meth := meth) (e := e) (p := p) (l := l) (c := c) (cc := cc) (pc := pc) (ls := ls)
    hnt hx hb hml hlocks hdg t2 t3 t4 t5 (fun y hy => by rw [hout] at hy; cases hy) (fun U hU hUH => ?_) t10b t10 (by decide) hRc hRs (by show 2 + 3 < R.frames; omega) (by show 0 ≤ 8; omega) (by show 9 + (13 * (2 + 1) + 42) ≤ R.locals; omega) (fun t hW hz ho hcx => ?_) hS.2.2
  · exact key
  · have hOKU := hOK.moved hU.alike
    refine ⟨by rw [hU.alike.findClass]; exact hown, hwarm _ t6 _ _ _ _ hU (hts _ t6), hwarm _ t7 _ _ _ _ hU (hts _ t7), hwarm _ t8 _ _ _ _ hU (hts _ t8), (hOKU.1.1 _ _ t12).2.1, (hk2.warm hU).1 _ t9, fun a ha => ?_⟩
    rcases t11 a ha with h1 | h1 | h1
    · exact hwarm _ h1 _ _ _ _ hU (hts _ h1)
    · obtain ⟨v, hv, hvv⟩ := hz1
      have h2 := hOKU.2.2.2.2 _ hv
      rw [← hUH] at h2
      rcases h1 with rfl | rfl
      · exact mIsRef h2.z (hmTv v hvv)
      · exact h2.lays
    · obtain ⟨v, hv, hvv⟩ := hz2
      have h2 := hOKU.2.2.2.2 _ hv
      rw [← hUH] at h2
      rcases h1 with rfl | rfl
      · exact mIsRef h2.z (hmTv v hvv)
      · exact h2.lays
  · obtain ⟨cell, c1, c2, c3⟩ := hcx
    refine ⟨by show Outcome.threw H.size = .threw (ad h.length); rw [hA], (hOK.moved hW.alike).push had hz ho ?_, ?_⟩
    · refine mAt.mk (show va_at D cl (ad h.length, .inr (mXc x, _)) t.heap from ⟨_, t12, cell, ?_, c2, c3, fun k hk => absurd hk (Nat.not_lt_zero k)⟩)
      show t.heap[ad h.length]? = some cell
      rw [hA]
      exact c1
    · refine ⟨Nat.le_trans hS.1 (by omega), fun q q1 q2 => ?_⟩
      rw [ho q (Nat.lt_of_lt_of_le q1 hS.1)]
      exact hS.2.1 q q1 q2
set_option maxHeartbeats 8000000 in
theorem mMet (had : mAd k0 sz0 ad) (hnt : l.stackTraces = false) (hct : ∀ y, ct y ≠ 0) (hwarm : ∀ w ∈ Ts, mWarm w) (hVM : ∀ mi, P mi 0 ≠ none → mVM cl zs Ts dflt strs ncs EX ct P Hn mx mt mi)
    (hz1 : ∃ v, ("java/lang/Throwable", "UNASSIGNED_STACK", "[Ljava/lang/StackTraceElement;", v) ∈ zs ∧ (v = .null ∨ ∃ t, v = .ref t)) (hz2 : ∃ v, ("java/lang/Throwable", "SUPPRESSED_SENTINEL", "Ljava/util/List;", v) ∈ zs ∧ (v = .null ∨ ∃ t, v = .ref t)) :
    ∀ (d n mi : Nat) (as : List Value) (h : mH) (o : mO) (h' : mH), evM k0 dflt P Hn mx d n mi as h = some (o, h') →
      MetX l (mt mi).1 Ts { frames := d, cells := h'.length - h.length, slots := mSls h' - mSls h, locals := 39 * d } (mPc D cl tyC k0 sz0 ad zs strs ncs EX as h) (mQc D cl tyC k0 sz0 ad zs o h') (h'.length - h.length) (mSls h' - mSls h) (mNew sz0)
  | 0, _, _, _, _, _, _, he => by cases he
  | d + 1, n, mi, as, h, o, h', he => by
    have IH := mMet had hnt hct hwarm hVM hz1 hz2 d n
    have he0 := he
    unfold evM at he
    split at he
    · rename_i hlen
      have hP0 : P mi 0 ≠ none := fun hp => by
        cases n with
        | zero => cases he
        | succ n =>
          unfold evF at he
          rw [hp] at he
          cases he
      have hV := hVM mi hP0
      obtain ⟨w1, w2, w3, w4, w5, w6, w7, w8, w9⟩ := id hV
      refine MetX.ofW (cc := (mt mi).2.1) (maxL := (mt mi).2.2.1) (ret := (mt mi).2.2.2) (hs := (Hn mi).map (fun q => (q.1, q.2.1, q.2.2.1, ct q.2.2.2))) w1 w3 ?_
      intro p e s m args below meth c s₁ B hml hex hv
      obtain ⟨rfl, hOK, hk2⟩ := hv
      have hx := B.exec
      have hb := B.bytes
      have hr := B.returns
      have hts := atoms_spec (ws := Ts) B.pre
      have hown : s.vm.findClass (mt mi).1.cls = some m.cls := findClass_of_methodNamed B.named
      have hlocks := B.notSynchronized
      have hin : meth.name = (mt mi).1.name := (name_of_methodNamed B.named B.method).1
      have hl := lv_entry (as.map (mT ad)) (n := (mt mi).2.2.1) (by rw [lg_sl_T, ← w5]; exact hlen)
      rw [lg_entry_eq]
      generalize (lg_sl (as.map (mT ad)) ++ List.replicate ((mt mi).2.2.1 - (lg_sl (as.map (mT ad))).length) Slot.unset).toArray = ls at hl ⊢
      rw [lv_args_T] at hl
      have hcm := fun ce as h o h' => evM_mono (k0 := k0) (dflt := dflt) (P := P) (Hn := Hn) (mx := mx) d n ce as h o h'
      have hcx := fun ce as h x a h' => evM_thrown (k0 := k0) (dflt := dflt) (P := P) (Hn := Hn) (mx := mx) d n ce as h x a h'
      have hcv : ∀ ce as h r, evM k0 dflt P Hn mx d n ce as h = some r → mVM cl zs Ts dflt strs ncs EX ct P Hn mx mt ce := fun ce as h r hr => by
        refine hVM ce (fun hp => ?_)
        cases d with
        | zero => cases hr
        | succ d =>
          unfold evM at hr
          split at hr
          · cases n with
            | zero => cases hr
            | succ n =>
              unfold evF at hr
              rw [hp] at hr
              cases hr
          · cases hr
      exact mRun (R := { frames := d + 1, cells := h'.length - h.length, slots := mSls h' - mSls h, locals := 39 * (d + 1) }) (dp := d + 1) (mc := h'.length - h.length) (ms := mSls h' - mSls h) had hx hV hcv (fun ce as h o' h' hc => IH ce as h o' h' hc) hcm hcx (by omega) (Nat.le_refl _) (Nat.le_refl _) (Nat.le_refl _) (Nat.le_refl _) hct hb hml hex hown hts hwarm hin hk2 hOK.2.2.2.2
        (fun pc en st v H locs ls q1 q2 q3 q4 q5 => mMet_ret hx hb hr hlocks (w7 pc en q1).1 (w7 pc en q1).2.2.1 q2 q3 q4 q5)
        (fun pc x a st H locs ls q1 q2 q3 q4 => WT.leave (fun y hy => by
          rw [q1] at hex
          have : c.exceptionTable.toList = [] := by simpa using hex
          rw [this] at hy
          cases hy) hlocks (fun t ht hW => mQc_of (by rw [q2]; rfl) q3 q4 ht hW) q4.2.2)
        (fun pc en x h1 H locs ls cells slots q1 q2 q3 q4 q5 q6 q7 q8 q9 q10 => by
          have hn0 : Hn mi = [] := by
            cases hh : Hn mi with
            | nil => rfl
            | cons a b =>
              have := w9 (by rw [hh]; exact List.cons_ne_nil _ _) pc en q1
              rw [q2] at this
              cases this
          have hex0 : c.exceptionTable.toList = [] := by
            rw [hn0] at hex
            simpa using hex
          have hk := mMet_throw (R := { frames := d + 1, cells := h'.length - h.length, slots := mSls h' - mSls h, locals := 39 * (d + 1) }) (below := below) (e := e) hnt had hx hb (by rw [hml, q8]) hlocks (w7 pc en q1).1 (w7 pc en q1).2.2.2.2 q2 hex0 hown hts hwarm hk2 hz1 hz2 q6 q7 (by show cells + 1 ≤ h'.length - h.length; omega) (by show slots + 6 ≤ mSls h' - mSls h; omega) (by show 7 ≤ d + 1; exact q3) (by show 100 ≤ 39 * (d + 1); omega)
          rw [← q4, ← q5, q9, q10] at hk
          exact hk)
        n 0 (lv_args 0 as) [] h s.heap [] 0 0 ls he hOK va_S.rf hl (by omega) (by omega)
    · cases he
end MM
