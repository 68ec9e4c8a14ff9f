/-! THE CLAIM OUT OF ONE WALK OF THE LAW'S BODY: begun as the skeleton's second part; the launch has no stack traces, and the law's own code word stands among the tables' -/
def R_law : String := "MixMachineLaw"
def lw_P (b : Addr) (xs : List Int32) (args : Array Value) (s : State) : Prop := args = #[.ref b] ∧ s.IntsAt b xs ∧ xs.length ≤ 2560 ∧ (Jvm.Cond.and given_1 narrow_1).before args s = true
def lw_Q (_ : Array Value) (s : State) (o : Outcome) (t : State) : Prop := o = .returned (some (.int 1)) ∧ Framed s o t [] 601024 7293034
def lw_Z (below : List Frame) (a : Array Value) (s : State) : State → Prop := fun t => ∃ o, t.status = .running ∧ Ended t below o ∧ lw_Q a s o t
theorem lw_ret {p : Program} {l : Launch} {e : Env} {s : State} {m : MethodId} {below : List Frame} {meth : Method} {c : Code} {b : Nat} (hx : p.tables.exec = Jvm.exec) (hb : c.code = code) (hr : meth.sig.returnType = ret) (hlocks : meth.locks = false) {pc : Nat} {H : Heap} {ls : Array Slot} (hdg : decode code pc = .ok (.ireturn, 1)) : W p l e room_1 s m #[Value.ref b] below meth c H [] 601024 7293034 (lw_Z below #[Value.ref b] s) (F0 m pc ls [.int 1]) := by
  intro T hT X
  obtain ⟨fs, hret, hrun, hended, hW, hframe⟩ := X.leave (v := some (.int 1)) (hlocks := hlocks) (fun h => by rw [hr] at h; cases h)
  have hmeth' : T.vm.method? m = some meth := X.method'
  refine ⟨T.setFrames fs, ?_, .returned (some (.int 1)), hrun, hended, rfl, ⟨_, rfl⟩, hW, hframe⟩
  jvm_step X.here [X.here.top, hx, hb, hdg, hmeth', hr, ret, narrow_b1]
  (try refine ⟨rfl, ?_⟩); (try refine ⟨rfl, ?_⟩)
  first | (intro acts; rw [hret _ acts rfl rfl rfl]) | rw [hret _ _ rfl rfl rfl]
  exact Steps.refl _
def lw_At (p : Program) (s : State) (m : MethodId) (meth : Method) (c : Code) (b L : Nat) (xs : Nat → Int32) : Prop :=
  p.tables.exec = Jvm.exec ∧ c.code = code ∧ meth.sig.returnType = ret ∧ c.maxLocals = 7 ∧ s.vm.findClass R_law = some m.cls ∧ (∀ w ∈ nTb, w.before #[Value.ref b] s = true) ∧ va_X b L xs s s.heap ∧ b < s.heap.size ∧ meth.locks = false ∧ (Jvm.Cond.and given_1 narrow_1).before #[Value.ref b] s = true ∧ c.exceptionTable.toList.map (fun h => (h.startPc, h.endPc, h.handlerPc, h.catchType)) = [] ∧ meth.name = x.name
theorem evM_P0 {k0 : Nat} {dflt : Nat → List Value} {P : Nat → Nat → Option mI} {Hn : Nat → List (Nat × Nat × Nat × Nat)} {mx : Nat → Nat} {d n ce : Nat} {as : List Value} {h : mH} {r : mO × mH} (hr : evM k0 dflt P Hn mx d n ce as h = some r) : P ce 0 ≠ none := by
  intro hp
  cases d with
  | zero => cases hr
  | succ d =>
    unfold evM at hr
    split at hr
    · cases n with
      | zero => cases hr
      | succ n =>
        unfold evF at hr
        rw [hp] at hr
        cases hr
    · cases hr
theorem mRt_int {i : Instr} {o1 : Nat} {st : List Value} {x : Int32} (h : mRt i o1 st = some (some (.int x))) : i = .ireturn ∧ st = [.int x] := by
  cases i <;> simp only [mRt, reduceCtorEq] at h
  case ireturn =>
    split at h
    · refine ⟨rfl, ?_⟩
      split at h
      · cases h; rfl
      · split at h
        · cases h; rfl
        · cases h
      · split at h
        · cases h; rfl
        · cases h
      · split at h
        · cases h; rfl
        · cases h
      · cases h
    · cases h
  all_goals
    split at h
    · cases h
    · cases h
theorem nP0 (v5 : Value) : mP' (nCodw v5) 0 0 ≠ none := by
  intro h
  have : (mP' nCods 0 0).isSome = true := by decide +kernel
  have e : mP' (nCodw v5) 0 0 = mP' nCods 0 0 := rfl
  rw [← e, h] at this
  cases this
theorem nCt_ne (y : Nat) : nCt y ≠ 0 := by
  unfold nCt
  split <;> decide
theorem nSl0 : (lg_sl [Value.ref 0]).length ≤ nMxx' 0 := by decide +kernel
set_option maxHeartbeats 8000000 in
theorem whole_start {p : Program} {e : Env} {s : State} {m : MethodId} {below : List Frame} {meth : Method} {c : Code} (l : Launch) (hnt : l.stackTraces = false) {b L : Nat} {xs : Nat → Int32} (hL : L ≤ 2560) (C0 : lw_At p s m meth c b L xs) : W p l e room_1 s m #[Value.ref b] below meth c s.heap [] 0 0 (lw_Z below #[Value.ref b] s) (entryFrame m ([Value.ref b] : List Value).toArray 7) := by
  obtain ⟨hx, hb, hr, hml, hown, htb, hX, hbl, hlocks, hgv, hex, hnm⟩ := C0
  obtain ⟨D, tyC, ad, v3, v4, v5, had, had0, hv3, hv4, hv5, hOK, hk2⟩ := nStart htb hX hbl hgv
  obtain ⟨N, hF, he, hF1, hF2⟩ := nRunAll (v5 := v5) hv5 hL xs
  have hlen : (nOld L xs).length = 158 := nOld_len L xs
  have hVM := nVMw v3 v4 v5
  have hV0 := hVM 0 (nP0 v5)
  have hwarm : ∀ w ∈ mTs' nTb, mWarm w := fun w hw => mGw_ok (List.mem_filter.mp hw).2
  have hts : ∀ w ∈ mTs' nTb, w.before #[Value.ref b] s = true := fun w hw => htb w (List.mem_filter.mp hw).1
  have hz1 : ∃ v, ("java/lang/Throwable", "UNASSIGNED_STACK", "[Ljava/lang/StackTraceElement;", v) ∈ nZ0 ++ nZv v3 v4 v5 ∧ (v = .null ∨ ∃ t, v = .ref t) := ⟨v3, List.mem_append_right _ List.mem_cons_self, hv3⟩
  have hz2 : ∃ v, ("java/lang/Throwable", "SUPPRESSED_SENTINEL", "Ljava/util/List;", v) ∈ nZ0 ++ nZv v3 v4 v5 ∧ (v = .null ∨ ∃ t, v = .ref t) := ⟨v4, List.mem_append_right _ (List.mem_cons_of_mem _ List.mem_cons_self), hv4⟩
  have hM := mMet (l := l) (D := D) (tyC := tyC) had hnt nCt_ne hwarm hVM hz1 hz2 15 N
  unfold evM at he
  rw [if_pos nSl0] at he
  have hl := lv_entry [Value.ref b] (n := 7) (by show 1 ≤ 7; decide)
  have e0 : lv_args 0 [Value.ref b] = mTl ad (lv_args 0 [Value.ref 0]) := by
    rw [← had0]
    rfl
  rw [lg_entry_eq]
  generalize (lg_sl [Value.ref b] ++ List.replicate (7 - (lg_sl [Value.ref b]).length) Slot.unset).toArray = ls at hl ⊢
  rw [e0] at hl
  have hcm := fun ce as h o h' => evM_mono (k0 := 158) (dflt := nDflt) (P := mP' (nCodw v5)) (Hn := nHn) (mx := nMxx') 15 N ce as h o h'
  have hcx := fun ce as h x a h' => evM_thrown (k0 := 158) (dflt := nDflt) (P := mP' (nCodw v5)) (Hn := nHn) (mx := nMxx') 15 N ce as h x a h'
  refine mRun (R := room_1) (mi := 0) (dp := 16) (mc := hF.length - 158) (ms := mSls hF - mSls (nOld L xs)) (mt := nMt) (ct := nCt) (strs := nStrs) (ncs := nNcs) (EX := nEX) (mx := nMxx') (call := evM 158 nDflt (mP' (nCodw v5)) nHn nMxx' 15 N) (o := .inl (some (.int 1))) (hF := hF) had hx hV0 (fun ce as h r hr => hVM ce (evM_P0 hr)) (fun ce as h o' h' hc => hM ce as h o' h' hc) hcm hcx (by decide) (by decide) (by decide) (by show hF.length - 158 ≤ 601024; omega) (by show mSls hF - mSls (nOld L xs) ≤ 7293034; omega) nCt_ne hb hml hex hown hts hwarm hnm hk2 hOK.2.2.2.2 ?_ ?_ ?_ N 0 (lv_args 0 [Value.ref 0]) [] (nOld L xs) s.heap [] 0 0 ls he hOK va_S.rf hl (by show 0 + (hF.length - (nOld L xs).length) = hF.length - 158; rw [hlen]; omega) (Nat.zero_add _)
  · intro pc en st v H locs ls q1 q2 q3 q4 q5
    cases q3
    obtain ⟨r1, r2⟩ := mRt_int q2
    obtain ⟨vD, -⟩ := hV0.2.2.2.2.2.2.1 pc en q1
    subst r2
    rw [r1] at vD
    exact va_forget (fun q hq => q5.2.2 q hq) (W.widen (by omega) (by omega) (lw_ret hx hb hr hlocks vD))
  · intro pc x a st H locs ls q1 q2
    cases q2
  · intro pc en x h H locs ls cells slots q1 q2 q3 q4
    cases q4
set_option maxHeartbeats 4000000 in
theorem lw_walk (l : Launch) (hnt : l.stackTraces = false) (b : Addr) (xs : List Int32) : MetFree l x (headSpec (Jvm.Cond.code x code maxLocals ret :: tables_1) room_1) (lw_P b xs) (fun _ _ _ _ _ => True) lw_Q := by
  refine MetFree.of_bodyS (code := code) (maxLocals := maxLocals) (ret := ret) (by decide) ?_ ?_
  · intro args s m h hn
    obtain ⟨meth, c, h1, h2, h3, h4, h5, h6, -, -⟩ := Cond.code_spec hn (atoms_spec (ws := Jvm.Cond.code x code maxLocals ret :: tables_1) h _ List.mem_cons_self)
    exact ⟨meth, c, h1, h2, h3, h4, h5, h6⟩
  · intro p e s m args below meth c s₁ B hml0 hP _
    obtain ⟨rfl, hx, hbd, hgv⟩ := hP
    obtain ⟨scr, harrAt, hlist, hof, hsmall⟩ := hx
    obtain ⟨hcb, hkn, -, -⟩ := State.arrayAt?_spec harrAt
    have hown : s.vm.findClass R_law = some m.cls := findClass_of_methodNamed B.named
    have hts0 : ∀ c ∈ (Jvm.Cond.code x code maxLocals ret :: tables_1), c.before #[Value.ref b] s = true := atoms_spec (ws := Jvm.Cond.code x code maxLocals ret :: tables_1) B.pre
    have hts1 : ∀ w ∈ lw_tbl, w.before #[Value.ref b] s = true := k2_hts_sels lw_privs (fun w hw => hts0 w (List.mem_cons_of_mem _ hw)) lw_privs_ok
    have hts : ∀ w ∈ nTb, w.before #[Value.ref b] s = true := fun w hw => by
      rcases List.mem_cons.mp hw with hw | hw
      · rw [hw]
        exact hts0 _ List.mem_cons_self
      · exact hts1 w hw
    have hml : c.maxLocals = 7 := B.maxLocals_eq (hts0 _ List.mem_cons_self)
    have X₀ : Stand p l e room_1 s m #[Value.ref b] below meth c s₁ [] 0 0 := Stand.of_body B
    have hh0 : s₁.heap = s.heap := by rw [B.state]; rfl
    have hex : c.exceptionTable.toList.map (fun h => (h.startPc, h.endPc, h.handlerPc, h.catchType)) = [] := by
      obtain ⟨m', meth', c', h0, h1, h2, -, -, h7, -, -, -⟩ := mCW_spec (y := x) (bytes := code) (maxL := maxLocals) (ret := ret) (hs := []) (hts0 (Jvm.Cond.code x code maxLocals ret) List.mem_cons_self)
      cases B.named.symm.trans h0
      cases B.method.symm.trans h1
      cases X₀.code.symm.trans h2
      exact h7
    have hsz : scr.slots.size = xs.length := by rw [← Array.length_toList, hlist, List.length_map]
    have hval : ∀ j : Nat, j < xs.length → scr.slots[j]? = some (.int (xs.getD j 0)) := fun j hj => by
      rw [← Array.getElem?_toList, hlist]
      simp [hj]
    have hbl : b < s.heap.size := (Array.getElem?_eq_some_iff.mp hcb).1
    have hX : va_X b xs.length (fun j => xs.getD j 0) s s.heap := ⟨scr, hcb, hof, hkn, hsz, hval⟩
    have K : W p l e room_1 s m #[Value.ref b] below meth c s₁.heap [] 0 0 (lw_Z below #[Value.ref b] s) (entryFrame m ([Value.ref b] : List Value).toArray 7) := by
      rw [hh0]
      exact whole_start l hnt hbd ⟨B.exec, B.bytes, B.returns, hml, hown, hts, hX, hbl, B.notSynchronized, hgv, hex, (name_of_methodNamed B.named B.method).1⟩
    obtain ⟨t, a1, o, b1, b2, b3⟩ := K s₁ rfl X₀
    exact ⟨t, o, a1, b1, b2, b3⟩
theorem lw_pre_spec {args : Array Value} {s : State} (h : (Jvm.Cond.and given_1 narrow_1).before args s = true) (hr : rest_1_c.before args s = true) : ∃ (b : Addr) (xs : List Int32), lw_P b xs args s := by
  have hs := flat_of_before _ h
  have hq := flat_of_before _ hr
  have hc : (Cond.count 1).before args s = true := hs _ (by decide +kernel)
  have harr : (Cond.arrayOf (.arg 0) .int).before args s = true := hs _ (by decide +kernel)
  have hle : (Cond.le (.length (.arg 0)) (.int 2560)).before args s = true := hs _ (by decide +kernel)
  have hlen : (Cond.isInt (.length (.arg 0))).before args s = true := hq _ (by decide +kernel)
  have hall : (Cond.all (.arg 0) (.isInt (.elem (.arg 0) (.index 0)))).before args s = true := hq _ (by decide +kernel)
  obtain ⟨b, xs, hb, hx⟩ := State.ints_of_pre rfl harr hlen hall
  have hsm : xs.length < 2 ^ 31 := hx.choose_spec.2.2.2
  have hev : (Term.length (.arg 0)).eval args s none [] s = some (.int xs.length.toInt32) := hx.length_eval hb
  have hv := Cond.le_ints hev (show (Term.int 2560).eval args s none [] s = some (.int 2560) from rfl)
  have hd : xs.length.toInt32 ≤ 2560 := by
    simpa [Cond.before, Cond.holds, hv] using hle
  have hN : xs.length ≤ 2560 := (Int32.ofNat_le_ofNat hsm (by decide)).mp (show Int32.ofNat xs.length ≤ Int32.ofNat 2560 from hd)
  exact ⟨b, xs, Cond.one_arg hc (show args[0]? = some (.ref b) from hb), hx, hN, h⟩
theorem lw_comes (l : Launch) (hnt : l.stackTraces = false) : Comes l x (Jvm.Cond.code x code maxLocals ret :: tables_1) room_1 (fun tb e args s => Calls_1 tb e args s ∧ rest_1 tb e args s ∧ Pre_1 tb e args s)
    (fun _ _ args s o t => lw_Q args s o t) := by
  intro p e ha hc hk s m args below hf hfit hheap happ hpre
  obtain ⟨b, xs, hP⟩ := lw_pre_spec hpre.2.2 hpre.2.1
  obtain ⟨k, o, h1, h2, h3, hQ⟩ := lw_walk l hnt b xs p e ha hc hk s m args below hf ((Spec.applies_iff_loose hf).mp happ).1 hP trivial
  exact ⟨k, o, h1, h2, h3, hQ⟩
theorem lw_frame {s t : State} {o : Outcome} {args : Array Value} (h : Framed s o t [] 601024 7293034) :
    Framed s o t (fieldLocs frame_1_writes args s ++ arrayLocs frame_1_arrays args s ++ staticLocs frame_1_statics s) 601024 7293034 := h
theorem lw_notrace {l : Launch} (h : l.flags = flags0) : l.stackTraces = false := by
  unfold Launch.stackTraces
  rw [h]
  decide +kernel
theorem lw_limb (L : Cond) (hL : ∀ (args : Array Value) (s t : State), L.after args s (.returned (some (.int 1))) t = true) :
    ArmFor flags0 classFile x code maxLocals ret World_1 tables_1 room_1 Calls_1 rest_1 Pre_1
      (fun tb e a s o t => postC L tb e a s o t ∧ Framed s o t (fieldLocs frame_1_writes a s ++ arrayLocs frame_1_arrays a s ++ staticLocs frame_1_statics s) 601024 7293034) := by
  intro l hfl _ _ p e ha hc hk s m args below hf hfit hheap happ hpre
  obtain ⟨k, o, h1, h2, h3, rfl, hF⟩ := lw_comes l (lw_notrace hfl) p e ha hc hk s m args below hf hfit hheap happ hpre
  exact ⟨k, _, h1, h2, h3, hL args s _, lw_frame hF⟩
theorem i_vc : Claimed_1_1 ∧ Claimed_1_2 := ⟨lw_limb limb_1_1 (fun args s t => by simp [limb_1_1, Cond.after, Cond.holds, Cond.value]), lw_limb limb_1_2 (fun args s t => Cond.after_iff.mpr (by
  first | (rw [show limb_1_2 = Cond.eq .result (.int 1) from rfl, Cond.eq_ints (x := 1) (y := 1) rfl rfl]; simp; done) | (simp [limb_1_2, Cond.value, Term.eval]; done)))⟩
