/-! THROWN: OUT OF A METHOD, INTO A HANDLER; CALLS LINKED -/
section MT
variable {p : Program} {l : Launch} {e : Env} {R : Room} {s : State} {m : MethodId} {args : Array Value} {below : List Frame} {meth : Method} {c : Code} {H : Heap} {locs : List Loc} {cells slots : Nat} {Q : State → Prop}
/-- something was thrown at the frame g -/
def WT (p : Program) (l : Launch) (e : Env) (R : Room) (s : State) (m : MethodId) (args : Array Value) (below : List Frame) (meth : Method) (c : Code) (H : Heap) (locs : List Loc) (cells slots : Nat) (Q : State → Prop) (g : JFrame) (x : Addr) : Prop :=
  ∀ T : State, T.heap = H → Stand p l e R s m args below meth c T locs cells slots → ∃ t, Steps p.tables e below ((T.setTop g).pushFrame (.throwing x)) t ∧ Q t
theorem WT.leave {Qc : Array Value → State → Outcome → State → Prop} {free : Addr → Prop} {pc : Nat} {ls : Array Slot} {st : List Value} {x : Addr} (hout : ∀ y ∈ c.exceptionTable.toList, covers y pc = false) (hlocks : meth.locks = false)
    (hq : ∀ t : State, t.heap = H → s.WarmedH t.vm → Qc args s (.threw x) t) (hf : ∀ q ∈ locs, free q.base) : WT p l e R s m args below meth c H locs cells slots (MQX below Qc args s cells slots free) (F0 m pc ls st) x := by
  intro T hT X
  obtain ⟨h1, h2, h3, h4, h5⟩ := X.leaveThrown x (g := F0 m pc ls st) rfl rfl rfl hout hlocks
  exact ⟨_, h1, .threw x, h2, h3, hq _ hT h4, locs, ⟨h4, h5⟩, hf⟩
/-- what the search through handlers gives, and the tables that it leaves -/
def mFind (e : Env) (s : State) (f : JFrame) (a : Addr) (xs : List ExceptionTableEntry) (pc : Nat) (vm' : Vm) : Prop :=
  ∀ (Q : Handler → Pre) (E : CtlPost) (d : Bool) (acts : List Action), wp (findHandler.go f a xs) Q E e d acts s ↔ Q (.found pc) d acts (s.setVm vm')
theorem mFind_hit {s : State} {f : JFrame} {a : Addr} {x : ExceptionTableEntry} {t : List ExceptionTableEntry} {cT : ClassId} {cell : Cell} (hx : covers x f.pc = true) (h0 : x.catchType ≠ 0)
    (hl : s.vm.ClassLinks e.platform f.method.cls x.catchType cT) (hcell : s.heap[a]? = some cell) (hobj : ∀ k, cell.vm ≠ .statics k) (hk : ∃ k, s.vm.classes[cell.cls]? = some k) (hc : ∃ k, s.vm.classes[cT]? = some k) (hfit : s.vm.assignable cell.cls cT = true) :
    mFind e s f a (x :: t) x.handlerPc (s.vm.noted f.method.cls x.catchType (.cls cT)) := by
  intro Q E d acts
  simp only [covers] at hx
  obtain ⟨ha, ht⟩ := (resolveClass_links e.toSetting hl).op (op := VmOp.resolveClass f.method.cls x.catchType) rfl
  have hal : s.vm.Alike (s.vm.noted f.method.cls x.catchType (.cls cT)) := (Vm.Alike.refl s.vm).noted _ _ _
  obtain ⟨k1, hk1⟩ := hk
  obtain ⟨k2, hk2⟩ := hc
  obtain ⟨k1', hk1', -⟩ := hal.2.2 _ _ hk1
  obtain ⟨k2', hk2', -⟩ := hal.2.2 _ _ hk2
  have hfit' : (s.vm.noted f.method.cls x.catchType (.cls cT)).assignable cell.cls cT = true := by rw [hal.assignable]; exact hfit
  simp [findHandler.go, hx, h0, ha, ht, hcell, hobj, hk1', hk2', hfit', VmOp.dirties, VmOp.acts]
theorem mFind_miss {s : State} {f : JFrame} {a : Addr} {x : ExceptionTableEntry} {t : List ExceptionTableEntry} {cT : ClassId} {cell : Cell} {pc : Nat} {vm' : Vm} (hx : covers x f.pc = true) (h0 : x.catchType ≠ 0)
    (hl : s.vm.ClassLinks e.platform f.method.cls x.catchType cT) (hcell : s.heap[a]? = some cell) (hobj : ∀ k, cell.vm ≠ .statics k) (hk : ∃ k, s.vm.classes[cell.cls]? = some k) (hc : ∃ k, s.vm.classes[cT]? = some k) (hfit : s.vm.assignable cell.cls cT = false)
    (h : mFind e (s.setVm (s.vm.noted f.method.cls x.catchType (.cls cT))) f a t pc vm') : mFind e s f a (x :: t) pc vm' := by
  intro Q E d acts
  simp only [covers] at hx
  obtain ⟨ha, ht⟩ := (resolveClass_links e.toSetting hl).op (op := VmOp.resolveClass f.method.cls x.catchType) rfl
  have hal : s.vm.Alike (s.vm.noted f.method.cls x.catchType (.cls cT)) := (Vm.Alike.refl s.vm).noted _ _ _
  obtain ⟨k1, hk1⟩ := hk
  obtain ⟨k2, hk2⟩ := hc
  obtain ⟨k1', hk1', -⟩ := hal.2.2 _ _ hk1
  obtain ⟨k2', hk2', -⟩ := hal.2.2 _ _ hk2
  have hfit' : (s.vm.noted f.method.cls x.catchType (.cls cT)).assignable cell.cls cT = false := by rw [hal.assignable]; exact hfit
  have h9 := h Q E
  rw [← show (s.setVm (s.vm.noted f.method.cls x.catchType (.cls cT))).setVm vm' = s.setVm vm' from rfl]
  simp [findHandler.go, hx, h0, ha, ht, hcell, hobj, hk1', hk2', hfit', VmOp.dirties, VmOp.acts, h9]
theorem mFind_skip {s : State} {f : JFrame} {a : Addr} {x : ExceptionTableEntry} {t : List ExceptionTableEntry} {pc : Nat} {vm' : Vm} (hx : covers x f.pc = false) (h : mFind e s f a t pc vm') : mFind e s f a (x :: t) pc vm' := by
  intro Q E d acts
  rw [W.findHandler_go_skip hx]
  exact h Q E d acts
theorem mThrowing_catch {s : State} {a : Addr} {f : JFrame} {r : List Frame} {pc : Nat} {vm' : Vm} {meth : Method} {c : Code} (hm : s.vm.method? f.method = some meth) (hc : meth.code = some c) (hfind : mFind e s f a c.exceptionTable.toList pc vm') :
    (stepThrowing e s a (.java f :: r)).Is ((s.setVm vm').setFrames (.java { f with pc := pc, stack := [.ref a] } :: r)) [] := by
  have h1 : ∀ (Q : Handler → Pre) (E : CtlPost) (d : Bool) (acts : List Action), wp (findHandler f a) Q E e d acts s ↔ Q (.found pc) d acts (s.setVm vm') := fun Q E d acts => by
    rw [W.findHandler_eq hm hc]
    exact hfind Q E d acts
  simp only [stepThrowing, searchFrame, vmDo]
  generalize hr : Sem.go _ e false [] s = res
  obtain ⟨as, rfl, ha⟩ := Sem.eq_ok_of hr (a := Handler.found pc) (s' := s.setVm vm') (acts' := []) (by simp [h1 _ _ _ _])
  exact ⟨rfl, ha⟩
theorem mCaught0 {tb : Tables} {s target : State} {g : JFrame} {c : Code} {a : Addr} {meth : Method} (h : At s g.method c below) (hm : s.vm.method? g.method = some meth) (hc : meth.code = some c) {pc : Nat} {vm' : Vm}
    (hfind : mFind e ((s.setTop g).pushFrame (.throwing a)) g a c.exceptionTable.toList pc vm') (hrest : Steps tb e below ((s.setVm vm').setTop { g with pc := pc, stack := [.ref a] }) target) :
    Steps tb e below ((s.setTop g).pushFrame (.throwing a)) target := by
  obtain ⟨hgo, hw⟩ := h.throwing a
  refine Steps.head hgo hw ?_
  rw [stepThread_throwing (frames_entered h.top _), (mThrowing_catch (s := (s.setTop g).pushFrame (.throwing a)) (meth := meth) (c := c) (by simpa [State.pushFrame, State.setFrames] using hm) hc hfind).1]
  obtain ⟨g₀, hg⟩ := Option.isSome_iff_exists.mp h.top
  obtain ⟨r, hr⟩ := State.topJava?_eq_some.mp hg
  have hr' : (s.setVm vm').frames = .java g₀ :: r := hr
  rw [State.setTop_of_frames _ hr'] at hrest
  have h2 : ∀ (u : State) (F G : List Frame), ((u.setFrames F).setVm vm').setFrames G = (u.setVm vm').setFrames G := fun u F G => by
    rw [show (u.setFrames F).setVm vm' = (u.setVm vm').setFrames F from rfl, State.setFrames_setFrames]
  rw [hr, List.tail_cons, State.pushFrame, h2, State.setTop_of_frames _ hr, h2]
  exact hrest
set_option maxHeartbeats 2000000 in
/-- the search through a table of handlers -/
theorem mSearch {own : String} {EX : Nat → String} {ct : Nat → Nat} {x hp a : Nat} {f : JFrame} {cell : Cell} (hadm : l.admits e) (hown : s.vm.findClass own = some f.method.cls) (hcls : s.vm.findClass (EX x) = some cell.cls) (hobj : cell.vm.isStatics = false) (hct : ∀ y, ct y ≠ 0) (hself : (Cond.castable (EX x) (EX x)).before args s = true) :
    ∀ (hs : List (Nat × Nat × Nat × Nat)) (xs : List ExceptionTableEntry) (U : State), xs.map (fun h => (h.startPc, h.endPc, h.handlerPc, h.catchType)) = hs.map (fun q => (q.1, q.2.1, q.2.2.1, ct q.2.2.2)) → (∀ q ∈ hs, (Cond.classLink own (ct q.2.2.2) (EX q.2.2.2)).before args s = true) → (∀ q ∈ hs, q.2.2.2 ≠ x → va_Nc (EX x) (EX q.2.2.2) s) →
      s.WarmedH U.vm → U.heap[a]? = some cell → mHd hs f.pc x = some hp → ∃ vm', s.WarmedH vm' ∧ mFind e U f a xs hp vm'
  | [], xs, U, hxs, _, _, _, _, hh => by cases hh
  | q :: hs, [], U, hxs, _, _, _, _, hh => by cases hxs
  | q :: hs, y :: xs, U, hxs, hlk, hnc, hW, hcell, hh => by
    have hpl : e.platform.magicAccessors = ({} : Platform).magicAccessors := by rw [hadm.platform]
    have hq : (y.startPc, y.endPc, y.handlerPc, y.catchType) = (q.1, q.2.1, q.2.2.1, ct q.2.2.2) := by simpa using (List.cons.inj hxs).1
    have hxs' := (List.cons.inj hxs).2
    obtain ⟨e1, hq2⟩ := Prod.mk.inj hq
    obtain ⟨e2, hq3⟩ := Prod.mk.inj hq2
    obtain ⟨e3, e4⟩ := Prod.mk.inj hq3
    by_cases hcov : q.1 ≤ f.pc ∧ f.pc < q.2.1
    · have hx : covers y f.pc = true := by
        simp only [covers]
        rw [e1, e2]
        simp [hcov.1, hcov.2]
      have h0 : y.catchType ≠ 0 := by rw [e4]; exact hct _
      obtain ⟨cT, hcT, hcl⟩ := Cond.classLink_spec hown (hlk q List.mem_cons_self) e.platform hpl
      rw [← e4] at hcl
      obtain ⟨dk, _, _, kt, hd, _, _, _, _, hkt, _, hopen⟩ := hcl.here
      have hclU := hW.classLinks hcl
      have hW' : s.WarmedH (U.vm.noted f.method.cls y.catchType (.cls cT)) := hW.noted hd hopen (State.rightAt_cls hcl)
      have hal := hW.alike
      obtain ⟨kt', hkt', -⟩ := hal.2.2 _ _ hkt
      obtain ⟨cs, cs', hcs, hcs', hasg⟩ := Cond.castable_spec hself
      cases hcls.symm.trans hcs
      cases hcls.symm.trans hcs'
      have hkc : ∃ k, U.vm.classes[cell.cls]? = some k := by
        obtain ⟨k, hk⟩ := Vm.classAt_of_findClass hcls
        obtain ⟨k', hk', -⟩ := hal.2.2 _ _ hk
        exact ⟨k', hk'⟩
      by_cases hqx : q.2.2.2 = x
      · have hhp : hp = q.2.2.1 := by
          unfold mHd at hh
          rw [if_pos ⟨hcov.1, hcov.2, hqx⟩] at hh
          exact (Option.some.inj hh).symm
        rw [hqx] at hcT
        cases hcls.symm.trans hcT
        refine ⟨_, hW', ?_⟩
        rw [hhp, ← e3]
        exact mFind_hit hx h0 hclU hcell (VmData.ne_statics_of hobj) hkc ⟨kt', hkt'⟩ (by rw [hal.assignable]; exact hasg)
      · obtain ⟨c1, c2, g1, g2, g3⟩ := hnc q List.mem_cons_self hqx
        cases hcls.symm.trans g1
        cases hcT.symm.trans g2
        have hh' : mHd hs f.pc x = some hp := by
          unfold mHd at hh
          rw [if_neg (fun z => hqx z.2.2)] at hh
          exact hh
        obtain ⟨vm', w1, w2⟩ := mSearch hadm hown hcls hobj hct hself hs xs (U.setVm (U.vm.noted f.method.cls y.catchType (.cls cT))) hxs' (fun z hz => hlk z (List.mem_cons_of_mem _ hz)) (fun z hz => hnc z (List.mem_cons_of_mem _ hz)) hW' hcell hh'
        exact ⟨vm', w1, mFind_miss hx h0 hclU hcell (VmData.ne_statics_of hobj) hkc ⟨kt', hkt'⟩ (by rw [hal.assignable]; exact g3) w2⟩
    · have hx : covers y f.pc = false := by
        simp only [covers]
        rw [e1, e2]
        simp only [Bool.and_eq_false_iff, decide_eq_false_iff_not]
        by_cases h1 : q.1 ≤ f.pc
        · exact Or.inr (fun h2 => hcov ⟨h1, h2⟩)
        · exact Or.inl h1
      have hh' : mHd hs f.pc x = some hp := by
        unfold mHd at hh
        rw [if_neg (fun z => hcov ⟨z.1, z.2.1⟩)] at hh
        exact hh
      obtain ⟨vm', w1, w2⟩ := mSearch hadm hown hcls hobj hct hself hs xs U hxs' (fun z hz => hlk z (List.mem_cons_of_mem _ hz)) (fun z hz => hnc z (List.mem_cons_of_mem _ hz)) hW hcell hh'
      exact ⟨vm', w1, mFind_skip hx w2⟩
/-- into a handler -/
theorem WT.catch {own : String} {EX : Nat → String} {ct : Nat → Nat} {x hp a : Nat} {pc : Nat} {ls : Array Slot} {st : List Value} {cell : Cell} (hown : s.vm.findClass own = some m.cls) (hcell : H[a]? = some cell) (hcls : s.vm.findClass (EX x) = some cell.cls) (hobj : cell.vm.isStatics = false) (hct : ∀ y, ct y ≠ 0) (hself : (Cond.castable (EX x) (EX x)).before args s = true)
    {hs : List (Nat × Nat × Nat × Nat)} (hxs : c.exceptionTable.toList.map (fun h => (h.startPc, h.endPc, h.handlerPc, h.catchType)) = hs.map (fun q => (q.1, q.2.1, q.2.2.1, ct q.2.2.2))) (hlk : ∀ q ∈ hs, (Cond.classLink own (ct q.2.2.2) (EX q.2.2.2)).before args s = true) (hnc : ∀ q ∈ hs, q.2.2.2 ≠ x → va_Nc (EX x) (EX q.2.2.2) s) (hh : mHd hs pc x = some hp)
    (k : W p l e R s m args below meth c H locs cells slots Q (F0 m hp ls [.ref a])) : WT p l e R s m args below meth c H locs cells slots Q (F0 m pc ls st) a := by
  intro T hT X
  obtain ⟨vm', w1, w2⟩ := mSearch (l := l) (f := F0 m pc ls st) X.admits hown hcls hobj hct hself hs c.exceptionTable.toList ((T.setTop (F0 m pc ls st)).pushFrame (.throwing a)) hxs hlk hnc (by rw [Stand.throwing_vm]; exact X.warmed) (by rw [Stand.throwing_heap, hT]; exact hcell) hh
  obtain ⟨t, a1, b1⟩ := k (T.setVm vm') hT (X.noted w1)
  exact ⟨t, mCaught0 X.here X.method' X.code w2 a1, b1⟩
end MT
