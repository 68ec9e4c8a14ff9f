/-! THROW NEW .. -/
theorem mNT {l : Launch} {e : Env} (h : l.admits e) (hl : l.stackTraces = false) : e.platform.stackTraces = false := by rw [h.platform]; exact hl
/-- a static that holds a reference or null -/
theorem mIsRef {C n d : String} {v : Value} {A : Nat → Prop} {U : State} {args : Array Value} (h : va_Z C n d v A U U.heap) (hv : v = .null ∨ ∃ t, v = .ref t) : (Cond.isRef (.static C n d)).before args U = true := by
  obtain ⟨cf, kf, fi, f, a, cell, h1, h2, h3, h4, h5, h6, h7, h8⟩ := h
  rcases hv with rfl | ⟨t, rfl⟩ <;> simp [Cond.before, Cond.holds, Cond.value, Term.eval, State.fieldNamed?, h1, h2, h3, h4, h5, h6, h7]
section MRB
variable {p : Program} {l : Launch} {e : Env} {R R' : Room} {s : State} {m : MethodId} {args : Array Value} {below : List Frame} {meth : Method} {c : Code} {T : State} {locs : List Loc} {cells slots : Nat}
/-- the state at hand, as if the method had begun in it -/
abbrev mNow (T : State) (m : MethodId) (args : Array Value) (below : List Frame) : State := T.setFrames (.invoking m args :: below)
theorem mNow_heap {T : State} {m : MethodId} {args : Array Value} {below : List Frame} : (mNow T m args below).heap = T.heap := rfl
set_option maxHeartbeats 1000000 in
theorem mRebase (X : Stand p l e R s m args below meth c T locs cells slots) (hf : R'.frames ≤ R.frames) (hl : R'.locals ≤ R.locals) (hc : cells + R'.cells ≤ R.cells) (hs : slots + R'.slots ≤ R.slots) : Stand p l e R' (mNow T m args below) m args below meth c T [] 0 0 := by
  obtain ⟨g₀, hr⟩ := X.frames_eq
  obtain ⟨th, hth, -⟩ := State.frames_cons hr
  have hcur : T.cur < T.threads.size := (Array.getElem?_eq_some_iff.mp hth).1
  have hF : (mNow T m args below).frames = .invoking m args :: below := State.frames_setFrames _ hcur
  obtain ⟨th', hth', -⟩ := State.frames_cons hF
  have hcur' : (mNow T m args below).cur < (mNow T m args below).threads.size := State.cur_lt_of_frames hF
  have hm' : (mNow T m args below).vm.method? m = some meth := X.method'
  have hlim : e.platform.stackLimits (mNow T m args below).me = e.platform.stackLimits s.me := (State.stackLimits_setFrames ..).trans X.limits
  have hbytes : (mNow T m args below).me.stackBytes = s.me.stackBytes := (State.stackBytes_setFrames ..).trans X.bytes
  have hroom : (mNow T m args below).hasRoom e.platform R' = true := by
    have hr := X.room
    simp only [State.hasRoom, Bool.and_eq_true, decide_eq_true_eq] at hr ⊢
    rw [State.localsInUse_invoking X.frames X.method X.code, X.frames] at hr
    rw [State.localsInUse_invoking hF hm' X.code, hF, hlim, hbytes]
    have h1 := X.heapSize
    have h2 := X.used
    have h3 : (mNow T m args below).heap.size = T.heap.size := rfl
    have h4 : (mNow T m args below).slotsUsed = T.slotsUsed := rfl
    have h5 : (mNow T m args below).slotsTrue = true := X.book
    rw [h3, h4]
    refine ⟨⟨⟨⟨?_, ?_, ?_, ?_, ?_, ?_⟩, ?_⟩, ?_⟩, h5⟩
    · have := hr.1.1.1.1; omega
    · have := hr.1.1.1.2.1; omega
    · have := hr.1.1.1.2.2.1; omega
    · have := hr.1.1.1.2.2.2.1; omega
    · have := hr.1.1.1.2.2.2.2.1; omega
    · exact hr.1.1.1.2.2.2.2.2
    · have := hr.1.1.2; omega
    · have := hr.1.2; omega
  have hhears : (mNow T m args below).hears m below = true := by
    have h := X.hears
    have hmm : ∀ q, (mNow T m args below).vm.method? q = s.vm.method? q := fun q => X.warmed.alike.method? q
    unfold State.hears at h ⊢
    split at h
    · rw [State.code?_eq] at h ⊢
      rw [hmm]
      exact h
    · rfl
    · rfl
    · rw [hmm]; exact h
  refine ⟨X.admits, X.cas, X.clock, hF, hroom, hhears, hm', X.code, X.here, X.tail, State.WarmedH.refl _, ?_, ?_, ?_⟩
  · rw [State.stackLimits_setFrames]
  · rw [State.stackBytes_setFrames]
  · have h := (State.sameButNew.refl (mNow T m args below) hth').setFrames T.frames hcur'
    have e1 : (mNow T m args below).setFrames T.frames = T := by
      show (T.setFrames _).setFrames T.frames = T
      rw [State.setFrames_setFrames, State.setFrames_self hth]
    rw [e1] at h
    exact h
end MRB
section MTN
variable {p : Program} {l : Launch} {e : Env} {R : Room} {s : State} {m : MethodId} {args : Array Value} {below : List Frame} {meth : Method} {c : Code} {H : Heap} {locs : List Loc} {cells slots : Nat} {Q : State → Prop}
variable {cc : ByteArray} {pc : Nat} {ls : Array Slot} {rest : List Value} {D : va_G} {cl : List vw_C} {tyC : Nat → ClassId} {k0 sz0 : Nat} {ad : Nat → Nat} {zs : List (String × String × String × Value)} {Ts : List Cond} {own : String}
theorem mLdcwS (hx : p.tables.exec = Jvm.exec) (hb : c.code = cc) {own tx : String} {index q : Nat} {rest : List Value} {Q : State → Prop} (hown : s.vm.findClass own = some m.cls) (hZ : vk_R own index tx q s) (hdg : decode cc pc = .ok (.ldc_w index, 3))
    (k : W p l e R s m args below meth c H locs cells slots Q (F0 m (pc + 3) ls (.ref q :: rest))) : W p l e R s m args below meth c H locs cells slots Q (F0 m pc ls rest) := by
  intro T hT X
  obtain ⟨t, a1, b1⟩ := k T hT X
  obtain ⟨k0, cf, i, a', hk, hcf, hcp, -, hr, hev'⟩ := Cond.stringRef_spec hown hZ.1
  cases hZ.2.symm.trans hev'
  obtain ⟨k', hk', he⟩ := X.warmed.alike.2.2 _ _ hk
  have hr' : k'.resolved[index]? = some (some (.string q)) := by
    rcases X.warmed.entry hk hk' index with h | ⟨h, -⟩
    · rw [h]; exact hr
    · rw [hr] at h; cases h
  refine ⟨t, ?_, b1⟩
  have hdg' : decode c.code (F0 m pc ls rest).pc = .ok (.ldc_w index, 3) := by rw [hb]; exact hdg
  jvm_step X.here [hx, hdg', ldc_w.wp_string (e := e) (s := T) (f := F0 m pc ls rest) X.here.top hk' (by rw [he]; exact hcf) hcp hr']
  exact a1
/-- the code of a constructor that passes its text on -/
abbrev mFour (xk : Nat × ByteArray) : Prop := decode xk.2 0 = .ok (.aload_n 0, 1) ∧ decode xk.2 1 = .ok (.aload_n 1, 1) ∧ decode xk.2 2 = .ok (.invokespecial xk.1, 3) ∧ decode xk.2 5 = .ok (.return_, 1)
/-- what a throw needs to know at the state at hand -/
def mOwn (own X tx : String) (names : List String) (xk : Nat × ByteArray) (ix kx ic : Nat) (cX : ClassId) (m : MethodId) (args : Array Value) (U : State) : Prop :=
  U.vm.findClass own = some m.cls ∧ (Cond.classLink own ix X).before args U = true ∧ (Cond.instantiable X 6).before args U = true ∧ (Cond.initialized X).before args U = true ∧ U.vm.findClass X = some cX ∧ (∃ qa, vk_R own kx tx qa U) ∧ ∀ a ∈ Bundle.ownAtomsX own ic X xk.1 xk.2 names, a.before args U = true
theorem sameNow {T V : State} {m : MethodId} {args : Array Value} {below : List Frame} {L : List Loc} {k n : Nat} (h : (mNow T m args below).sameButNew V L k n) : T.sameButNew V L k n := by
  obtain ⟨h1, h2⟩ := h
  refine ⟨?_, h2⟩
  have e1 : (mNow T m args below).setFrames V.frames = T.setFrames V.frames := State.setFrames_setFrames ..
  rw [e1] at h1
  exact h1
set_option maxHeartbeats 4000000 in
theorem mThrow {Qc : Array Value → State → Outcome → State → Prop} {free : Addr → Prop} {X tx : String} {names : List String} {xk : Nat × ByteArray} {ix kx ic cX : Nat} {st : List Value} (hnt : l.stackTraces = false) (hx : p.tables.exec = Jvm.exec) (hb : c.code = cc) (hml : c.maxLocals = ls.size) (hlocks : meth.locks = false)
    (hd0 : decode cc pc = .ok (.new ix, 3)) (hd3 : decode cc (pc + 3) = .ok (.dup, 1)) {kl : Nat} (hd4 : decode cc (pc + 4) = .ok (.ldc kx, 2) ∧ kl = 2 ∨ decode cc (pc + 4) = .ok (.ldc_w kx, 3) ∧ kl = 3) (hd6 : decode cc (pc + 4 + kl) = .ok (.invokespecial ic, 3)) (hd9 : decode cc (pc + 4 + kl + 3) = .ok (.athrow, 1)) (hout : ∀ x ∈ c.exceptionTable.toList, covers x (pc + 4 + kl + 3) = false)
    (hF : ∀ U : State, s.WarmedH U.vm → U.heap = H → mOwn own X tx names xk ix kx ic cX m args U) (hxk : mFour xk) (hcls : Bundle.fit X = true) (hnames : ∀ n ∈ names, Bundle.fit n = true)
    (hRc : cells + 1 ≤ R.cells) (hRs : slots + 6 ≤ R.slots) (hRf : names.length + 3 < R.frames) (hst : (st.map fun v => v.category).sum ≤ 8) (hRl : 9 + (13 * (names.length + 1) + 42) ≤ R.locals)
    (hq : ∀ t : State, s.WarmedH t.vm → t.heap.size = H.size + 1 → (∀ q : Nat, q < H.size → t.heap[q]? = H[q]?) → (∃ cell : Cell, t.heap[H.size]? = some cell ∧ cell.cls = cX ∧ cell.vm = .none) → Qc args s (.threw H.size) t) (hf : ∀ q ∈ locs, free q.base) :
    W p l e R s m args below meth c H locs cells slots (MQX below Qc args s (cells + 1) (slots + 6) free) (F0 m pc ls st) := by
  intro T hT Y
  have Y0 := mRebase Y (R' := { frames := R.frames, cells := 1, slots := 6, locals := R.locals }) (Nat.le_refl _) (Nat.le_refl _) hRc hRs
  have hW0 : s.WarmedH (mNow T m args below).vm := Y.warmed
  obtain ⟨f1, f2, f3, f4, f5, ⟨qa, f6⟩, f7⟩ := hF (mNow T m args below) hW0 hT
  have key : W p l e { frames := R.frames, cells := 1, slots := 6, locals := R.locals } (mNow T m args below) m args below meth c (mNow T m args below).heap [] 0 0 (fun U => U.status = .running ∧ Ended U below (.threw T.heap.size) ∧ (mNow T m args below).WarmedH U.vm ∧ (mNow T m args below).sameButNew ({ U with vm := (mNow T m args below).vm } : State) [] 1 6 ∧ ∃ ce : Cell, U.heap[T.heap.size]? = some ce ∧ ce.cls = cX ∧ ce.vm = .none) (F0 m pc ls st) := by
    refine W.newcK hx hb f1 f2 f3 f4 rfl hd0 (by show 0 + 1 ≤ 1; omega) (by show 0 + 6 ≤ 6; omega) f5 rfl fun H1 kX hkX e1 z1 o1 => ?_
    refine lv_dup hx hb hd3 rfl ?_
    suffices kk : W p l e { frames := R.frames, cells := 1, slots := 6, locals := R.locals } (mNow T m args below) m args below meth c H1 [] (0 + 1) (0 + 6) (fun U => U.status = .running ∧ Ended U below (.threw T.heap.size) ∧ (mNow T m args below).WarmedH U.vm ∧ (mNow T m args below).sameButNew ({ U with vm := (mNow T m args below).vm } : State) [] 1 6 ∧ ∃ ce : Cell, U.heap[T.heap.size]? = some ce ∧ ce.cls = cX ∧ ce.vm = .none) (F0 m (pc + 4 + kl) ls ((.ref qa : Value) :: .ref T.heap.size :: .ref T.heap.size :: st)) by
      rcases hd4 with ⟨hd4, rfl⟩ | ⟨hd4, rfl⟩
      · exact va_ldcS hx hb f1 f6 hd4 kk
      · exact mLdcwS hx hb f1 f6 hd4 kk
    intro T1 hT1 Z
    have hroom := lv_room (m := m) (pc := pc + 4 + kl) (ls := ls) (rest := (.ref qa : Value) :: .ref T.heap.size :: .ref T.heap.size :: st) (st := st) hst
    obtain ⟨U, h1, h2, h3, h4, h5, ce, h6, h7⟩ := mCtorX Z hx (mNT Z.admits hnt) (own := own) (cls := X) (names := names) (ic := ic) hxk.1 hxk.2.1 hxk.2.2.1 hxk.2.2.2 f1 hcls hnames f7 (a := T.heap.size) (cX := cX) (kX := kX) f5 hkX (by rw [hT1]; exact e1) (Nat.le_refl _) (msg := .ref qa) rfl
      (g := F0 m (pc + 4 + kl) ls (.ref qa :: .ref T.heap.size :: .ref T.heap.size :: st)) rfl (by rw [hml]) rfl rfl (rest := st) rfl (by rw [hb]; exact hd6) (by rw [hb]; exact hd9) hout hRf (by
        show 2 * (F0 m (pc + 4 + kl) ls (.ref qa :: .ref T.heap.size :: .ref T.heap.size :: st)).monitorRoom + (1 + (st.map fun v => v.category).sum) + _ ≤ R.locals
        omega) hlocks
    exact ⟨U, h1, h2, h3, h4, h5, ce, h6, h7⟩
  obtain ⟨U, g1, g2, g3, g4, g5, ce, g6, g7, g8⟩ := key T rfl Y0
  subst hT
  have g5' := sameNow g5
  refine ⟨U, g1, .threw T.heap.size, g2, g3, ?_, locs ++ [], ⟨State.WarmedH.trans Y.warmed g4, Y.same.trans (g5'.setVm s.vm)⟩, ?_⟩
  · refine hq U (State.WarmedH.trans Y.warmed g4) ?_ (fun q h1 => ?_) ⟨ce, g6, g7, g8⟩
    · have h1 : U.heap.size ≤ T.heap.size + 1 := g5'.2.2.1
      have h2 := (Array.getElem?_eq_some_iff.mp g6).1
      omega
    · have h2 : T.heap[q]? = some T.heap[q] := Array.getElem?_eq_getElem h1
      rw [h2]
      exact State.sameButNew.old_cell g5' h2
  · intro q hq
    rw [List.append_nil] at hq
    exact hf q hq
end MTN
