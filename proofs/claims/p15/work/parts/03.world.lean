/-! THE SMALL MACHINE's HEAP IN THE MACHINE's: D, cl: the classes' numbers, slots and field tables; tyC: the classes of arrays by kind (0 int, 1 long, 2 char, 3 boolean; 4: an int array that is old); k0: how many cells are old; sz0: the machine's heap at the law's entry; ad: where each cell lies; zs: statics that nobody writes. -/
def mTy (t : Nat) : FieldType := match t with
  | 0 => .int
  | 1 => .long
  | 2 => .char
  | _ => .boolean
abbrev mTys (tyC : Nat → ClassId) : List (ClassId × FieldType) := [(tyC 0, .int), (tyC 1, .long), (tyC 2, .char), (tyC 3, .boolean)]
/-- an old array of ints -/
def mArr (a n : Nat) (f : Nat → Int32) (U : State) (H : Heap) : Prop := ∃ cell : Cell, H[a]? = some cell ∧ U.isArrayOf cell .int ∧ cell.vm ≠ .unknown ∧ n ≤ cell.slots.size ∧ cell.slots.size.toInt32 = Int32.ofNat n ∧ ∀ j : Nat, j < n → cell.slots[j]? = some (.int (f j))
theorem mArr.moved {a n : Nat} {f : Nat → Int32} {u U : State} {H : Heap} (hvm : u.vm.Alike U.vm) (h : mArr a n f u H) : mArr a n f U H := by
  obtain ⟨cell, h1, h2, h3⟩ := h
  exact ⟨cell, h1, State.isArrayOf_alike hvm h2, h3⟩
theorem mArr.kept {a n : Nat} {f : Nat → Int32} {U : State} {H H1 : Heap} (h : mArr a n f U H) (hq : H1[a]? = H[a]?) : mArr a n f U H1 := by
  obtain ⟨cell, h1, h2⟩ := h
  exact ⟨cell, by rw [hq]; exact h1, h2⟩
/-- a static that nobody writes, with its cell -/
def mZ (C n d : String) (v : Value) (A : Nat → Prop) (U : State) (H : Heap) : Prop := ∃ (cf : ClassId) (kf : Class) (fi : Nat) (f : Field) (a : Nat) (cell : Cell), U.fieldFound? C n d = some (cf, kf, fi, f) ∧ f.isStatic = true ∧ kf.init = .initialized ∧ kf.statics = some a ∧ H[a]? = some cell ∧ cell.vm.isStatics = true ∧ cell.slots[f.slot]? = some v ∧ ¬ A a ∧ U.vm.findClass C = some cf ∧ cell.cls = cf ∧ kf.staticTypes[f.slot]? = some f.type
theorem mZ.z {C n d : String} {v : Value} {A : Nat → Prop} {U : State} {H : Heap} (h : mZ C n d v A U H) : va_Z C n d v A U H := by
  obtain ⟨cf, kf, fi, f, a, cell, h1, h2, h3, h4, h5, h6, h7, h8, -⟩ := h
  exact ⟨cf, kf, fi, f, a, cell, h1, h2, h3, h4, h5, h6, h7, h8⟩
theorem mZ.moved {C n d : String} {v : Value} {A : Nat → Prop} {u U : State} {H : Heap} (hvm : u.vm.Alike U.vm) (h : mZ C n d v A u H) : mZ C n d v A U H := by
  obtain ⟨cf, kf, fi, f, a, cell, h1, h2, h3, h4, h5, h6, h7, h8, h9, h10, h11⟩ := h
  obtain ⟨k', hi', he⟩ := State.fieldFound?_setVm hvm h1
  exact ⟨cf, k', fi, f, a, cell, hi', h2, by rw [he]; exact h3, by rw [he]; exact h4, h5, h6, h7, h8, by rw [hvm.findClass]; exact h9, h10, by rw [he]; exact h11⟩
theorem mZ.kept {C n d : String} {v : Value} {A : Nat → Prop} {U : State} {H H1 : Heap} (h : mZ C n d v A U H) (hq : ∀ a : Nat, a < H.size → ¬ A a → H1[a]? = H[a]?) : mZ C n d v A U H1 := by
  obtain ⟨cf, kf, fi, f, a, cell, h1, h2, h3, h4, h5, h6, h7, h8, h9⟩ := h
  exact ⟨cf, kf, fi, f, a, cell, h1, h2, h3, h4, by rw [hq a (Array.getElem?_eq_some_iff.mp h5).1 h8]; exact h5, h6, h7, h8, h9⟩
theorem mZ.of {args : Array Value} {s : State} {C n d : String} {v : Value} {A : Nat → Prop} (hl : (Cond.laysStatic C n d).before args s = true) (hini : (Cond.initialized C).before args s = true) (hv : (Term.static C n d).eval args s none [] s = some v) (hA : ∀ a : Nat, a < s.heap.size → ¬ A a) : mZ C n d v A s s.heap := by
  obtain ⟨c, k, i, f, a, cell, hc, hi, hst, ha, hcell, hs, hcls, hlt, hty⟩ := Cond.laysStatic_spec hl
  obtain ⟨hst', a', cell', ha', hcell', -, hslot⟩ := Term.static_spec hi hv
  cases ha.symm.trans ha'
  cases hcell.symm.trans hcell'
  exact ⟨c, k, i, f, a, cell, hi, hst, Cond.initialized_spec hc (State.fieldFound?_spec hi).1 hini, ha, hcell, hs, hslot, hA a (Array.getElem?_eq_some_iff.mp hcell).1, hc, hcls, hty⟩
theorem mZ.lays {C n d : String} {v : Value} {A : Nat → Prop} {U : State} {args : Array Value} (h : mZ C n d v A U U.heap) : (Cond.laysStatic C n d).before args U = true := by
  obtain ⟨cf, kf, fi, f, a, cell, h1, h2, h3, h4, h5, h6, h7, h8, h9, h10, h11⟩ := h
  have hlt : f.slot < cell.slots.size := (Array.getElem?_eq_some_iff.mp h7).1
  simp [Cond.before, Cond.holds, Cond.value, h9, h1, h2, h4, h5, h6, h10, hlt, h11]
/-- an old array of any type -/
def mOld (ty : FieldType) (a n : Nat) (f : Nat → Value) (U : State) (H : Heap) : Prop := ∃ cell : Cell, H[a]? = some cell ∧ U.isArrayOf cell ty ∧ cell.vm ≠ .unknown ∧ n ≤ cell.slots.size ∧ cell.slots.size.toInt32 = Int32.ofNat n ∧ ∀ j : Nat, j < n → cell.slots[j]? = some (f j)
theorem mOld.moved {ty : FieldType} {a n : Nat} {f : Nat → Value} {u U : State} {H : Heap} (hvm : u.vm.Alike U.vm) (h : mOld ty a n f u H) : mOld ty a n f U H := by
  obtain ⟨cell, h1, h2, h3⟩ := h
  exact ⟨cell, h1, State.isArrayOf_alike hvm h2, h3⟩
theorem mOld.kept {ty : FieldType} {a n : Nat} {f : Nat → Value} {U : State} {H H1 : Heap} (h : mOld ty a n f U H) (hq : H1[a]? = H[a]?) : mOld ty a n f U H1 := by
  obtain ⟨cell, h1, h2⟩ := h
  exact ⟨cell, by rw [hq]; exact h1, h2⟩
/-- a field of a constant object -/
def mOF (o n d : String) (v : Value) (a : Nat) (U : State) (H : Heap) : Prop := ∃ (cf : ClassId) (k : Class) (fi : Nat) (f : Field) (cell : Cell), U.fieldFound? o n d = some (cf, k, fi, f) ∧ f.isStatic = false ∧ H[a]? = some cell ∧ cell.vm ≠ .unknown ∧ cell.slots[f.slot]? = some v
theorem mOF.moved {o n d : String} {v : Value} {a : Nat} {u U : State} {H : Heap} (hvm : u.vm.Alike U.vm) (h : mOF o n d v a u H) : mOF o n d v a U H := by
  obtain ⟨cf, k, fi, f, cell, h1, h2, h3, h4, h5⟩ := h
  obtain ⟨k', hi', -⟩ := State.fieldFound?_setVm hvm h1
  exact ⟨cf, k', fi, f, cell, hi', h2, h3, h4, h5⟩
theorem mOF.kept {o n d : String} {v : Value} {a : Nat} {U : State} {H H1 : Heap} (h : mOF o n d v a U H) (hq : H1[a]? = H[a]?) : mOF o n d v a U H1 := by
  obtain ⟨cf, k, fi, f, cell, h1, h2, h3, h4, h5⟩ := h
  exact ⟨cf, k, fi, f, cell, h1, h2, by rw [hq]; exact h3, h4, h5⟩
def mKo (ci : Nat) (fs : List Value) (ad : Nat → Nat) (a : Nat) (U : State) (H : Heap) : Prop := (∃ cell : Cell, H[a]? = some cell ∧ cell.vm.isStatics = false ∧ U.vm.findClass (mKc ci).1 = some cell.cls) ∧ ∀ (k : Nat) (q : String × String × String), (mKc ci).2[k]? = some q → ∃ v, fs[k]? = some v ∧ mOF q.1 q.2.1 q.2.2 (mT ad v) a U H
theorem mKo.moved {ci : Nat} {fs : List Value} {ad : Nat → Nat} {a : Nat} {u U : State} {H : Heap} (hvm : u.vm.Alike U.vm) (h : mKo ci fs ad a u H) : mKo ci fs ad a U H := by
  obtain ⟨⟨cell, h1, h2, h3⟩, h4⟩ := h
  refine ⟨⟨cell, h1, h2, by rw [hvm.findClass]; exact h3⟩, fun k q hk => ?_⟩
  obtain ⟨v, v1, v2⟩ := h4 k q hk
  exact ⟨v, v1, v2.moved hvm⟩
theorem mKo.kept {ci : Nat} {fs : List Value} {ad : Nat → Nat} {a : Nat} {U : State} {H H1 : Heap} (h : mKo ci fs ad a U H) (hq : H1[a]? = H[a]?) : mKo ci fs ad a U H1 := by
  obtain ⟨⟨cell, h1, h2, h3⟩, h4⟩ := h
  refine ⟨⟨cell, by rw [hq]; exact h1, h2, h3⟩, fun k q hk => ?_⟩
  obtain ⟨v, v1, v2⟩ := h4 k q hk
  exact ⟨v, v1, v2.kept hq⟩
def mOp : FieldType := .object "MixMachine$Operation"
def mAt (D : va_G) (cl : List vw_C) (tyC : Nat → ClassId) (ad : Nat → Nat) (i : Nat) (c : (Nat × vp_A) ⊕ (Nat × List Value)) (U : State) (H : Heap) : Prop := match c with
  | .inl (4, n, .inl f) => mArr (ad i) n f U H
  | .inl (7, n, .inl f) => mOld .byte (ad i) n (fun j => .int (f j)) U H
  | .inl (6, n, .inr (.inr (.inr (.inr f)))) => mOld mOp (ad i) n (fun j => mT ad (va_rf (f j))) U H
  | .inl (t, a) => H[ad i]? = some (vp_cell (tyC t) a)
  | .inr (ci, fs) => va_at D cl (ad i, .inr (ci, fs.map (mT ad))) H ∨ (cl[ci]? = none ∧ mKo ci fs ad (ad i) U H)
/-- ad: old cells lie below sz0, new ones from there on in their order -/
def mAd (k0 sz0 : Nat) (ad : Nat → Nat) : Prop := (∀ i, i < k0 → ad i < sz0) ∧ (∀ i, k0 ≤ i → ad i = sz0 + (i - k0)) ∧ ∀ i j, mEa i → mEa j → ad i = ad j → i = j
theorem mAd_ne {k0 sz0 : Nat} {ad : Nat → Nat} (had : mAd k0 sz0 ad) {i a : Nat} (ha : k0 ≤ a) (hi : i ≠ a) : ad i ≠ ad a := by
  intro h
  rw [had.2.1 a ha] at h
  by_cases hk : i < k0
  · have := had.1 i hk
    omega
  · rw [had.2.1 i (by omega)] at h
    omega
abbrev mNew (sz0 : Nat) : Nat → Prop := fun q => sz0 ≤ q
/-- all new cells are known -/
def mFull (k0 : Nat) (h : mH) : Prop := ∀ i, k0 ≤ i → i < h.length → ∃ c, h[i]? = some (some c)
def mOK (D : va_G) (cl : List vw_C) (tyC : Nat → ClassId) (k0 sz0 : Nat) (ad : Nat → Nat) (zs : List (String × String × String × Value)) (U : State) (h : mH) (H : Heap) : Prop :=
  va_K D cl (mTys tyC) U ∧ (k0 ≤ h.length ∧ mFull k0 h) ∧ H.size = sz0 + (h.length - k0) ∧ (∀ (i : Nat) (c : (Nat × vp_A) ⊕ (Nat × List Value)), h[i]? = some (some c) → mAt D cl tyC ad i c U H) ∧
  ∀ z ∈ zs, mZ z.1 z.2.1 z.2.2.1 (mT ad z.2.2.2) (mNew sz0) U H
theorem mAt.moved {D : va_G} {cl : List vw_C} {tyC : Nat → ClassId} {ad : Nat → Nat} {i : Nat} {c : (Nat × vp_A) ⊕ (Nat × List Value)} {u U : State} {H : Heap} (hvm : u.vm.Alike U.vm) (h : mAt D cl tyC ad i c u H) : mAt D cl tyC ad i c U H := by
  unfold mAt at h ⊢
  split at h
  · exact h.moved hvm
  · exact h.moved hvm
  · exact h.moved hvm
  · exact h
  · exact h.imp id (fun q => ⟨q.1, q.2.moved hvm⟩)
theorem mAt.obj {D : va_G} {cl : List vw_C} {tyC : Nat → ClassId} {ad : Nat → Nat} {i ci : Nat} {fs : List Value} {q : vw_C} {U : State} {H : Heap} (h : mAt D cl tyC ad i (.inr (ci, fs)) U H) (hc : cl[ci]? = some q) : va_at D cl (ad i, .inr (ci, fs.map (mT ad))) H := by
  rcases (show va_at D cl (ad i, .inr (ci, fs.map (mT ad))) H ∨ (cl[ci]? = none ∧ mKo ci fs ad (ad i) U H) from h) with h | h
  · exact h
  · rw [h.1] at hc
    cases hc
theorem mAt.con {D : va_G} {cl : List vw_C} {tyC : Nat → ClassId} {ad : Nat → Nat} {i ci : Nat} {fs : List Value} {U : State} {H : Heap} (h : mAt D cl tyC ad i (.inr (ci, fs)) U H) (hc : cl[ci]? = none) : mKo ci fs ad (ad i) U H := by
  rcases (show va_at D cl (ad i, .inr (ci, fs.map (mT ad))) H ∨ (cl[ci]? = none ∧ mKo ci fs ad (ad i) U H) from h) with h | h
  · obtain ⟨r, h1, -⟩ := h
    rw [hc] at h1
    cases h1
  · exact h.2
theorem mAt.mk {D : va_G} {cl : List vw_C} {tyC : Nat → ClassId} {ad : Nat → Nat} {i ci : Nat} {fs : List Value} {U : State} {H : Heap} (h : va_at D cl (ad i, .inr (ci, fs.map (mT ad))) H) : mAt D cl tyC ad i (.inr (ci, fs)) U H := Or.inl h
theorem mOK.moved {D : va_G} {cl : List vw_C} {tyC : Nat → ClassId} {k0 sz0 : Nat} {ad : Nat → Nat} {zs : List (String × String × String × Value)} {u U : State} {h : mH} {H : Heap} (hvm : u.vm.Alike U.vm) (k : mOK D cl tyC k0 sz0 ad zs u h H) : mOK D cl tyC k0 sz0 ad zs U h H :=
  ⟨va_K.moved hvm k.1, k.2.1, k.2.2.1, fun i c hc => (k.2.2.2.1 i c hc).moved hvm, fun z hz => (k.2.2.2.2 z hz).moved hvm⟩
theorem va_P_one {D : va_G} {cl : List vw_C} {q : Nat × va_E} {H : Heap} (h : va_at D cl q H) : va_P D cl [q] H := by
  intro k x hx
  have hk : k < 1 := (List.getElem?_eq_some_iff.mp hx).1
  rw [show k = 0 by omega] at hx
  cases hx
  exact h
theorem mAt_arr {D : va_G} {cl : List vw_C} {tyC : Nat → ClassId} {ad : Nat → Nat} {i t : Nat} {a : vp_A} {U : State} {H : Heap} (ht : t < 4) (h : mAt D cl tyC ad i (.inl (t, a)) U H) : va_P D cl [(ad i, .inl (tyC t, a))] H := by
  refine va_P_one ?_
  unfold mAt at h
  split at h
  · rename_i heq; cases heq; omega
  · rename_i heq; cases heq; omega
  · rename_i heq; cases heq; omega
  · rename_i heq; cases heq; exact h
  · rename_i heq; cases heq
theorem mAt_arr' {D : va_G} {cl : List vw_C} {tyC : Nat → ClassId} {ad : Nat → Nat} {i t : Nat} {a : vp_A} {U : State} {H : Heap} (ht : t < 4) (h : H[ad i]? = some (vp_cell (tyC t) a)) : mAt D cl tyC ad i (.inl (t, a)) U H := by
  unfold mAt
  split
  · rename_i heq; cases heq; omega
  · rename_i heq; cases heq; omega
  · rename_i heq; cases heq; omega
  · rename_i heq; cases heq; exact h
  · rename_i heq; cases heq
theorem mIn_ok {i : Int32} {n : Nat} (h : mIn i n = true) : vp_in i n := by
  unfold mIn at h
  simp only [Bool.and_eq_true, Bool.not_eq_true', decide_eq_false_iff_not, decide_eq_true_eq] at h
  intro q
  rcases q with q | q
  · exact h.1 q
  · omega
/-- what an instruction's entry must be, for reads -/
def mVg (own : String) (cl : List vw_C) (zs : List (String × String × String × Value)) (Ts : List Cond) (i : Instr) (o1 o2 : Nat) (v : Value) : Prop := match i with
  | .getfield ix => (∃ (C : String) (T : u_T) (N : Nat), cl[o1]? = some (C, T, N) ∧ o2 < N ∧ (∀ w ∈ u_ws C T N, w ∈ Ts) ∧ (Cond.fieldLink own ix (T o2).1 (T o2).2.1 (T o2).2.2.1 ∈ Ts ∨ ∃ host, Cond.fieldLinkNest own ix (T o2).1 (T o2).2.1 (T o2).2.2.1 host ∈ Ts)) ∨ (cl[o1]? = none ∧ ∃ q, (mKc o1).2[o2]? = some q ∧ (Cond.fieldLink own ix q.1 q.2.1 q.2.2 ∈ Ts ∨ ∃ host, Cond.fieldLinkNest own ix q.1 q.2.1 q.2.2 host ∈ Ts))
  | .getstatic ix => ∃ C n d, (C, n, d, v) ∈ zs ∧ (Cond.fieldLink own ix C n d ∈ Ts ∨ ∃ host, Cond.fieldLinkNest own ix C n d host ∈ Ts)
  | .ldc ix => (∃ x, v = .int x ∧ Cond.constant own ix x ∈ Ts) ∨ (own = mRN.1 ∧ ix = mRN.2.1 ∧ v = .ref mRN.2.2.2)
  | .ldc_w ix => ∃ x, v = .int x ∧ Cond.constant own ix x ∈ Ts
  | .ldc2_w ix => ∃ x, v = .long x ∧ Cond.constantLong own ix x ∈ Ts
  | _ => True
section MG
variable {p : Program} {l : Launch} {e : Env} {R : Room} {s : State} {m : MethodId} {args : Array Value} {below : List Frame} {meth : Method} {c : Code} {H : Heap} {locs : List Loc} {cells slots : Nat} {Q : State → Prop}
variable {cc : ByteArray} {pc : Nat} {ls : Array Slot} {D : va_G} {cl : List vw_C} {tyC : Nat → ClassId} {k0 sz0 : Nat} {ad : Nat → Nat} {zs : List (String × String × String × Value)} {Ts : List Cond} {own : String}
set_option maxHeartbeats 8000000 in
theorem mG_ok (had : mAd k0 sz0 ad) {i : Instr} {o1 o2 : Nat} {v : Value} {st st' : List Value} {h : mH} (hx : p.tables.exec = Jvm.exec) (hb : c.code = cc) (hdg : decode cc pc = .ok (i, mLn i o1)) (hown : s.vm.findClass own = some m.cls) (hts : ∀ w ∈ Ts, w.before args s = true) (hV : mVg own cl zs Ts i o1 o2 v)
    (hOK : mOK D cl tyC k0 sz0 ad zs s h H) (hOK0 : ∀ z ∈ zs, mZ z.1 z.2.1 z.2.2.1 (mT ad z.2.2.2) (mNew sz0) s s.heap) (hRN : vk_R mRN.1 mRN.2.1 mRN.2.2.1 (ad mRN.2.2.2) s) (hS : va_S (mNew sz0) s.heap H locs) (hg : mG i o1 o2 v st h = some st')
    (k : W p l e R s m args below meth c H locs cells slots Q (F0 m (pc + mLen i) ls (mTs ad st'))) : W p l e R s m args below meth c H locs cells slots Q (F0 m pc ls (mTs ad st)) := by
  cases i <;> simp only [mG, reduceCtorEq] at hg
  case getfield ix =>
    split at hg
    · rename_i a r
      split at hg
      · rename_i ci fs hc
        split at hg
        · rename_i hci
          subst hci
          cases hf : fs[o2]? with
          | none => rw [hf] at hg; cases hg
          | some x =>
            rw [hf] at hg
            cases hg
            rcases hV with ⟨C, T, N, h1, h2, h3, h4⟩ | ⟨h1, q, h2, h4⟩
            · have hP := va_P_one ((hOK.2.2.2.1 a _ hc).obj h1)
              have hv : (fs.map (mT ad))[o2]? = some (mT ad x) := by rw [List.getElem?_map, hf]; rfl
              rcases h4 with h4 | ⟨host, h4⟩
              · exact va_get hx hb hts h3 hown hOK.1 hP 0 rfl h1 o2 h2 (hts _ h4) (fun _ q => q) hv hdg k
              · exact va_getN hx hb hts h3 hown hOK.1 hP 0 rfl h1 o2 h2 (hts _ h4) (fun _ q => q) hv hdg k
            · obtain ⟨v', v1, cf, kf, fi, f, cell, g1, g2, g3, g4, g5⟩ := ((hOK.2.2.2.1 a _ hc).con h1).2 o2 q h2
              rw [hf] at v1
              cases v1
              rcases h4 with h4 | ⟨host, h4⟩
              · exact W.getf hx hb hown (hts _ h4) g1 g2 g3 g4 (v := mT ad x) g5 rfl rfl hdg k
              · exact va_Wgetf hx hb hown (hts _ h4) g1 g2 g3 g4 (v := mT ad x) g5 rfl rfl hdg k
        · cases hg
      · cases hg
    · cases hg
  case getstatic ix =>
    cases hg
    obtain ⟨C, n, d, h1, h2 | ⟨host, h2⟩⟩ := hV
    · exact va_gets hx hb (hOK0 _ h1).z hS hown (hts _ h2) (fun _ q => q) hdg k
    · exact va_getsN hx hb (hOK0 _ h1).z hS hown (hts _ h2) (fun _ q => q) hdg k
  case ldc ix =>
    cases hg
    rcases hV with ⟨x, rfl, h2⟩ | ⟨rfl, rfl, rfl⟩
    · exact lv_ldc hx hb hown (hts _ h2) hdg k
    · exact va_ldcS hx hb hown hRN hdg k
  case ldc_w ix =>
    cases hg
    obtain ⟨x, rfl, h2⟩ := hV
    exact lv_ldcw hx hb hown (hts _ h2) hdg k
  case ldc2_w ix =>
    cases hg
    obtain ⟨x, rfl, h2⟩ := hV
    exact lv_ldc2 hx hb hown (hts _ h2) hdg k
  case iaload =>
    split at hg
    · rename_i i a r
      split at hg
      · rename_i n f hc
        split at hg
        · rename_i hin
          cases hg
          exact va_iald hx hb hOK.1 (mAt_arr (by decide) (hOK.2.2.2.1 a _ hc)) 0 0 rfl rfl (mIn_ok hin) hdg k
        · cases hg
      · rename_i n f hc
        split at hg
        · rename_i hin
          cases hg
          have hX : mArr (ad a) n f s H := hOK.2.2.2.1 a _ hc
          obtain ⟨scr, h1, h2, h3, h4, h5, h6⟩ := hX
          have hin := mIn_ok hin
          have hlt : i.toNatClampNeg < n := Nat.not_le.mp fun q => hin (Or.inr q)
          exact W.iald (v := .int (f i.toNatClampNeg)) hx hb h1 h2 h3 (fun q => q.elim (fun q => hin (Or.inl q)) (fun q => by omega)) (h6 _ hlt) rfl rfl hdg k
        · cases hg
      · cases hg
    · cases hg
  case caload =>
    split at hg
    · rename_i i a r
      split at hg
      · rename_i n f hc
        split at hg
        · rename_i hin
          cases hg
          exact va_cald hx hb hOK.1 (mAt_arr (by decide) (hOK.2.2.2.1 a _ hc)) 0 2 rfl rfl (mIn_ok hin) hdg k
        · cases hg
      · cases hg
    · cases hg
  case baload =>
    split at hg
    · rename_i i a r
      split at hg
      · rename_i n f hc
        split at hg
        · rename_i hin
          cases hg
          exact va_zald hx hb hOK.1 (mAt_arr (by decide) (hOK.2.2.2.1 a _ hc)) 0 3 rfl rfl (mIn_ok hin) hdg k
        · cases hg
      · rename_i n f hc
        split at hg
        · rename_i hin
          cases hg
          have hX : mOld .byte (ad a) n (fun j => .int (f j)) s H := hOK.2.2.2.1 a _ hc
          obtain ⟨scr, h1, h2, h3, h4, h5, h6⟩ := hX
          have hin := mIn_ok hin
          have hlt : i.toNatClampNeg < n := Nat.not_le.mp fun q => hin (Or.inr q)
          exact W.bald (v := .int (f i.toNatClampNeg)) hx hb h1 h2 h3 (fun q => q.elim (fun q => hin (Or.inl q)) (fun q => by omega)) (h6 _ hlt) rfl rfl hdg k
        · cases hg
      · cases hg
    · cases hg
  case aaload =>
    split at hg
    · rename_i i a r
      split at hg
      · rename_i n f hc
        split at hg
        · rename_i hin
          cases hq : f i.toNatClampNeg with
          | none => rw [hq] at hg; cases hg
          | some q0 =>
            rw [hq] at hg
            cases hg
            have hX : mOld mOp (ad a) n (fun j => mT ad (va_rf (f j))) s H := hOK.2.2.2.1 a _ hc
            obtain ⟨scr, h1, h2, h3, h4, h5, h6⟩ := hX
            have hin := mIn_ok hin
            have hlt : i.toNatClampNeg < n := Nat.not_le.mp fun q => hin (Or.inr q)
            have h7 := h6 _ hlt
            dsimp only at h7
            rw [hq] at h7
            exact W.aald (v := .ref (ad q0)) (ty := mOp) hx hb h1 h2 rfl h3 (fun q => q.elim (fun q => hin (Or.inl q)) (fun q => by omega)) h7 rfl rfl hdg k
        · cases hg
      · cases hg
    · cases hg
  case laload =>
    split at hg
    · rename_i i a r
      split at hg
      · rename_i n f hc
        split at hg
        · rename_i hin
          cases hg
          exact va_lald hx hb hOK.1 (mAt_arr (by decide) (hOK.2.2.2.1 a _ hc)) 0 1 rfl rfl (mIn_ok hin) hdg k
        · cases hg
      · cases hg
    · cases hg
  case arraylength =>
    split at hg
    · rename_i a r
      split at hg
      · rename_i n f hc
        cases hg
        have hX : mArr (ad a) n f s H := hOK.2.2.2.1 a _ hc
        obtain ⟨scr, h1, h2, h3, h4, h5, h6⟩ := hX
        exact W.alen (n := Int32.ofNat n) hx hb h1 h2 h5 rfl rfl hdg k
      · rename_i n f hc
        cases hg
        have hX : mOld .byte (ad a) n (fun j => .int (f j)) s H := hOK.2.2.2.1 a _ hc
        obtain ⟨scr, h1, h2, h3, h4, h5, h6⟩ := hX
        exact W.alen (n := Int32.ofNat n) hx hb h1 h2 h5 rfl rfl hdg k
      · rename_i n f hc
        cases hg
        have hX : mOld mOp (ad a) n (fun j => mT ad (va_rf (f j))) s H := hOK.2.2.2.1 a _ hc
        obtain ⟨scr, h1, h2, h3, h4, h5, h6⟩ := hX
        exact W.alen (n := Int32.ofNat n) hx hb h1 h2 h5 rfl rfl hdg k
      · rename_i t n f _ _ hne hc
        split at hg
        · rename_i ht
          cases hg
          have hP := mAt_arr (by omega) (hOK.2.2.2.1 a _ hc)
          have hc4 : t = 0 ∨ t = 1 ∨ t = 2 ∨ t = 3 := by omega
          rcases hc4 with rfl | rfl | rfl | rfl
          · exact va_alen hx hb hOK.1 hP 0 0 rfl rfl rfl hdg k
          · exact va_alen hx hb hOK.1 hP 0 1 rfl rfl rfl hdg k
          · exact va_alen hx hb hOK.1 hP 0 2 rfl rfl rfl hdg k
          · exact va_alen hx hb hOK.1 hP 0 3 rfl rfl rfl hdg k
        · cases hg
      · cases hg
    · cases hg
end MG
