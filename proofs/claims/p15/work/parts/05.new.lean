/-! NEW CELLS -/
/-- how many slots a cell has (a thrown object: six) -/
def mSz (c : mC) : Nat := match c with
  | none => 6
  | some (.inl (_, n, _)) => n
  | some (.inr (_, fs)) => fs.length
def mVn (own : String) (cl : List vw_C) (Ts : List Cond) (dflt : Nat → List Value) (i : Instr) (o1 : Nat) : Prop := match i with
  | .newarray t => Cond.arrayClass (newarray.typeOf t) ∈ Ts
  | .new ix => ∃ (C : String) (T : u_T) (N : Nat) (ty0 : Nat → FieldType), cl[o1]? = some (C, T, N) ∧ (∀ w ∈ u_ws C T N, w ∈ Ts) ∧ (∀ k, k < N → parseFieldDescriptor (T k).2.2.1 = some (ty0 k)) ∧ Cond.classLink own ix C ∈ Ts ∧ Cond.instantiable C N ∈ Ts ∧ Cond.initialized C ∈ Ts ∧ (dflt o1).length = N ∧ ∀ j, j < N → (dflt o1)[j]? = some (defaultValue (ty0 j))
  | _ => True
theorem mT_default (ad : Nat → Nat) (ty : FieldType) : mT ad (defaultValue ty) = defaultValue ty := by cases ty <;> rfl
section MN
variable {p : Program} {l : Launch} {e : Env} {R : Room} {s : State} {m : MethodId} {args : Array Value} {below : List Frame} {meth : Method} {c : Code} {H : Heap} {locs : List Loc} {cells slots : Nat} {Q : State → Prop}
variable {cc : ByteArray} {pc : Nat} {ls : Array Slot} {rest : List Value} {D : va_G} {cl : List vw_C} {tyC : Nat → ClassId} {k0 sz0 : Nat} {ad : Nat → Nat} {zs : List (String × String × String × Value)} {Ts : List Cond} {own : String}
theorem mNa_inv {k : Nat} {st st' : List Value} {h h' : mH} {a : Nat → vp_A} (hg : mNa k st h a = some (st', h')) : ∃ n r, st = .int n :: r ∧ ¬ n < 0 ∧ n.toNatClampNeg ≤ 1000 ∧ st' = .ref h.length :: r ∧ h' = h ++ [some (.inl (k, a n.toNatClampNeg))] := by
  unfold mNa at hg
  split at hg
  · split at hg
    · rename_i hq
      cases hg
      exact ⟨_, _, rfl, hq.1, hq.2, rfl, rfl⟩
    · cases hg
  · cases hg
theorem va_S.grow {A : Nat → Prop} {H0 H H1 : Heap} {locs : List Loc} (h : va_S A H0 H locs) (z : H1.size = H.size + 1) (o1 : ∀ q : Nat, q < H.size → H1[q]? = H[q]?) : va_S A H0 H1 locs :=
  ⟨Nat.le_trans h.1 (by omega), fun x h1 h2 => (o1 x (Nat.lt_of_lt_of_le h1 h.1)).trans (h.2.1 x h1 h2), h.2.2⟩
set_option maxHeartbeats 4000000 in
/-- a new array of the kind k -/
theorem mNa_row {t : ArrayType} {ty : FieldType} (hty : newarray.typeOf t = ty) (k : Nat) (hk : k < 4) (htk : (mTys tyC)[k]? = some (tyC k, ty)) (hRA : ∀ cA, va_RA s cA ty → s.vm.findClass ("[" ++ ty.toString) = some cA) {a : Nat → vp_A} (ha : ∀ (cA : ClassId) (n : Nat), vp_cell cA (a n) = arrV cA n (fun _ => defaultValue ty)) (hb8 : ∀ n, n ≤ 1000 → n * componentBytes ty ≤ 536870912)
    {st st' : List Value} {h h' : mH} (had : mAd k0 sz0 ad) (hx : p.tables.exec = Jvm.exec) (hb : c.code = cc) (hdg : decode cc pc = .ok (.newarray t, 2)) (hts : ∀ w ∈ Ts, w.before args s = true) (hV : Cond.arrayClass (newarray.typeOf t) ∈ Ts)
    (hOK : mOK D cl tyC k0 sz0 ad zs s h H) (hS : va_S (mNew sz0) s.heap H locs) (hg : mNa k st h a = some (st', h')) (hcells : cells + 1 ≤ R.cells) (hslots : ∀ x, h' = h ++ [x] → slots + mSz x ≤ R.slots) (hsz : ∀ n, (a n).1 = n)
    (kk : ∀ (x : mC) (H1 : Heap), h' = h ++ [x] → mOK D cl tyC k0 sz0 ad zs s h' H1 → va_S (mNew sz0) s.heap H1 locs → W p l e R s m args below meth c H1 locs (cells + 1) (slots + mSz x) Q (F0 m (pc + 2) ls (mTs ad st'))) : W p l e R s m args below meth c H locs cells slots Q (F0 m pc ls (mTs ad st)) := by
  obtain ⟨n, r, rfl, hn, hN, rfl, rfl⟩ := mNa_inv hg
  subst hty
  have hsl : mSz (some (.inl (k, a n.toNatClampNeg))) = n.toNatClampNeg := hsz _
  have h9 := hslots _ rfl
  rw [hsl] at h9
  refine va_newaK hx hb (hts _ hV) rfl hdg rfl hn rfl (hb8 _ hN) hcells h9 rfl fun H1 cA e1 z1 o1 hAr hNm => ?_
  have hcA : cA = tyC k := by
    have h1 := hRA _ (hOK.1.2 k _ htk).2
    exact Option.some.inj (hNm.symm.trans h1)
  subst hcA
  have h8 := kk _ H1 rfl (hOK.push had z1 o1 (by
    refine mAt_arr' hk ?_
    rw [mAd_at had hOK, ha]
    exact e1)) (hS.grow z1 o1)
  rw [hsl] at h8
  have h7 : mTs ad (.ref h.length :: r) = .ref H.size :: mTs ad r := by show Value.ref (ad h.length) :: _ = _; rw [mAd_at had hOK]
  rw [h7] at h8
  exact h8
set_option maxHeartbeats 4000000 in
theorem mN_ok {dflt : Nat → List Value} {i : Instr} {o1 : Nat} {st st' : List Value} {h h' : mH} (had : mAd k0 sz0 ad) (hx : p.tables.exec = Jvm.exec) (hb : c.code = cc) (hdg : decode cc pc = .ok (i, mLn i o1)) (hown : s.vm.findClass own = some m.cls) (hts : ∀ w ∈ Ts, w.before args s = true) (hV : mVn own cl Ts dflt i o1)
    (hOK : mOK D cl tyC k0 sz0 ad zs s h H) (hS : va_S (mNew sz0) s.heap H locs) (hg : mN dflt i o1 st h = some (st', h')) (hcells : cells + 1 ≤ R.cells) (hslots : ∀ x, h' = h ++ [x] → slots + mSz x ≤ R.slots)
    (kk : ∀ (x : mC) (H1 : Heap), h' = h ++ [x] → mOK D cl tyC k0 sz0 ad zs s h' H1 → va_S (mNew sz0) s.heap H1 locs → W p l e R s m args below meth c H1 locs (cells + 1) (slots + mSz x) Q (F0 m (pc + mLen i) ls (mTs ad st'))) : W p l e R s m args below meth c H locs cells slots Q (F0 m pc ls (mTs ad st)) := by
  cases i <;> simp only [mN, reduceCtorEq] at hg
  case newarray t =>
    cases t <;> simp only [reduceCtorEq] at hg
    case int => exact mNa_row (t := .int) (ty := .int) rfl 0 (by decide) rfl (fun _ q => q) (fun cA n => vp_cell_i cA n _) (fun n hn => by show n * 4 ≤ _; omega) had hx hb hdg hts hV hOK hS hg hcells hslots (fun _ => rfl) kk
    case long => exact mNa_row (t := .long) (ty := .long) rfl 1 (by decide) rfl (fun _ q => q) (fun cA n => vp_cell_l cA n _) (fun n hn => by show n * 8 ≤ _; omega) had hx hb hdg hts hV hOK hS hg hcells hslots (fun _ => rfl) kk
    case char => exact mNa_row (t := .char) (ty := .char) rfl 2 (by decide) rfl (fun _ q => q) (fun cA n => vp_cell_i cA n _) (fun n hn => by show n * 2 ≤ _; omega) had hx hb hdg hts hV hOK hS hg hcells hslots (fun _ => rfl) kk
    case boolean => exact mNa_row (t := .boolean) (ty := .boolean) rfl 3 (by decide) rfl (fun _ q => q) (fun cA n => vp_cell_i cA n _) (fun n hn => by show n * 1 ≤ _; omega) had hx hb hdg hts hV hOK hS hg hcells hslots (fun _ => rfl) kk
  case new ix =>
    cases hg
    obtain ⟨C, T, N, ty0, h1, h3, h4, h5, h6, h7, h8, h9⟩ := hV
    have hKn := hOK.1.1 o1 _ h1
    have hsl : mSz (some (.inr (o1, dflt o1))) = N := h8
    have h10 := hslots _ rfl
    rw [hsl] at h10
    refine W.newcK hx hb hown (hts _ h5) (hts _ h6) (hts _ h7) rfl hdg hcells h10 hKn.2.1 rfl fun H1 kC hkC e1 z1 o1' => ?_
    have h11 := kk _ H1 rfl (hOK.push had z1 o1' (by
      refine mAt.mk (show va_at D cl (ad h.length, .inr (o1, (dflt o1).map (mT ad))) H1 from ⟨_, h1, ?_⟩)
      rw [mAd_at had hOK]
      refine (u_born ty0 hts h3 hKn hkC e1 h4).to (fun j hj => ?_)
      show defaultValue (ty0 j) = ((dflt o1).map (mT ad)).getD j .null
      rw [List.getD_eq_getElem?_getD, List.getElem?_map, h9 j hj]
      exact (mT_default ad _).symm)) (hS.grow z1 o1')
    rw [hsl] at h11
    have h12 : mTs ad (.ref h.length :: st) = .ref H.size :: mTs ad st := by show Value.ref (ad h.length) :: _ = _; rw [mAd_at had hOK]
    rw [h12] at h11
    exact h11
/-- calls that are done at once -/
def mVx (own : String) (Ts : List Cond) (i : Instr) (o3 : Nat) : Prop := match o3 with
  | 1 => ∃ ix, i = .invokespecial ix ∧ Cond.methodLink own ix Lib.objectInit ∈ Ts ∧ Cond.instanceMethod Lib.objectInit ∈ Ts ∧ Cond.code Lib.objectInit ⟨#[0xb1]⟩ 1 none ∈ Ts
  | 2 => ∃ ix, i = .invokestatic ix ∧ Cond.methodLink own ix Lib.Math.min.name ∈ Ts ∧ Cond.static Lib.Math.min.name ∈ Ts ∧ Cond.initialized "java/lang/Math" ∈ Ts ∧ Cond.code Lib.Math.min.name Lib.Math.min.code 2 (some .int) ∈ Ts
  | 3 => ∃ ix, i = .invokestatic ix ∧ Cond.methodLink own ix Lib.Math.max.name ∈ Ts ∧ Cond.static Lib.Math.max.name ∈ Ts ∧ Cond.initialized "java/lang/Math" ∈ Ts ∧ Cond.code Lib.Math.max.name Lib.Math.max.code 2 (some .int) ∈ Ts
  | 4 => mVy own Ts i
  | 5 => mVy own Ts i
  | _ => True
theorem mTs_cat (ad : Nat → Nat) (st : List Value) : ((mTs ad st).map fun v => v.category) = st.map fun v => v.category := by
  rw [List.map_map]
  exact List.map_congr_left (fun v _ => mT_cat ad v)
set_option maxHeartbeats 4000000 in
theorem mX_ok {i : Instr} {o3 nL : Nat} {st st' : List Value} {h h' : mH} (hx : p.tables.exec = Jvm.exec) (hb : c.code = cc) (hdg : decode cc pc = .ok (i, 3)) (hown : s.vm.findClass own = some m.cls) (hts : ∀ w ∈ Ts, w.before args s = true) (hV : mVx own Ts i o3) (hsz : ls.size = c.maxLocals)
    (hg : mX o3 st h = some (st', h')) (hfr : 1 ≤ R.frames) (hlo : 20 ≤ R.locals) (hc : cells ≤ R.cells) (hs : slots ≤ R.slots)
    (kk : h' = h → W p l e R s m args below meth c H locs cells slots Q (F0 m (pc + 3) ls (mTs ad st'))) : W p l e R s m args below meth c H locs cells slots Q (F0 m pc ls (mTs ad st)) := by
  unfold mX at hg
  split at hg
  · split at hg
    · rename_i a r
      split at hg
      · rename_i hq
        cases hg
        obtain ⟨ix, rfl, h1, h2, h3⟩ := hV
        refine W.objInit hx hb hown (hts _ h1) (hts _ h2) (hts _ h3) rfl hsz rfl hdg hfr ?_ (kk rfl)
        have h4 := lv_room (m := m) (pc := pc) (ls := ls) (rest := mTs ad (.ref a :: st')) (st := mTs ad st') (by rw [mTs_cat]; exact hq)
        exact Nat.le_trans (Nat.add_le_add_right h4 12) hlo
      · cases hg
    · cases hg
  · split at hg
    · rename_i y x r
      split at hg
      · rename_i hq
        cases hg
        obtain ⟨ix, rfl, h1, h2, h3, h4⟩ := hV
        exact va_mmin hx hb hsz.symm hown (hts _ h1) (hts _ h2) (hts _ h3) (hts _ h4) hfr (by rw [mTs_cat]; omega) hc hs hdg (kk rfl)
      · cases hg
    · cases hg
  · split at hg
    · rename_i y x r
      split at hg
      · rename_i hq
        cases hg
        obtain ⟨ix, rfl, h1, h2, h3, h4⟩ := hV
        exact va_mmax hx hb hsz.symm hown (hts _ h1) (hts _ h2) (hts _ h3) (hts _ h4) hfr (by rw [mTs_cat]; omega) hc hs hdg (kk rfl)
      · cases hg
    · cases hg
  · cases hg
end MN
