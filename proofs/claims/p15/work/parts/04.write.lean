/-! WRITES AND NEW CELLS -/
theorem mAt.kept {D : va_G} {cl : List vw_C} {tyC : Nat → ClassId} {ad : Nat → Nat} {i : Nat} {c : (Nat × vp_A) ⊕ (Nat × List Value)} {U : State} {H H1 : Heap} (h : mAt D cl tyC ad i c U H) (hq : H1[ad i]? = H[ad i]?) : mAt D cl tyC ad i c U H1 := by
  unfold mAt at h ⊢
  split at h
  · exact h.kept hq
  · exact h.kept hq
  · exact h.kept hq
  · exact hq.trans h
  · exact h.imp (fun q => va_at.kept q hq) (fun q => ⟨q.1, q.2.kept hq⟩)
theorem mAt.lt {D : va_G} {cl : List vw_C} {tyC : Nat → ClassId} {ad : Nat → Nat} {i : Nat} {c : (Nat × vp_A) ⊕ (Nat × List Value)} {U : State} {H : Heap} (h : mAt D cl tyC ad i c U H) : ad i < H.size := by
  unfold mAt at h
  split at h
  · obtain ⟨scr, q, -⟩ := h
    exact (Array.getElem?_eq_some_iff.mp q).1
  · obtain ⟨scr, q, -⟩ := h
    exact (Array.getElem?_eq_some_iff.mp q).1
  · obtain ⟨scr, q, -⟩ := h
    exact (Array.getElem?_eq_some_iff.mp q).1
  · exact (Array.getElem?_eq_some_iff.mp h).1
  · rcases h with h | ⟨-, ⟨cell, q, -⟩, -⟩
    · exact va_at.lt h
    · exact (Array.getElem?_eq_some_iff.mp q).1
theorem mOK.set {D : va_G} {cl : List vw_C} {tyC : Nat → ClassId} {k0 sz0 : Nat} {ad : Nat → Nat} {zs : List (String × String × String × Value)} {U : State} {h : mH} {H H1 : Heap} (had : mAd k0 sz0 ad) (k : mOK D cl tyC k0 sz0 ad zs U h H) {a : Nat} {c : (Nat × vp_A) ⊕ (Nat × List Value)} (hka : k0 ≤ a) (hl : a < h.length)
    (z : H1.size = H.size) (oq : ∀ q : Nat, q ≠ ad a → H1[q]? = H[q]?) (hc : mAt D cl tyC ad a c U H1) : mOK D cl tyC k0 sz0 ad zs U (h.set a (some c)) H1 := by
  obtain ⟨k1, k2, k3, k4, k5⟩ := k
  refine ⟨k1, ⟨by rw [List.length_set]; exact k2.1, fun i h1 h2 => ?_⟩, by rw [z, List.length_set]; exact k3, fun i x hx => ?_, fun y hy => (k5 y hy).kept (fun q _ hn => oq q (fun e => hn ?_))⟩
  · by_cases hi : i = a
    · subst hi
      exact ⟨c, List.getElem?_set_self hl⟩
    · rw [List.getElem?_set_ne (Ne.symm hi)]
      exact k2.2 i h1 (by rw [List.length_set] at h2; exact h2)
  · by_cases hi : i = a
    · subst hi
      rw [List.getElem?_set_self hl] at hx
      cases hx
      exact hc
    · rw [List.getElem?_set_ne (Ne.symm hi)] at hx
      exact (k4 i x hx).kept (oq _ (mAd_ne had hka hi))
  · rw [e, had.2.1 a hka]
    exact Nat.le_add_right _ _
theorem mOK.push {D : va_G} {cl : List vw_C} {tyC : Nat → ClassId} {k0 sz0 : Nat} {ad : Nat → Nat} {zs : List (String × String × String × Value)} {U : State} {h : mH} {H H1 : Heap} (had : mAd k0 sz0 ad) (k : mOK D cl tyC k0 sz0 ad zs U h H) {c : (Nat × vp_A) ⊕ (Nat × List Value)}
    (z : H1.size = H.size + 1) (oq : ∀ q : Nat, q < H.size → H1[q]? = H[q]?) (hc : mAt D cl tyC ad h.length c U H1) : mOK D cl tyC k0 sz0 ad zs U (h ++ [some c]) H1 := by
  obtain ⟨k1, ⟨k2, kf⟩, k3, k4, k5⟩ := k
  refine ⟨k1, ⟨by rw [List.length_append]; exact Nat.le_trans k2 (Nat.le_add_right _ _), fun i h1 h2 => ?_⟩, by rw [z, List.length_append, k3]; simp; omega, fun i x hx => ?_, fun y hy => (k5 y hy).kept (fun q hq _ => oq q hq)⟩
  · by_cases hi : i < h.length
    · rw [List.getElem?_append_left hi]
      exact kf i h1 hi
    · rw [List.length_append] at h2
      have hi0 : i = h.length := by simp at h2; omega
      subst hi0
      exact ⟨c, by simp⟩
  · by_cases hi : i < h.length
    · rw [List.getElem?_append_left hi] at hx
      have h1 := k4 i x hx
      exact h1.kept (oq _ h1.lt)
    · rw [List.getElem?_append_right (by omega)] at hx
      have hz : i - h.length < 1 := (List.getElem?_eq_some_iff.mp hx).1
      have hi0 : i = h.length := by omega
      subst hi0
      rw [Nat.sub_self] at hx
      have hxc : c = x := Option.some.inj (Option.some.inj hx)
      subst hxc
      exact hc
theorem mAd_at {k0 sz0 : Nat} {ad : Nat → Nat} (had : mAd k0 sz0 ad) {D : va_G} {cl : List vw_C} {tyC : Nat → ClassId} {zs : List (String × String × String × Value)} {U : State} {h : mH} {H : Heap} (k : mOK D cl tyC k0 sz0 ad zs U h H) : ad h.length = H.size := by
  rw [had.2.1 _ k.2.1.1, k.2.2.1]
/-- kinds of fields and their types -/
def mFk (k : Nat) (ty : FieldType) : Bool := match k, ty with
  | 0, .int => true
  | 1, .boolean => true
  | 2, .long => true
  | 3, .object _ => true
  | 3, .array _ => true
  | _, _ => false
theorem mFit_ok {ad : Nat → Nat} {k : Nat} {ty : FieldType} {v : Value} (hk : mFk k ty = true) (hv : mFit k v = true) : narrow ty (mT ad v) = mT ad v ∧ fits ty (mT ad v) = true := by
  unfold mFk at hk
  split at hk
  · unfold mFit at hv
    split at hv <;> first | (exact ⟨rfl, rfl⟩) | (simp at *; done) | contradiction
  · cases v <;> simp [mFit] at hv
    rename_i x
    rcases hv with rfl | rfl <;> exact ⟨rfl, rfl⟩
  · cases v <;> simp [mFit] at hv
    exact ⟨rfl, rfl⟩
  · cases v <;> simp [mFit] at hv
    exact ⟨rfl, rfl⟩
  · cases v <;> simp [mFit] at hv
    exact ⟨rfl, rfl⟩
  · cases hk
def mVp (own : String) (cl : List vw_C) (Ts : List Cond) (isI : Bool) (i : Instr) (o1 o2 o3 : Nat) : Prop := match i with
  | .putfield ix => ∃ (C : String) (T : u_T) (N : Nat) (ty0 : Nat → FieldType), cl[o1]? = some (C, T, N) ∧ o2 < N ∧ (∀ w ∈ u_ws C T N, w ∈ Ts) ∧ (∀ k, k < N → parseFieldDescriptor (T k).2.2.1 = some (ty0 k)) ∧ (∀ a, a < N → ∀ b, b < N → a ≠ b → (T a).2.1 ≠ (T b).2.1) ∧ mFk o3 (ty0 o2) = true ∧
    (((T o2).2.2.2 = false ∧ (Cond.fieldLink own ix (T o2).1 (T o2).2.1 (T o2).2.2.1 ∈ Ts ∨ ∃ host, Cond.fieldLinkNest own ix (T o2).1 (T o2).2.1 (T o2).2.2.1 host ∈ Ts)) ∨ ((T o2).2.2.2 = true ∧ isI = true ∧ (T o2).1 = own ∧ Cond.fieldLink own ix (T o2).1 (T o2).2.1 (T o2).2.2.1 ∈ Ts))
  | _ => True
section MP
variable {p : Program} {l : Launch} {e : Env} {R : Room} {s : State} {m : MethodId} {args : Array Value} {below : List Frame} {meth : Method} {c : Code} {H : Heap} {locs : List Loc} {cells slots : Nat} {Q : State → Prop}
variable {cc : ByteArray} {pc : Nat} {ls : Array Slot} {rest : List Value} {D : va_G} {cl : List vw_C} {tyC : Nat → ClassId} {k0 sz0 : Nat} {ad : Nat → Nat} {zs : List (String × String × String × Value)} {Ts : List Cond} {own : String}
set_option maxHeartbeats 4000000 in
/-- a field's store, with all that it leaves as it was -/
theorem mPut {isI : Bool} {ix o1 o2 o3 a : Nat} {fs : List Value} {v : Value} {h : mH} (had : mAd k0 sz0 ad) (hx : p.tables.exec = Jvm.exec) (hb : c.code = cc) (hdg : decode cc pc = .ok (.putfield ix, 3)) (hown : s.vm.findClass own = some m.cls) (hts : ∀ w ∈ Ts, w.before args s = true) (hV : mVp own cl Ts isI (.putfield ix) o1 o2 o3) (hI : isI = true → meth.name = "<init>")
    (hOK : mOK D cl tyC k0 sz0 ad zs s h H) (hS : va_S (mNew sz0) s.heap H locs) (hc : h[a]? = some (some (.inr (o1, fs)))) (hka : k0 ≤ a) (hl : o2 < fs.length) (hf : mFit o3 v = true)
    (kk : ∀ (H1 : Heap) (locs1 : List Loc), mOK D cl tyC k0 sz0 ad zs s (h.set a (some (.inr (o1, fs.set o2 v)))) H1 → va_S (mNew sz0) s.heap H1 locs1 → W p l e R s m args below meth c H1 locs1 cells slots Q (F0 m (pc + 3) ls rest)) : W p l e R s m args below meth c H locs cells slots Q (F0 m pc ls (mT ad v :: .ref (ad a) :: rest)) := by
  obtain ⟨C, T, N, ty0, h1, h2, h3, h4, h5, h6, h7⟩ := hV
  have hla : a < h.length := (List.getElem?_eq_some_iff.mp hc).1
  have hAa : mNew sz0 (ad a) := by show sz0 ≤ ad a; rw [had.2.1 a hka]; exact Nat.le_add_right _ _
  have hap := va_apart (own := own) hts h3 ty0 h4 h5 hOK.1 h1
  obtain ⟨r, g1, cell, q1, q2, q3, q4⟩ := ((hOK.2.2.2.1 a _ hc).obj h1)
  have hr : r = (C, T, N) := Option.some.inj (g1.symm.trans h1)
  subst hr
  obtain ⟨hSl, hfc, kC, hkC, hkind⟩ := hOK.1.1 o1 _ h1
  obtain ⟨cf, kf, fi, f, hi, hsl⟩ := hSl o2 h2
  obtain ⟨hn, hfit⟩ := mFit_ok (ad := ad) h6 hf
  have hlay := hts _ (h3 _ (u_in_lay h2))
  unfold u_lay at hlay
  have hst := (u_facts hfc hkC (u_lays hts h3 h2) hi).1
  have fin : ∀ H' : Heap, H'[ad a]? = some (cell.setSlot f.slot (mT ad v)) → H'.size = H.size → (∀ q, q ≠ ad a → H'[q]? = H[q]?) → W p l e R s m args below meth c H' (locs ++ [⟨ad a, f.slot⟩]) cells slots Q (F0 m (pc + 3) ls rest) := by
    intro H' e1 e2 e3
    refine kk H' _ (hOK.set had hka hla e2 e3 ?_) (hS.put e2 e3 hAa)
    rw [hsl] at e1
    refine mAt.mk (show va_at D cl (ad a, .inr (o1, (fs.set o2 v).map (mT ad))) H' from ⟨_, h1, ?_⟩)
    rw [List.map_set]
    exact t_OB.to (V := updV (vp_V (fs.map (mT ad))) o2 (mT ad v)) ⟨_, e1, q2, q3, t_set q4 hap h2 (mT ad v)⟩ (fun j _ => vp_updV_set (by rw [List.length_map]; exact hl) (mT ad v) j)
  rcases h7 with ⟨h7, h8⟩ | ⟨h7, h8, h9, h10⟩
  · rw [if_neg (by rw [h7]; decide)] at hlay
    have hs6 := u_store hfc hkC hkind hlay hi (h4 o2 h2) hn hfit
    rcases h8 with h8 | ⟨host, h8⟩
    · exact W.putK hx hb (f := f) ⟨hown, hts _ h8, ⟨_, _, _, hi⟩, hst⟩ (by rw [q2]; exact hs6) q1 q3 (by rw [hsl]; exact k2_hasslot (q4 o2 h2)) rfl rfl hdg fin
    · exact va_WputK hx hb (f := f) hown (hts _ h8) hi hst (by rw [q2]; exact hs6) q1 q3 (by rw [hsl]; exact k2_hasslot (q4 o2 h2)) rfl rfl hdg fin
  · rw [if_pos h7] at hlay
    have hcf : m.cls = cf := by
      obtain ⟨_, _, c', _, _, _, -, -, hf', -, -, -, hown2, -⟩ := Cond.laysFinal_spec hlay
      have e1 : c' = cf := by have := hi.symm.trans hf'; simp at this; exact this.1.symm
      rw [h9] at hown2
      rw [← e1]; exact Option.some.inj (hown.symm.trans hown2)
    have hs6 := u_fits hfc hkC hkind (Or.inr hlay) hi (h4 o2 h2) hn hfit
    exact W.putFinK hx hb hown (hts _ h10) hi hst hcf (hI h8) (by rw [q2]; exact hs6) q1 q3 (by rw [hsl]; exact k2_hasslot (q4 o2 h2)) rfl rfl hdg fin
set_option maxHeartbeats 8000000 in
theorem mP_ok {isI : Bool} {i : Instr} {o1 o2 o3 : Nat} {st st' : List Value} {h h' : mH} (had : mAd k0 sz0 ad) (hx : p.tables.exec = Jvm.exec) (hb : c.code = cc) (hdg : decode cc pc = .ok (i, mLn i o1)) (hown : s.vm.findClass own = some m.cls) (hts : ∀ w ∈ Ts, w.before args s = true) (hV : mVp own cl Ts isI i o1 o2 o3) (hI : isI = true → meth.name = "<init>")
    (hOK : mOK D cl tyC k0 sz0 ad zs s h H) (hS : va_S (mNew sz0) s.heap H locs) (hg : mP k0 i o1 o2 o3 st h = some (st', h'))
    (kk : ∀ (H1 : Heap) (locs1 : List Loc), mOK D cl tyC k0 sz0 ad zs s h' H1 → va_S (mNew sz0) s.heap H1 locs1 → W p l e R s m args below meth c H1 locs1 cells slots Q (F0 m (pc + mLen i) ls (mTs ad st'))) : W p l e R s m args below meth c H locs cells slots Q (F0 m pc ls (mTs ad st)) := by
  have hAa : ∀ a, k0 ≤ a → mNew sz0 (ad a) := fun a hka => by show sz0 ≤ ad a; rw [had.2.1 a hka]; exact Nat.le_add_right _ _
  cases i <;> simp only [mP, reduceCtorEq] at hg
  case putfield ix =>
    split at hg
    · rename_i v a r
      split at hg
      · rename_i ci fs hc
        split at hg
        · rename_i hq
          obtain ⟨rfl, hka, hl, hf⟩ := hq
          cases hg
          exact mPut had hx hb hdg hown hts hV hI hOK hS hc hka hl hf kk
        · cases hg
      · cases hg
    · cases hg
  case iastore =>
    split at hg
    · rename_i x i a r
      split at hg
      · rename_i n f hc
        split at hg
        · rename_i hq
          obtain ⟨hin, hka⟩ := hq
          cases hg
          have hin := mIn_ok hin
          have hcell := mAt_arr (by decide) (hOK.2.2.2.1 a _ hc) 0 _ rfl
          refine W.iast hx hb hcell ((hOK.1.2 0 _ rfl).1 n (fun j => .int (f j))) (fun q => by cases q) (by show ¬ (i < 0 ∨ (arrV _ _ _).slots.size ≤ _); rw [arrV_size]; exact hin) rfl rfl hdg fun H1 e z oq => ?_
          refine kk H1 _ (hOK.set had hka (List.getElem?_eq_some_iff.mp hc).1 z oq (mAt_arr' (by decide) ?_)) (hS.put z oq (hAa a hka))
          rw [e]
          rw [vp_cell_i, vp_cell_i, arrV_store]
          congr 2
          funext q
          by_cases hq : q = i.toNatClampNeg
          · subst hq
            simp [updV, upd]
          · simp [updV, upd, hq]
        · cases hg
      · cases hg
    · cases hg
  case castore =>
    split at hg
    · rename_i x i a r
      split at hg
      · rename_i n f hc
        split at hg
        · rename_i hq
          obtain ⟨hin, hka⟩ := hq
          cases hg
          have hin := mIn_ok hin
          have hcell := mAt_arr (by decide) (hOK.2.2.2.1 a _ hc) 0 _ rfl
          refine W.cast hx hb hcell ((hOK.1.2 2 _ rfl).1 n (fun j => .int (f j))) (fun q => by cases q) (by show ¬ (i < 0 ∨ (arrV _ _ _).slots.size ≤ _); rw [arrV_size]; exact hin) rfl rfl hdg fun H1 e z oq => ?_
          refine kk H1 _ (hOK.set had hka (List.getElem?_eq_some_iff.mp hc).1 z oq (mAt_arr' (by decide) ?_)) (hS.put z oq (hAa a hka))
          rw [e]
          rw [vp_cell_i, vp_cell_i, arrV_store]
          congr 2
          funext q
          by_cases hq : q = i.toNatClampNeg
          · subst hq
            simp [updV, upd, vp_nar]
            try rfl
          · simp [updV, upd, hq]
        · cases hg
      · cases hg
    · cases hg
  case bastore =>
    split at hg
    · rename_i x i a r
      split at hg
      · rename_i n f hc
        split at hg
        · rename_i hq
          obtain ⟨hin, hka⟩ := hq
          cases hg
          have hin := mIn_ok hin
          have hcell := mAt_arr (by decide) (hOK.2.2.2.1 a _ hc) 0 _ rfl
          refine W.zast hx hb hcell ((hOK.1.2 3 _ rfl).1 n (fun j => .int (f j))) (fun q => by cases q) (by show ¬ (i < 0 ∨ (arrV _ _ _).slots.size ≤ _); rw [arrV_size]; exact hin) rfl rfl hdg fun H1 e z oq => ?_
          refine kk H1 _ (hOK.set had hka (List.getElem?_eq_some_iff.mp hc).1 z oq (mAt_arr' (by decide) ?_)) (hS.put z oq (hAa a hka))
          rw [e]
          rw [vp_cell_i, vp_cell_i, arrV_store]
          congr 2
          funext q
          by_cases hq : q = i.toNatClampNeg
          · subst hq
            simp [updV, upd, vp_nar]
            try rfl
          · simp [updV, upd, hq]
        · cases hg
      · cases hg
    · cases hg
  case lastore =>
    split at hg
    · rename_i x i a r
      split at hg
      · rename_i n f hc
        split at hg
        · rename_i hq
          obtain ⟨hin, hka⟩ := hq
          cases hg
          have hin := mIn_ok hin
          have hcell := mAt_arr (by decide) (hOK.2.2.2.1 a _ hc) 0 _ rfl
          refine W.last hx hb hcell ((hOK.1.2 1 _ rfl).1 n (fun j => .long (f j))) (fun q => by cases q) (by show ¬ (i < 0 ∨ (arrV _ _ _).slots.size ≤ _); rw [arrV_size]; exact hin) rfl rfl hdg fun H1 e z oq => ?_
          refine kk H1 _ (hOK.set had hka (List.getElem?_eq_some_iff.mp hc).1 z oq (mAt_arr' (by decide) ?_)) (hS.put z oq (hAa a hka))
          rw [e]
          rw [vp_cell_l, vp_cell_l, arrV_store]
          congr 2
          funext q
          by_cases hq : q = i.toNatClampNeg
          · subst hq
            simp [updV, vp_updL]
          · simp [updV, vp_updL, hq]
        · cases hg
      · cases hg
    · cases hg
end MP
/-! COPIES FROM ARRAY TO ARRAY -/
def mVy (own : String) (Ts : List Cond) (i : Instr) : Prop := ∃ ix, i = .invokestatic ix ∧ Cond.methodLink own ix arraycopyName ∈ Ts ∧ Cond.native arraycopyName ∈ Ts ∧ Cond.static arraycopyName ∈ Ts ∧ Cond.initialized "java/lang/System" ∈ Ts
section MY
variable {p : Program} {l : Launch} {e : Env} {R : Room} {s : State} {m : MethodId} {args : Array Value} {below : List Frame} {meth : Method} {c : Code} {H : Heap} {locs : List Loc} {cells slots : Nat} {Q : State → Prop}
variable {cc : ByteArray} {pc : Nat} {ls : Array Slot} {D : va_G} {cl : List vw_C} {tyC : Nat → ClassId} {k0 sz0 : Nat} {ad : Nat → Nat} {zs : List (String × String × String × Value)} {Ts : List Cond} {own : String}
set_option maxHeartbeats 4000000 in
theorem mCpI (hexec : p.tables.exec = Jvm.exec) (hb : c.code = cc) (hml : c.maxLocals = ls.size) {index : Nat} (hown : s.vm.findClass own = some m.cls) (hlink : (Cond.methodLink own index arraycopyName).before args s = true) (hnat : (Cond.native arraycopyName).before args s = true) (hstat : (Cond.static arraycopyName).before args s = true) (hini : (Cond.initialized "java/lang/System").before args s = true)
    {a0 a : Nat} {c0 c1 : ClassId} {n0 n1 : Nat} {f g : Nat → Int32} (hc0 : H[a0]? = some (vp_cell c0 (n0, .inl f))) (hc1 : H[a]? = some (vp_cell c1 (n1, .inl g))) (hA0 : ArrOfT s c0 .int) (hA1 : ArrOfT s c1 .int)
    {sp dp n : Int32} (h1 : ¬ sp < 0) (h2 : ¬ dp < 0) (h3 : ¬ n < 0) (h4 : sp.toNatClampNeg + n.toNatClampNeg ≤ n0) (h5 : dp.toNatClampNeg + n.toNatClampNeg ≤ n1) (hframes : 1 ≤ R.frames) (hlo : 20 ≤ R.locals) (hdg : decode cc pc = .ok (.invokestatic index, 3))
    (kk : ∀ (H1 : Heap) (locs1 : List Loc), H1[a]? = some (vp_cell c1 (n1, .inl (va_cpy f g sp.toNatClampNeg dp.toNatClampNeg n.toNatClampNeg))) → H1.size = H.size → (∀ q : Nat, q ≠ a → H1[q]? = H[q]?) → (∀ q ∈ locs1, q ∈ locs ∨ q.base = a) → W p l e R s m args below meth c H1 locs1 cells slots Q (F0 m (pc + 3) ls [])) : W p l e R s m args below meth c H locs cells slots Q (F0 m pc ls [.int n, .int dp, .ref a, .int sp, .ref a0]) := by
  have nn : ∀ z : Int32, ¬ z < 0 → z.toInt = (z.toNatClampNeg : Int) := by
    intro z hz
    have hz0 : (0 : Int) ≤ z.toInt := by
      have := Int32.not_lt.mp hz
      simpa using Int32.le_iff_toInt_le.mp this
    show z.toInt = ((z.toInt.toNat : Nat) : Int)
    omega
  intro T hT X
  obtain ⟨-, k0, hk0, cm0, hkk0⟩ := hA0 n0 (fun j => .int (f j))
  obtain ⟨-, k1, hk1, cm1, hkk1⟩ := hA1 n1 (fun j => .int (g j))
  obtain ⟨vm', X', step⟩ := X.arraycopy hexec hown hlink hnat hstat hini (src := a0) (dst := a) (cs := vp_cell c0 (n0, .inl f)) (cd := vp_cell c1 (n1, .inl g)) (srcPos := sp) (destPos := dp) (n := n) (by rw [hT]; exact hc0) (by rw [hT]; exact hc1)
    (fun _ h => by cases h) (fun _ h => by cases h) (fun h => by cases h) (fun h => by cases h) hk0 hk1 hkk0 hkk1 (by simp [refKind]) h1 h2 h3
    (by rw [nn sp h1, nn n h3]; show ¬ _ > ((arrV c0 n0 (fun j => .int (f j))).slots.size : Int); rw [arrV_size]; omega)
    (by rw [nn dp h2, nn n h3]; show ¬ _ > ((arrV c1 n1 (fun j => .int (g j))).slots.size : Int); rw [arrV_size]; omega)
    (fun vm₁ _ i hi => by
      have e : (vp_cell c0 (n0, .inl f)).slots.getD (sp.toNatClampNeg + i) .null = .int (f (sp.toNatClampNeg + i)) := by
        show (arrV c0 n0 (fun j => .int (f j))).slots.getD _ _ = _
        rw [Array.getD_eq_getD_getElem?, arrV_read _ _ (by omega)]
        rfl
      refine ⟨?_, ?_⟩
      · rw [e]
        rfl
      · rw [e]
        exact trivial)
    (g := F0 m pc ls [.int n, .int dp, .ref a, .int sp, .ref a0]) rfl (by rw [hml]) (rest := []) rfl (by rw [hb]; exact hdg) hframes (by show 2 * 0 + 0 + (7 + 11) ≤ _; omega)
  have e1 : copied (vp_cell c0 (n0, .inl f)) (vp_cell c1 (n1, .inl g)) sp dp n = vp_cell c1 (n1, .inl (va_cpy f g sp.toNatClampNeg dp.toNatClampNeg n.toNatClampNeg)) := va_copied (fun z => .int z) c0 c1 f g h4
  rw [e1] at X' step
  have hl : a < H.size := (Array.getElem?_eq_some_iff.mp hc1).1
  have hheap : ((T.setVm vm').setCell a (vp_cell c1 (n1, .inl (va_cpy f g sp.toNatClampNeg dp.toNatClampNeg n.toNatClampNeg)))).heap = H.setIfInBounds a (vp_cell c1 (n1, .inl (va_cpy f g sp.toNatClampNeg dp.toNatClampNeg n.toNatClampNeg))) := by rw [← hT]; rfl
  obtain ⟨t, a1, b1⟩ := kk _ _ (show (H.setIfInBounds a _)[a]? = some _ by simp [Array.getElem?_setIfInBounds, hl]) (by simp) (fun q hq => by simp [Array.getElem?_setIfInBounds, Ne.symm hq]) (fun q hq => by
    rcases List.mem_append.mp hq with h | h
    · exact Or.inl h
    · obtain ⟨z, -, hz⟩ := List.mem_map.mp h
      rw [← hz]
      exact Or.inr rfl) _ hheap X'
  exact ⟨t, step t a1, b1⟩
set_option maxHeartbeats 4000000 in
theorem mCpL (hexec : p.tables.exec = Jvm.exec) (hb : c.code = cc) (hml : c.maxLocals = ls.size) {index : Nat} (hown : s.vm.findClass own = some m.cls) (hlink : (Cond.methodLink own index arraycopyName).before args s = true) (hnat : (Cond.native arraycopyName).before args s = true) (hstat : (Cond.static arraycopyName).before args s = true) (hini : (Cond.initialized "java/lang/System").before args s = true)
    {a0 a : Nat} {c0 c1 : ClassId} {n0 n1 : Nat} {f g : Nat → Int64} (hc0 : H[a0]? = some (vp_cell c0 (n0, .inr (.inl f)))) (hc1 : H[a]? = some (vp_cell c1 (n1, .inr (.inl g)))) (hA0 : ArrOfT s c0 .long) (hA1 : ArrOfT s c1 .long)
    {sp dp n : Int32} (h1 : ¬ sp < 0) (h2 : ¬ dp < 0) (h3 : ¬ n < 0) (h4 : sp.toNatClampNeg + n.toNatClampNeg ≤ n0) (h5 : dp.toNatClampNeg + n.toNatClampNeg ≤ n1) (hframes : 1 ≤ R.frames) (hlo : 20 ≤ R.locals) (hdg : decode cc pc = .ok (.invokestatic index, 3))
    (kk : ∀ (H1 : Heap) (locs1 : List Loc), H1[a]? = some (vp_cell c1 (n1, .inr (.inl (va_cpy f g sp.toNatClampNeg dp.toNatClampNeg n.toNatClampNeg)))) → H1.size = H.size → (∀ q : Nat, q ≠ a → H1[q]? = H[q]?) → (∀ q ∈ locs1, q ∈ locs ∨ q.base = a) → W p l e R s m args below meth c H1 locs1 cells slots Q (F0 m (pc + 3) ls [])) : W p l e R s m args below meth c H locs cells slots Q (F0 m pc ls [.int n, .int dp, .ref a, .int sp, .ref a0]) := by
  have nn : ∀ z : Int32, ¬ z < 0 → z.toInt = (z.toNatClampNeg : Int) := by
    intro z hz
    have hz0 : (0 : Int) ≤ z.toInt := by
      have := Int32.not_lt.mp hz
      simpa using Int32.le_iff_toInt_le.mp this
    show z.toInt = ((z.toInt.toNat : Nat) : Int)
    omega
  intro T hT X
  obtain ⟨-, k0, hk0, cm0, hkk0⟩ := hA0 n0 (fun j => .long (f j))
  obtain ⟨-, k1, hk1, cm1, hkk1⟩ := hA1 n1 (fun j => .long (g j))
  obtain ⟨vm', X', step⟩ := X.arraycopy hexec hown hlink hnat hstat hini (src := a0) (dst := a) (cs := vp_cell c0 (n0, .inr (.inl f))) (cd := vp_cell c1 (n1, .inr (.inl g))) (srcPos := sp) (destPos := dp) (n := n) (by rw [hT]; exact hc0) (by rw [hT]; exact hc1)
    (fun _ h => by cases h) (fun _ h => by cases h) (fun h => by cases h) (fun h => by cases h) hk0 hk1 hkk0 hkk1 (by simp [refKind]) h1 h2 h3
    (by rw [nn sp h1, nn n h3]; show ¬ _ > ((arrV c0 n0 (fun j => .long (f j))).slots.size : Int); rw [arrV_size]; omega)
    (by rw [nn dp h2, nn n h3]; show ¬ _ > ((arrV c1 n1 (fun j => .long (g j))).slots.size : Int); rw [arrV_size]; omega)
    (fun vm₁ _ i hi => by
      have e : (vp_cell c0 (n0, .inr (.inl f))).slots.getD (sp.toNatClampNeg + i) .null = .long (f (sp.toNatClampNeg + i)) := by
        show (arrV c0 n0 (fun j => .long (f j))).slots.getD _ _ = _
        rw [Array.getD_eq_getD_getElem?, arrV_read _ _ (by omega)]
        rfl
      refine ⟨?_, ?_⟩
      · rw [e]
        rfl
      · rw [e]
        exact trivial)
    (g := F0 m pc ls [.int n, .int dp, .ref a, .int sp, .ref a0]) rfl (by rw [hml]) (rest := []) rfl (by rw [hb]; exact hdg) hframes (by show 2 * 0 + 0 + (7 + 11) ≤ _; omega)
  have e1 : copied (vp_cell c0 (n0, .inr (.inl f))) (vp_cell c1 (n1, .inr (.inl g))) sp dp n = vp_cell c1 (n1, .inr (.inl (va_cpy f g sp.toNatClampNeg dp.toNatClampNeg n.toNatClampNeg))) := va_copied (fun z => .long z) c0 c1 f g h4
  rw [e1] at X' step
  have hl : a < H.size := (Array.getElem?_eq_some_iff.mp hc1).1
  have hheap : ((T.setVm vm').setCell a (vp_cell c1 (n1, .inr (.inl (va_cpy f g sp.toNatClampNeg dp.toNatClampNeg n.toNatClampNeg))))).heap = H.setIfInBounds a (vp_cell c1 (n1, .inr (.inl (va_cpy f g sp.toNatClampNeg dp.toNatClampNeg n.toNatClampNeg)))) := by rw [← hT]; rfl
  obtain ⟨t, a1, b1⟩ := kk _ _ (show (H.setIfInBounds a _)[a]? = some _ by simp [Array.getElem?_setIfInBounds, hl]) (by simp) (fun q hq => by simp [Array.getElem?_setIfInBounds, Ne.symm hq]) (fun q hq => by
    rcases List.mem_append.mp hq with h | h
    · exact Or.inl h
    · obtain ⟨z, -, hz⟩ := List.mem_map.mp h
      rw [← hz]
      exact Or.inr rfl) _ hheap X'
  exact ⟨t, step t a1, b1⟩
set_option maxHeartbeats 4000000 in
theorem mY_ok (had : mAd k0 sz0 ad) {i : Instr} {o3 : Nat} {st st' : List Value} {h h' : mH} (hx : p.tables.exec = Jvm.exec) (hb : c.code = cc) (hml : c.maxLocals = ls.size) (hdg : decode cc pc = .ok (i, 3)) (hown : s.vm.findClass own = some m.cls) (hts : ∀ w ∈ Ts, w.before args s = true) (hV : mVy own Ts i)
    (hOK : mOK D cl tyC k0 sz0 ad zs s h H) (hS : va_S (mNew sz0) s.heap H locs) (hg : mY k0 o3 st h = some (st', h')) (hfr : 1 ≤ R.frames) (hlo : 20 ≤ R.locals)
    (kk : ∀ (H1 : Heap) (locs1 : List Loc), mOK D cl tyC k0 sz0 ad zs s h' H1 → va_S (mNew sz0) s.heap H1 locs1 → W p l e R s m args below meth c H1 locs1 cells slots Q (F0 m (pc + 3) ls (mTs ad st'))) : W p l e R s m args below meth c H locs cells slots Q (F0 m pc ls (mTs ad st)) := by
  have hAa : ∀ a, k0 ≤ a → mNew sz0 (ad a) := fun a hka => by show sz0 ≤ ad a; rw [had.2.1 a hka]; exact Nat.le_add_right _ _
  have hSp : ∀ {a : Nat} {H1 : Heap} {locs1 : List Loc}, k0 ≤ a → H1.size = H.size → (∀ q : Nat, q ≠ ad a → H1[q]? = H[q]?) → (∀ q ∈ locs1, q ∈ locs ∨ q.base = ad a) → va_S (mNew sz0) s.heap H1 locs1 := fun {a H1 locs1} hka z oq hlq => by
    refine ⟨by rw [z]; exact hS.1, fun q g1 g2 => ?_, fun q hq => ?_⟩
    · rw [oq q (fun e => g2 (by rw [e]; exact hAa a hka))]
      exact hS.2.1 q g1 g2
    · rcases hlq q hq with h | h
      · exact hS.2.2 q h
      · rw [h]
        exact hAa a hka
  obtain ⟨ix, rfl, l1, l2, l3, l4⟩ := hV
  unfold mY at hg
  split at hg
  · split at hg
    · rename_i n dp a sp b
      split at hg
      · rename_i n1 g n0 f ha hb0
        split at hg
        · rename_i hq
          obtain ⟨hr, hka, hkb, hab⟩ := hq
          unfold mYr at hr
          rw [decide_eq_true_eq] at hr
          obtain ⟨⟨r1, r2, r3⟩, r4, r5⟩ := hr
          cases hg
          have hca := mAt_arr (by decide) (hOK.2.2.2.1 a _ ha) 0 _ rfl
          have hcb := mAt_arr (by decide) (hOK.2.2.2.1 b _ hb0) 0 _ rfl
          exact mCpI hx hb hml hown (hts _ l1) (hts _ l2) (hts _ l3) (hts _ l4) hcb hca (hOK.1.2 0 _ rfl).1 (hOK.1.2 0 _ rfl).1 r1 r2 r3 r4 r5 hfr hlo hdg (fun H1 locs1 e1 z oq hlq => kk H1 locs1 (hOK.set had hka (List.getElem?_eq_some_iff.mp ha).1 z oq (mAt_arr' (by decide) e1)) (hSp hka z oq hlq))
        · cases hg
      · cases hg
    · cases hg
  · split at hg
    · rename_i n dp a sp b
      split at hg
      · rename_i n1 g n0 f ha hb0
        split at hg
        · rename_i hq
          obtain ⟨hr, hka, hkb, hab⟩ := hq
          unfold mYr at hr
          rw [decide_eq_true_eq] at hr
          obtain ⟨⟨r1, r2, r3⟩, r4, r5⟩ := hr
          cases hg
          have hca := mAt_arr (by decide) (hOK.2.2.2.1 a _ ha) 0 _ rfl
          have hcb := mAt_arr (by decide) (hOK.2.2.2.1 b _ hb0) 0 _ rfl
          exact mCpL hx hb hml hown (hts _ l1) (hts _ l2) (hts _ l3) (hts _ l4) hcb hca (hOK.1.2 1 _ rfl).1 (hOK.1.2 1 _ rfl).1 r1 r2 r3 r4 r5 hfr hlo hdg (fun H1 locs1 e1 z oq hlq => kk H1 locs1 (hOK.set had hka (List.getElem?_eq_some_iff.mp ha).1 z oq (mAt_arr' (by decide) e1)) (hSp hka z oq hlq))
        · cases hg
      · cases hg
    · cases hg
  · cases hg
end MY
