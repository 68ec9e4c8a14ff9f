/-! SOUNDNESS OF THE SMALL MACHINE -/
section MS
variable {p : Program} {l : Launch} {e : Env} {R : Room} {s : State} {m : MethodId} {args : Array Value} {below : List Frame} {meth : Method} {c : Code} {Q : State → Prop}
variable {D : va_G} {cl : List vw_C} {tyC : Nat → ClassId} {k0 sz0 : Nat} {ad : Nat → Nat} {zs : List (String × String × String × Value)} {Ts : List Cond} {dflt : Nat → List Value} {strs : List (String × Nat × String)} {ncs : List (Nat × Nat)} {EX : Nat → String} {ct : Nat → Nat} {P : Nat → Nat → Option mI} {Hn : Nat → List (Nat × Nat × Nat × Nat)} {mx : Nat → Nat} {mt : Nat → mMt}
theorem mCl_inv {en : mI} {st : List Value} {h : mH} {ce : Nat} {as rest : List Value} (hc : mCl en st h = some (ce, as, rest)) : mIv en.1 = true ∧ en.2.2.2.1 = 0 ∧ ce = en.2.1 ∧ st = as.reverse ++ rest ∧ as.length = en.2.2.1 ∧ (rest.map fun v => v.category).sum ≤ 8 ∧ mRc en.1 en.2.2.2.2 as h = true := by
  unfold mCl at hc
  split at hc
  · rename_i hq
    obtain ⟨h1, h2, h3, h4, h5⟩ := hq
    cases hc
    refine ⟨h1, h2, rfl, ?_, ?_, h4, h5⟩
    · rw [List.reverse_reverse, List.take_append_drop]
    · rw [List.length_reverse, List.length_take]
      omega
  · cases hc
theorem va_SF {A : Nat → Prop} {H0 H H1 : Heap} {locs L : List Loc} {st t : State} (hS : va_S A H0 H locs) (h0 : st.heap = H) (hF : va_F A st t) (h1 : t.heap = H1) (hL : ∀ q ∈ L, A q.base) : va_S A H0 H1 (locs ++ L) := by
  subst h0; subst h1
  refine ⟨Nat.le_trans hS.1 hF.1, fun q a1 a2 => ?_, fun q hq => ?_⟩
  · rw [hF.2 q (Nat.lt_of_lt_of_le a1 hS.1) a2]
    exact hS.2.1 q a1 a2
  · rcases List.mem_append.mp hq with h | h
    · exact hS.2.2 q h
    · exact hL q h
set_option maxHeartbeats 8000000 in
/-- the instruction at hand is linked to its method -/
theorem mLk {T : State} {H : Heap} {locs : List Loc} {cells slots : Nat} {mi ce pc : Nat} {en : mI} {st as rest : List Value} {h : mH} {ls : Array Slot} {cc : ByteArray} (X : Stand p l e R s m args below meth c T locs cells slots) (hT : T.heap = H) (hx : p.tables.exec = Jvm.exec) (hb : c.code = cc) (hdg : decode cc pc = .ok (en.1, 3)) (hown : s.vm.findClass (mt mi).1.cls = some m.cls) (hts : ∀ w ∈ Ts, w.before args s = true)
    (hVc : mVc (mt mi).1.cls cl Ts mt Hn en) (hVM : mVM cl zs Ts dflt strs ncs EX ct P Hn mx mt ce) (hOK : mOK D cl tyC k0 sz0 ad zs s h H) (hcl : mCl en st h = some (ce, as, rest)) :
    mLkd p l e R s m args below meth c T locs cells slots (F0 m pc ls (mTs ad st)) (mTs ad rest) (mt ce).1 (as.map (mT ad)).toArray := by
  obtain ⟨h1, h2, rfl, rfl, h5, h6, h7⟩ := mCl_inv hcl
  have hV := hVc h2
  obtain ⟨w1, w2, w3, w4, -⟩ := hVM
  obtain ⟨i, o1, o2, o3, v⟩ := en
  dsimp only at *
  cases i <;> simp only [mIv, reduceCtorEq] at h1
  case invokevirtual ix =>
    obtain ⟨v1, v2, v3, v4, v5, v6⟩ := hV
    cases as with
    | nil => simp [mRc] at h7
    | cons r as =>
      cases r with
      | ref b =>
        simp only [mRc] at h7
        split at h7
        · rename_i ci fs hc
          split at h7
          · rename_i k
            have hk : ci = k := by simpa using h7
            obtain ⟨T0, N0, hck⟩ := v6 k rfl
            obtain ⟨r0, g1, cell, q1, q2, q3, q4⟩ := (show va_at D cl (ad b, .inr (ci, fs.map (mT ad))) H from hOK.2.2.2.1 b _ hc)
            have hfc : s.vm.findClass (mt o1).1.cls = some cell.cls := by
              rw [q2, hk]
              exact (hOK.1.1 k _ hck).2.1
            refine mLkV X hx hown (v1.imp (hts _) (fun ⟨host, hh⟩ => ⟨host, hts _ hh⟩)) (hts _ v2) (hts _ v3) (hts _ w3) w2 (b := ad b) (cellB := cell) (by rw [hT]; exact q1) (by rw [q3]; rfl) hfc rfl (argsL := as.map (mT ad)) ?_ ?_ (by rw [hb]; exact hdg)
            · rw [v4, List.length_map]
              simp only [List.length_cons] at h5
              rw [← h5]
              rfl
            · show List.map (mT ad) ((Value.ref b :: as).reverse ++ rest) = _
              simp [mT]
          · cases h7
        · cases h7
      | _ => simp [mRc] at h7
  case invokestatic ix =>
    obtain ⟨v1, v2, v4⟩ := hV
    refine mLkS X hx hown (v1.imp (hts _) (fun ⟨host, hh⟩ => ⟨host, hts _ hh⟩)) (hts _ v2) (hts _ w4) (hts _ w3) w2 rfl (argsL := as.map (mT ad)) ?_ ?_ (by rw [hb]; exact hdg)
    · rw [v4, List.length_map, h5]
    · show List.map (mT ad) (as.reverse ++ rest) = _
      simp
  case invokespecial ix =>
    obtain ⟨v0, v1, v2, v3, vr, v4, v5⟩ := hV
    cases as with
    | nil => simp [mRc] at h7
    | cons r as =>
      cases r with
      | ref b =>
        have w3' : Cond.code (mt o1).1 (mt o1).2.1 (mt o1).2.2.1 none ∈ Ts := by
          rw [v3, vr] at w3
          exact w3
        refine mLkI X hx hown v0 (hts _ v1) (hts _ v2) (hts _ w3') w2 (b := ad b) rfl (argsL := as.map (mT ad)) ?_ ?_ (by rw [hb]; exact hdg)
        · rw [v4, List.length_map]
          simp only [List.length_cons] at h5
          rw [← h5]
          rfl
        · show List.map (mT ad) ((Value.ref b :: as).reverse ++ rest) = _
          simp [mT]
      | _ => simp [mRc] at h7
end MS
