/-! THE LAW'S WRAPPERS turned round: printed by program -/
section WR
variable {v5 : Value}
theorem fCd {d n mi : Nat} {r : mO × mH} {m pc pc' : Nat} {lv : mL} {c : ClassFile.Cond} {off : Int} {o : Nat × Nat × Nat × Value} {x : Int32} {s s' : List Value} {h : mH} (hp : mP' (nCodw v5) mi pc = some (.ifCond c off, o)) {b : Bool} (hb : mCnd c x 0 = b) (hm : mBr b pc off s = some (pc', s')) (hx : zF v5 d n mi m pc lv (.int x :: s) h = some r) : zF v5 d n mi m pc' lv s' h = some r := by
  have e1 : mJ (.ifCond c off) pc (.int x :: s) = some (pc', s') := by
    show mBr (mCnd c x 0) pc off s = _
    rw [hb, hm]
  have e2 : eS 158 nDflt (.ifCond c off, o) pc lv (.int x :: s) h = some (pc', lv, s', h) := by
    simp [eS, mRt, mTh, mNw, mCl, mIv, mNx, mA, mB, mD, e1]
  exact fE hp e2 hx
theorem inv13 {d n : Nat} {r : mO × mH} {h : mH} {gs : List Value} {a1 : Int32} (hc : h[158]? = some (some (.inr (0, gs)))) (hx : zEv v5 d n 13 [.ref 158, .int a1, .ref 205] h = some r) : ∃ d' n' rc, zEv v5 d' n' 43 [.ref 158, .int a1] h = some rc ∧ (∀ x h1 f, rc = (.inl (some (.int x)), h1) → h1[205]? = some (some (.inl (1, 1, .inr (.inl f)))) → r = (.inl (some (.int 0)), h1.set 205 (some (.inl (1, 1, .inr (.inl (vp_updL f 0 x.toInt64))))))) ∧ (∀ a h1, rc = (.inr (0, a), h1) → r = (.inl (some (.int 1)), h1)) ∧ (∀ a h1, rc = (.inr (1, a), h1) → r = (.inl (some (.int 2)), h1)) := by
  have hC : nCodw v5 13 = nC13 := rfl
  obtain ⟨d', hx⟩ := zGo hx
  have hx := fR hC 4 (show eR 158 nDflt nC13 4 0 (lv_args 0 [.ref 158, .int a1, .ref 205]) [] h = some (4, (lv_args 0 [.ref 158, .int a1, .ref 205]), [.int a1, .ref 158, .int 0, .ref 205], h) from rfl) hx
  have hm : mCl (.invokevirtual 27, 43, 2, 0, .retAddr 0) [.int a1, .ref 158, .int 0, .ref 205] h = some (43, [.ref 158, .int a1], [.int 0, .ref 205]) := if_pos ⟨rfl, rfl, (show 2 ≤ 4 by decide), (show 1 + (1 + 0) ≤ 8 by decide), (by
    show (match (h[(158 : Nat)]? : Option mC) with
      | some (some (.inr (ci, _))) => (ci == 0)
      | _ => false) = true
    rw [hc]
    rfl)⟩
  obtain ⟨rc, m', h1, h2, h3⟩ := fCall (mP'_ok hC 4 _ rfl) rfl rfl hm hx
  refine ⟨d', n, rc, h1, fun x g f e hf => ?_, fun a g e => ?_, fun a g e => ?_⟩
  · have hx := h2 _ _ e
    have hx := fR hC 1 (show eR 158 nDflt nC13 1 7 (lv_args 0 [.ref 158, .int a1, .ref 205]) [.int x, .int 0, .ref 205] g = some (8, (lv_args 0 [.ref 158, .int a1, .ref 205]), [.long x.toInt64, .int 0, .ref 205], g) from rfl) hx
    have hx := fE (mP'_ok hC 8 _ rfl) (eS_las (k0 := 158) (dflt := nDflt) (o := (0, 0, 0, .null)) (pc := 8) (lv := (lv_args 0 [.ref 158, .int a1, .ref 205])) (r := []) (y := x.toInt64) (by decide) hf) hx
    have hx := fR hC 2 (show eR 158 nDflt nC13 2 9 (lv_args 0 [.ref 158, .int a1, .ref 205]) [] (g.set 205 (some (.inl (1, 1, .inr (.inl (vp_updL f 0 x.toInt64)))))) = some (19, (lv_args 0 [.ref 158, .int a1, .ref 205]), [.int 0], g.set 205 (some (.inl (1, 1, .inr (.inl (vp_updL f 0 x.toInt64)))))) from rfl) hx
    exact fRet (mP'_ok hC 19 _ rfl) rfl hx
  · have hx := h3 _ _ _ 12 e rfl
    have hx := fR hC 2 (show eR 158 nDflt nC13 2 12 (lv_args 0 [.ref 158, .int a1, .ref 205]) [.ref a] g = some (14, (3, .ref a) :: (lv_args 0 [.ref 158, .int a1, .ref 205]), [.int 1], g) from rfl) hx
    exact fRet (mP'_ok hC 14 _ rfl) rfl hx
  · have hx := h3 _ _ _ 15 e rfl
    have hx := fR hC 2 (show eR 158 nDflt nC13 2 15 (lv_args 0 [.ref 158, .int a1, .ref 205]) [.ref a] g = some (17, (3, .ref a) :: (lv_args 0 [.ref 158, .int a1, .ref 205]), [.int 2], g) from rfl) hx
    exact fRet (mP'_ok hC 17 _ rfl) rfl hx
theorem inv17 {d n : Nat} {r : mO × mH} {h : mH} {gs : List Value} {a1 a2 : Int32} (hc : h[158]? = some (some (.inr (0, gs)))) (hx : zEv v5 d n 17 [.ref 158, .int a1, .int a2, .ref 205] h = some r) : ∃ d' n' rc, zEv v5 d' n' 47 [.ref 158, .int a1, .int a2] h = some rc ∧ (∀ x h1 f, rc = (.inl (some (.int x)), h1) → h1[205]? = some (some (.inl (1, 1, .inr (.inl f)))) → r = (.inl (some (.int 0)), h1.set 205 (some (.inl (1, 1, .inr (.inl (vp_updL f 0 x.toInt64))))))) ∧ (∀ a h1, rc = (.inr (2, a), h1) → r = (.inl (some (.int 1)), h1)) ∧ (∀ a h1, rc = (.inr (0, a), h1) → r = (.inl (some (.int 2)), h1)) := by
  have hC : nCodw v5 17 = nC17 := rfl
  obtain ⟨d', hx⟩ := zGo hx
  have hx := fR hC 5 (show eR 158 nDflt nC17 5 0 (lv_args 0 [.ref 158, .int a1, .int a2, .ref 205]) [] h = some (5, (lv_args 0 [.ref 158, .int a1, .int a2, .ref 205]), [.int a2, .int a1, .ref 158, .int 0, .ref 205], h) from rfl) hx
  have hm : mCl (.invokevirtual 35, 47, 3, 0, .retAddr 0) [.int a2, .int a1, .ref 158, .int 0, .ref 205] h = some (47, [.ref 158, .int a1, .int a2], [.int 0, .ref 205]) := if_pos ⟨rfl, rfl, (show 3 ≤ 5 by decide), (show 1 + (1 + 0) ≤ 8 by decide), (by
    show (match (h[(158 : Nat)]? : Option mC) with
      | some (some (.inr (ci, _))) => (ci == 0)
      | _ => false) = true
    rw [hc]
    rfl)⟩
  obtain ⟨rc, m', h1, h2, h3⟩ := fCall (mP'_ok hC 5 _ rfl) rfl rfl hm hx
  refine ⟨d', n, rc, h1, fun x g f e hf => ?_, fun a g e => ?_, fun a g e => ?_⟩
  · have hx := h2 _ _ e
    have hx := fR hC 1 (show eR 158 nDflt nC17 1 8 (lv_args 0 [.ref 158, .int a1, .int a2, .ref 205]) [.int x, .int 0, .ref 205] g = some (9, (lv_args 0 [.ref 158, .int a1, .int a2, .ref 205]), [.long x.toInt64, .int 0, .ref 205], g) from rfl) hx
    have hx := fE (mP'_ok hC 9 _ rfl) (eS_las (k0 := 158) (dflt := nDflt) (o := (0, 0, 0, .null)) (pc := 9) (lv := (lv_args 0 [.ref 158, .int a1, .int a2, .ref 205])) (r := []) (y := x.toInt64) (by decide) hf) hx
    have hx := fR hC 2 (show eR 158 nDflt nC17 2 10 (lv_args 0 [.ref 158, .int a1, .int a2, .ref 205]) [] (g.set 205 (some (.inl (1, 1, .inr (.inl (vp_updL f 0 x.toInt64)))))) = some (22, (lv_args 0 [.ref 158, .int a1, .int a2, .ref 205]), [.int 0], g.set 205 (some (.inl (1, 1, .inr (.inl (vp_updL f 0 x.toInt64)))))) from rfl) hx
    exact fRet (mP'_ok hC 22 _ rfl) rfl hx
  · have hx := h3 _ _ _ 13 e rfl
    have hx := fR hC 2 (show eR 158 nDflt nC17 2 13 (lv_args 0 [.ref 158, .int a1, .int a2, .ref 205]) [.ref a] g = some (16, (4, .ref a) :: (lv_args 0 [.ref 158, .int a1, .int a2, .ref 205]), [.int 1], g) from rfl) hx
    exact fRet (mP'_ok hC 16 _ rfl) rfl hx
  · have hx := h3 _ _ _ 17 e rfl
    have hx := fR hC 2 (show eR 158 nDflt nC17 2 17 (lv_args 0 [.ref 158, .int a1, .int a2, .ref 205]) [.ref a] g = some (20, (4, .ref a) :: (lv_args 0 [.ref 158, .int a1, .int a2, .ref 205]), [.int 2], g) from rfl) hx
    exact fRet (mP'_ok hC 20 _ rfl) rfl hx
theorem inv19 {d n : Nat} {r : mO × mH} {h : mH} {gs : List Value} {a1 : Int32} (hc : h[158]? = some (some (.inr (0, gs)))) (hx : zEv v5 d n 19 [.ref 158, .int a1, .ref 205] h = some r) : ∃ d' n' rc, zEv v5 d' n' 48 [.ref 158, .int a1] h = some rc ∧ (∀ x h1 f, rc = (.inl (some (.int x)), h1) → h1[205]? = some (some (.inl (1, 1, .inr (.inl f)))) → r = (.inl (some (.int 0)), h1.set 205 (some (.inl (1, 1, .inr (.inl (vp_updL f 0 x.toInt64))))))) ∧ (∀ a h1, rc = (.inr (2, a), h1) → r = (.inl (some (.int 1)), h1)) := by
  have hC : nCodw v5 19 = nC19 := rfl
  obtain ⟨d', hx⟩ := zGo hx
  have hx := fR hC 4 (show eR 158 nDflt nC19 4 0 (lv_args 0 [.ref 158, .int a1, .ref 205]) [] h = some (4, (lv_args 0 [.ref 158, .int a1, .ref 205]), [.int a1, .ref 158, .int 0, .ref 205], h) from rfl) hx
  have hm : mCl (.invokevirtual 41, 48, 2, 0, .retAddr 0) [.int a1, .ref 158, .int 0, .ref 205] h = some (48, [.ref 158, .int a1], [.int 0, .ref 205]) := if_pos ⟨rfl, rfl, (show 2 ≤ 4 by decide), (show 1 + (1 + 0) ≤ 8 by decide), (by
    show (match (h[(158 : Nat)]? : Option mC) with
      | some (some (.inr (ci, _))) => (ci == 0)
      | _ => false) = true
    rw [hc]
    rfl)⟩
  obtain ⟨rc, m', h1, h2, h3⟩ := fCall (mP'_ok hC 4 _ rfl) rfl rfl hm hx
  refine ⟨d', n, rc, h1, fun x g f e hf => ?_, fun a g e => ?_⟩
  · have hx := h2 _ _ e
    have hx := fR hC 1 (show eR 158 nDflt nC19 1 7 (lv_args 0 [.ref 158, .int a1, .ref 205]) [.int x, .int 0, .ref 205] g = some (8, (lv_args 0 [.ref 158, .int a1, .ref 205]), [.long x.toInt64, .int 0, .ref 205], g) from rfl) hx
    have hx := fE (mP'_ok hC 8 _ rfl) (eS_las (k0 := 158) (dflt := nDflt) (o := (0, 0, 0, .null)) (pc := 8) (lv := (lv_args 0 [.ref 158, .int a1, .ref 205])) (r := []) (y := x.toInt64) (by decide) hf) hx
    have hx := fR hC 2 (show eR 158 nDflt nC19 2 9 (lv_args 0 [.ref 158, .int a1, .ref 205]) [] (g.set 205 (some (.inl (1, 1, .inr (.inl (vp_updL f 0 x.toInt64)))))) = some (16, (lv_args 0 [.ref 158, .int a1, .ref 205]), [.int 0], g.set 205 (some (.inl (1, 1, .inr (.inl (vp_updL f 0 x.toInt64)))))) from rfl) hx
    exact fRet (mP'_ok hC 16 _ rfl) rfl hx
  · have hx := h3 _ _ _ 12 e rfl
    have hx := fR hC 2 (show eR 158 nDflt nC19 2 12 (lv_args 0 [.ref 158, .int a1, .ref 205]) [.ref a] g = some (14, (3, .ref a) :: (lv_args 0 [.ref 158, .int a1, .ref 205]), [.int 1], g) from rfl) hx
    exact fRet (mP'_ok hC 14 _ rfl) rfl hx
theorem inv21 {d n : Nat} {r : mO × mH} {h : mH} {gs : List Value} {a1 : Int32} (hc : h[158]? = some (some (.inr (0, gs)))) (hx : zEv v5 d n 21 [.ref 158, .int a1, .ref 205] h = some r) : ∃ d' n' rc, zEv v5 d' n' 49 [.ref 158, .int a1] h = some rc ∧ (∀ x h1 f, rc = (.inl (some (.int x)), h1) → h1[205]? = some (some (.inl (1, 1, .inr (.inl f)))) → r = (.inl (some (.int 0)), h1.set 205 (some (.inl (1, 1, .inr (.inl (vp_updL f 0 x.toInt64))))))) ∧ (∀ a h1, rc = (.inr (2, a), h1) → r = (.inl (some (.int 1)), h1)) := by
  have hC : nCodw v5 21 = nC21 := rfl
  obtain ⟨d', hx⟩ := zGo hx
  have hx := fR hC 4 (show eR 158 nDflt nC21 4 0 (lv_args 0 [.ref 158, .int a1, .ref 205]) [] h = some (4, (lv_args 0 [.ref 158, .int a1, .ref 205]), [.int a1, .ref 158, .int 0, .ref 205], h) from rfl) hx
  have hm : mCl (.invokevirtual 44, 49, 2, 0, .retAddr 0) [.int a1, .ref 158, .int 0, .ref 205] h = some (49, [.ref 158, .int a1], [.int 0, .ref 205]) := if_pos ⟨rfl, rfl, (show 2 ≤ 4 by decide), (show 1 + (1 + 0) ≤ 8 by decide), (by
    show (match (h[(158 : Nat)]? : Option mC) with
      | some (some (.inr (ci, _))) => (ci == 0)
      | _ => false) = true
    rw [hc]
    rfl)⟩
  obtain ⟨rc, m', h1, h2, h3⟩ := fCall (mP'_ok hC 4 _ rfl) rfl rfl hm hx
  refine ⟨d', n, rc, h1, fun x g f e hf => ?_, fun a g e => ?_⟩
  · have hx := h2 _ _ e
    have hx := fR hC 1 (show eR 158 nDflt nC21 1 7 (lv_args 0 [.ref 158, .int a1, .ref 205]) [.int x, .int 0, .ref 205] g = some (8, (lv_args 0 [.ref 158, .int a1, .ref 205]), [.long x.toInt64, .int 0, .ref 205], g) from rfl) hx
    have hx := fE (mP'_ok hC 8 _ rfl) (eS_las (k0 := 158) (dflt := nDflt) (o := (0, 0, 0, .null)) (pc := 8) (lv := (lv_args 0 [.ref 158, .int a1, .ref 205])) (r := []) (y := x.toInt64) (by decide) hf) hx
    have hx := fR hC 2 (show eR 158 nDflt nC21 2 9 (lv_args 0 [.ref 158, .int a1, .ref 205]) [] (g.set 205 (some (.inl (1, 1, .inr (.inl (vp_updL f 0 x.toInt64)))))) = some (16, (lv_args 0 [.ref 158, .int a1, .ref 205]), [.int 0], g.set 205 (some (.inl (1, 1, .inr (.inl (vp_updL f 0 x.toInt64)))))) from rfl) hx
    exact fRet (mP'_ok hC 16 _ rfl) rfl hx
  · have hx := h3 _ _ _ 12 e rfl
    have hx := fR hC 2 (show eR 158 nDflt nC21 2 12 (lv_args 0 [.ref 158, .int a1, .ref 205]) [.ref a] g = some (14, (3, .ref a) :: (lv_args 0 [.ref 158, .int a1, .ref 205]), [.int 1], g) from rfl) hx
    exact fRet (mP'_ok hC 14 _ rfl) rfl hx
theorem inv23 {d n : Nat} {r : mO × mH} {h : mH} {gs : List Value} {a1 a2 a3 a4 : Int32} (hc : h[158]? = some (some (.inr (0, gs)))) (hx : zEv v5 d n 23 [.ref 158, .int a1, .int a2, .int a3, .int a4, .ref 205] h = some r) : ∃ d' n' rc, zEv v5 d' n' 50 [.ref 158, .int a1, .int a2, .int a3, .int a4] h = some rc ∧ (∀ x h1 f, rc = (.inl (some (.int x)), h1) → h1[205]? = some (some (.inl (1, 1, .inr (.inl f)))) → r = (.inl (some (.int 0)), h1.set 205 (some (.inl (1, 1, .inr (.inl (vp_updL f 0 x.toInt64))))))) ∧ (∀ a h1, rc = (.inr (0, a), h1) → r = (.inl (some (.int 1)), h1)) ∧ (∀ a h1, rc = (.inr (1, a), h1) → r = (.inl (some (.int 2)), h1)) := by
  have hC : nCodw v5 23 = nC23 := rfl
  obtain ⟨d', hx⟩ := zGo hx
  have hx := fR hC 7 (show eR 158 nDflt nC23 7 0 (lv_args 0 [.ref 158, .int a1, .int a2, .int a3, .int a4, .ref 205]) [] h = some (9, (lv_args 0 [.ref 158, .int a1, .int a2, .int a3, .int a4, .ref 205]), [.int a4, .int a3, .int a2, .int a1, .ref 158, .int 0, .ref 205], h) from rfl) hx
  have hm : mCl (.invokevirtual 47, 50, 5, 0, .retAddr 0) [.int a4, .int a3, .int a2, .int a1, .ref 158, .int 0, .ref 205] h = some (50, [.ref 158, .int a1, .int a2, .int a3, .int a4], [.int 0, .ref 205]) := if_pos ⟨rfl, rfl, (show 5 ≤ 7 by decide), (show 1 + (1 + 0) ≤ 8 by decide), (by
    show (match (h[(158 : Nat)]? : Option mC) with
      | some (some (.inr (ci, _))) => (ci == 0)
      | _ => false) = true
    rw [hc]
    rfl)⟩
  obtain ⟨rc, m', h1, h2, h3⟩ := fCall (mP'_ok hC 9 _ rfl) rfl rfl hm hx
  refine ⟨d', n, rc, h1, fun x g f e hf => ?_, fun a g e => ?_, fun a g e => ?_⟩
  · have hx := h2 _ _ e
    have hx := fR hC 1 (show eR 158 nDflt nC23 1 12 (lv_args 0 [.ref 158, .int a1, .int a2, .int a3, .int a4, .ref 205]) [.int x, .int 0, .ref 205] g = some (13, (lv_args 0 [.ref 158, .int a1, .int a2, .int a3, .int a4, .ref 205]), [.long x.toInt64, .int 0, .ref 205], g) from rfl) hx
    have hx := fE (mP'_ok hC 13 _ rfl) (eS_las (k0 := 158) (dflt := nDflt) (o := (0, 0, 0, .null)) (pc := 13) (lv := (lv_args 0 [.ref 158, .int a1, .int a2, .int a3, .int a4, .ref 205])) (r := []) (y := x.toInt64) (by decide) hf) hx
    have hx := fR hC 2 (show eR 158 nDflt nC23 2 14 (lv_args 0 [.ref 158, .int a1, .int a2, .int a3, .int a4, .ref 205]) [] (g.set 205 (some (.inl (1, 1, .inr (.inl (vp_updL f 0 x.toInt64)))))) = some (26, (lv_args 0 [.ref 158, .int a1, .int a2, .int a3, .int a4, .ref 205]), [.int 0], g.set 205 (some (.inl (1, 1, .inr (.inl (vp_updL f 0 x.toInt64)))))) from rfl) hx
    exact fRet (mP'_ok hC 26 _ rfl) rfl hx
  · have hx := h3 _ _ _ 17 e rfl
    have hx := fR hC 2 (show eR 158 nDflt nC23 2 17 (lv_args 0 [.ref 158, .int a1, .int a2, .int a3, .int a4, .ref 205]) [.ref a] g = some (20, (6, .ref a) :: (lv_args 0 [.ref 158, .int a1, .int a2, .int a3, .int a4, .ref 205]), [.int 1], g) from rfl) hx
    exact fRet (mP'_ok hC 20 _ rfl) rfl hx
  · have hx := h3 _ _ _ 21 e rfl
    have hx := fR hC 2 (show eR 158 nDflt nC23 2 21 (lv_args 0 [.ref 158, .int a1, .int a2, .int a3, .int a4, .ref 205]) [.ref a] g = some (24, (6, .ref a) :: (lv_args 0 [.ref 158, .int a1, .int a2, .int a3, .int a4, .ref 205]), [.int 2], g) from rfl) hx
    exact fRet (mP'_ok hC 24 _ rfl) rfl hx
theorem inv25 {d n : Nat} {r : mO × mH} {h : mH} {gs : List Value} {a1 a2 : Int32} (hc : h[158]? = some (some (.inr (0, gs)))) (hx : zEv v5 d n 25 [.ref 158, .int a1, .int a2, .ref 205] h = some r) : ∃ d' n' rc, zEv v5 d' n' 51 [.ref 158, .int a1, .int a2] h = some rc ∧ (∀ x h1 f, rc = (.inl (some (.int x)), h1) → h1[205]? = some (some (.inl (1, 1, .inr (.inl f)))) → r = (.inl (some (.int 0)), h1.set 205 (some (.inl (1, 1, .inr (.inl (vp_updL f 0 x.toInt64))))))) ∧ (∀ a h1, rc = (.inr (2, a), h1) → r = (.inl (some (.int 1)), h1)) := by
  have hC : nCodw v5 25 = nC25 := rfl
  obtain ⟨d', hx⟩ := zGo hx
  have hx := fR hC 5 (show eR 158 nDflt nC25 5 0 (lv_args 0 [.ref 158, .int a1, .int a2, .ref 205]) [] h = some (5, (lv_args 0 [.ref 158, .int a1, .int a2, .ref 205]), [.int a2, .int a1, .ref 158, .int 0, .ref 205], h) from rfl) hx
  have hm : mCl (.invokevirtual 51, 51, 3, 0, .retAddr 0) [.int a2, .int a1, .ref 158, .int 0, .ref 205] h = some (51, [.ref 158, .int a1, .int a2], [.int 0, .ref 205]) := if_pos ⟨rfl, rfl, (show 3 ≤ 5 by decide), (show 1 + (1 + 0) ≤ 8 by decide), (by
    show (match (h[(158 : Nat)]? : Option mC) with
      | some (some (.inr (ci, _))) => (ci == 0)
      | _ => false) = true
    rw [hc]
    rfl)⟩
  obtain ⟨rc, m', h1, h2, h3⟩ := fCall (mP'_ok hC 5 _ rfl) rfl rfl hm hx
  refine ⟨d', n, rc, h1, fun x g f e hf => ?_, fun a g e => ?_⟩
  · have hx := h2 _ _ e
    have hx := fR hC 1 (show eR 158 nDflt nC25 1 8 (lv_args 0 [.ref 158, .int a1, .int a2, .ref 205]) [.int x, .int 0, .ref 205] g = some (9, (lv_args 0 [.ref 158, .int a1, .int a2, .ref 205]), [.long x.toInt64, .int 0, .ref 205], g) from rfl) hx
    have hx := fE (mP'_ok hC 9 _ rfl) (eS_las (k0 := 158) (dflt := nDflt) (o := (0, 0, 0, .null)) (pc := 9) (lv := (lv_args 0 [.ref 158, .int a1, .int a2, .ref 205])) (r := []) (y := x.toInt64) (by decide) hf) hx
    have hx := fR hC 2 (show eR 158 nDflt nC25 2 10 (lv_args 0 [.ref 158, .int a1, .int a2, .ref 205]) [] (g.set 205 (some (.inl (1, 1, .inr (.inl (vp_updL f 0 x.toInt64)))))) = some (18, (lv_args 0 [.ref 158, .int a1, .int a2, .ref 205]), [.int 0], g.set 205 (some (.inl (1, 1, .inr (.inl (vp_updL f 0 x.toInt64)))))) from rfl) hx
    exact fRet (mP'_ok hC 18 _ rfl) rfl hx
  · have hx := h3 _ _ _ 13 e rfl
    have hx := fR hC 2 (show eR 158 nDflt nC25 2 13 (lv_args 0 [.ref 158, .int a1, .int a2, .ref 205]) [.ref a] g = some (16, (4, .ref a) :: (lv_args 0 [.ref 158, .int a1, .int a2, .ref 205]), [.int 1], g) from rfl) hx
    exact fRet (mP'_ok hC 16 _ rfl) rfl hx
theorem inv27 {d n : Nat} {r : mO × mH} {h : mH} {gs : List Value} {a1 a2 : Int32} (hc : h[158]? = some (some (.inr (0, gs)))) (hx : zEv v5 d n 27 [.ref 158, .int a1, .int a2, .ref 205] h = some r) : ∃ d' n' rc, zEv v5 d' n' 52 [.ref 158, .int a1, .int a2] h = some rc ∧ (∀ x h1 f, rc = (.inl (some (.int x)), h1) → h1[205]? = some (some (.inl (1, 1, .inr (.inl f)))) → r = (.inl (some (.int 0)), h1.set 205 (some (.inl (1, 1, .inr (.inl (vp_updL f 0 x.toInt64))))))) ∧ (∀ a h1, rc = (.inr (2, a), h1) → r = (.inl (some (.int 1)), h1)) := by
  have hC : nCodw v5 27 = nC27 := rfl
  obtain ⟨d', hx⟩ := zGo hx
  have hx := fR hC 5 (show eR 158 nDflt nC27 5 0 (lv_args 0 [.ref 158, .int a1, .int a2, .ref 205]) [] h = some (5, (lv_args 0 [.ref 158, .int a1, .int a2, .ref 205]), [.int a2, .int a1, .ref 158, .int 0, .ref 205], h) from rfl) hx
  have hm : mCl (.invokevirtual 54, 52, 3, 0, .retAddr 0) [.int a2, .int a1, .ref 158, .int 0, .ref 205] h = some (52, [.ref 158, .int a1, .int a2], [.int 0, .ref 205]) := if_pos ⟨rfl, rfl, (show 3 ≤ 5 by decide), (show 1 + (1 + 0) ≤ 8 by decide), (by
    show (match (h[(158 : Nat)]? : Option mC) with
      | some (some (.inr (ci, _))) => (ci == 0)
      | _ => false) = true
    rw [hc]
    rfl)⟩
  obtain ⟨rc, m', h1, h2, h3⟩ := fCall (mP'_ok hC 5 _ rfl) rfl rfl hm hx
  refine ⟨d', n, rc, h1, fun x g f e hf => ?_, fun a g e => ?_⟩
  · have hx := h2 _ _ e
    have hx := fR hC 1 (show eR 158 nDflt nC27 1 8 (lv_args 0 [.ref 158, .int a1, .int a2, .ref 205]) [.int x, .int 0, .ref 205] g = some (9, (lv_args 0 [.ref 158, .int a1, .int a2, .ref 205]), [.long x.toInt64, .int 0, .ref 205], g) from rfl) hx
    have hx := fE (mP'_ok hC 9 _ rfl) (eS_las (k0 := 158) (dflt := nDflt) (o := (0, 0, 0, .null)) (pc := 9) (lv := (lv_args 0 [.ref 158, .int a1, .int a2, .ref 205])) (r := []) (y := x.toInt64) (by decide) hf) hx
    have hx := fR hC 2 (show eR 158 nDflt nC27 2 10 (lv_args 0 [.ref 158, .int a1, .int a2, .ref 205]) [] (g.set 205 (some (.inl (1, 1, .inr (.inl (vp_updL f 0 x.toInt64)))))) = some (18, (lv_args 0 [.ref 158, .int a1, .int a2, .ref 205]), [.int 0], g.set 205 (some (.inl (1, 1, .inr (.inl (vp_updL f 0 x.toInt64)))))) from rfl) hx
    exact fRet (mP'_ok hC 18 _ rfl) rfl hx
  · have hx := h3 _ _ _ 13 e rfl
    have hx := fR hC 2 (show eR 158 nDflt nC27 2 13 (lv_args 0 [.ref 158, .int a1, .int a2, .ref 205]) [.ref a] g = some (16, (4, .ref a) :: (lv_args 0 [.ref 158, .int a1, .int a2, .ref 205]), [.int 1], g) from rfl) hx
    exact fRet (mP'_ok hC 16 _ rfl) rfl hx
theorem inv29 {d n : Nat} {r : mO × mH} {h : mH} {gs : List Value} {a1 : Int32} (hc : h[158]? = some (some (.inr (0, gs)))) (hx : zEv v5 d n 29 [.ref 158, .int a1, .ref 205] h = some r) : ∃ d' n' rc, zEv v5 d' n' 53 [.ref 158, .int a1] h = some rc ∧ (∀ x h1 f, rc = (.inl (some (.int x)), h1) → h1[205]? = some (some (.inl (1, 1, .inr (.inl f)))) → r = (.inl (some (.int 0)), h1.set 205 (some (.inl (1, 1, .inr (.inl (vp_updL f 0 x.toInt64))))))) ∧ (∀ a h1, rc = (.inr (2, a), h1) → r = (.inl (some (.int 1)), h1)) := by
  have hC : nCodw v5 29 = nC29 := rfl
  obtain ⟨d', hx⟩ := zGo hx
  have hx := fR hC 4 (show eR 158 nDflt nC29 4 0 (lv_args 0 [.ref 158, .int a1, .ref 205]) [] h = some (4, (lv_args 0 [.ref 158, .int a1, .ref 205]), [.int a1, .ref 158, .int 0, .ref 205], h) from rfl) hx
  have hm : mCl (.invokevirtual 57, 53, 2, 0, .retAddr 0) [.int a1, .ref 158, .int 0, .ref 205] h = some (53, [.ref 158, .int a1], [.int 0, .ref 205]) := if_pos ⟨rfl, rfl, (show 2 ≤ 4 by decide), (show 1 + (1 + 0) ≤ 8 by decide), (by
    show (match (h[(158 : Nat)]? : Option mC) with
      | some (some (.inr (ci, _))) => (ci == 0)
      | _ => false) = true
    rw [hc]
    rfl)⟩
  obtain ⟨rc, m', h1, h2, h3⟩ := fCall (mP'_ok hC 4 _ rfl) rfl rfl hm hx
  refine ⟨d', n, rc, h1, fun x g f e hf => ?_, fun a g e => ?_⟩
  · have hx := h2 _ _ e
    have hx := fR hC 1 (show eR 158 nDflt nC29 1 7 (lv_args 0 [.ref 158, .int a1, .ref 205]) [.int x, .int 0, .ref 205] g = some (8, (lv_args 0 [.ref 158, .int a1, .ref 205]), [.long x.toInt64, .int 0, .ref 205], g) from rfl) hx
    have hx := fE (mP'_ok hC 8 _ rfl) (eS_las (k0 := 158) (dflt := nDflt) (o := (0, 0, 0, .null)) (pc := 8) (lv := (lv_args 0 [.ref 158, .int a1, .ref 205])) (r := []) (y := x.toInt64) (by decide) hf) hx
    have hx := fR hC 2 (show eR 158 nDflt nC29 2 9 (lv_args 0 [.ref 158, .int a1, .ref 205]) [] (g.set 205 (some (.inl (1, 1, .inr (.inl (vp_updL f 0 x.toInt64)))))) = some (16, (lv_args 0 [.ref 158, .int a1, .ref 205]), [.int 0], g.set 205 (some (.inl (1, 1, .inr (.inl (vp_updL f 0 x.toInt64)))))) from rfl) hx
    exact fRet (mP'_ok hC 16 _ rfl) rfl hx
  · have hx := h3 _ _ _ 12 e rfl
    have hx := fR hC 2 (show eR 158 nDflt nC29 2 12 (lv_args 0 [.ref 158, .int a1, .ref 205]) [.ref a] g = some (14, (3, .ref a) :: (lv_args 0 [.ref 158, .int a1, .ref 205]), [.int 1], g) from rfl) hx
    exact fRet (mP'_ok hC 14 _ rfl) rfl hx
theorem inv15 {d n : Nat} {r : mO × mH} {h : mH} {gs : List Value} {a1 : Int32} (hc : h[158]? = some (some (.inr (0, gs)))) (hx : zEv v5 d n 15 [.ref 158, .int a1, .ref 205] h = some r) : ∃ d' n' rc, zEv v5 d' n' 45 [.ref 158, .int a1] h = some rc ∧ (∀ x h1 f, rc = (.inl (some (.int x)), h1) → h1[205]? = some (some (.inl (1, 1, .inr (.inl f)))) → r = (.inl (some (.int 0)), h1.set 205 (some (.inl (1, 1, .inr (.inl (vp_updL f 0 (if x = 0 then 0 else 1)))))))) ∧ (∀ a h1, rc = (.inr (0, a), h1) → r = (.inl (some (.int 1)), h1)) := by
  have hC : nCodw v5 15 = nC15 := rfl
  obtain ⟨d', hx⟩ := zGo hx
  have hx := fR hC 4 (show eR 158 nDflt nC15 4 0 (lv_args 0 [.ref 158, .int a1, .ref 205]) [] h = some (4, (lv_args 0 [.ref 158, .int a1, .ref 205]), [.int a1, .ref 158, .int 0, .ref 205], h) from rfl) hx
  have hm : mCl (.invokevirtual 31, 45, 2, 0, .retAddr 0) [.int a1, .ref 158, .int 0, .ref 205] h = some (45, [.ref 158, .int a1], [.int 0, .ref 205]) := if_pos ⟨rfl, rfl, (show 2 ≤ 4 by decide), (show 1 + (1 + 0) ≤ 8 by decide), (by
    show (match (h[(158 : Nat)]? : Option mC) with
      | some (some (.inr (ci, _))) => (ci == 0)
      | _ => false) = true
    rw [hc]
    rfl)⟩
  obtain ⟨rc, m', h1, h2, h3⟩ := fCall (mP'_ok hC 4 _ rfl) rfl rfl hm hx
  refine ⟨d', n, rc, h1, fun x g f e hf => ?_, fun a g e => ?_⟩
  · have hx := h2 _ _ e
    have fin : ∀ (m2 : Nat) (y : Int64), zF v5 d' n 15 m2 15 (lv_args 0 [.ref 158, .int a1, .ref 205]) [.long y, .int 0, .ref 205] g = some r → r = (.inl (some (.int 0)), g.set 205 (some (.inl (1, 1, .inr (.inl (vp_updL f 0 y)))))) := by
      intro m2 y hx
      have hx := fE (mP'_ok hC 15 _ rfl) (eS_las (k0 := 158) (dflt := nDflt) (o := (0, 0, 0, .null)) (pc := 15) (lv := (lv_args 0 [.ref 158, .int a1, .ref 205])) (r := []) (y := y) (by decide) hf) hx
      have hx := fR hC 2 (show eR 158 nDflt nC15 2 16 (lv_args 0 [.ref 158, .int a1, .ref 205]) [] (g.set 205 (some (.inl (1, 1, .inr (.inl (vp_updL f 0 y)))))) = some (23, (lv_args 0 [.ref 158, .int a1, .ref 205]), [.int 0], g.set 205 (some (.inl (1, 1, .inr (.inl (vp_updL f 0 y)))))) from rfl) hx
      exact fRet (mP'_ok hC 23 _ rfl) rfl hx
    by_cases q : x = 0
    · rw [if_pos q]
      have hb : mCnd .eq x 0 = true := by rw [q]; rfl
      have hx := fCd (pc' := 14) (mP'_ok hC 7 _ rfl) hb rfl hx
      have hx := fR hC 1 (show eR 158 nDflt nC15 1 14 (lv_args 0 [.ref 158, .int a1, .ref 205]) [.int 0, .ref 205] g = some (15, (lv_args 0 [.ref 158, .int a1, .ref 205]), [.long 0, .int 0, .ref 205], g) from rfl) hx
      exact fin _ _ hx
    · rw [if_neg q]
      have hb : mCnd .eq x 0 = false := decide_eq_false q
      have hx := fCd (pc' := 10) (mP'_ok hC 7 _ rfl) hb rfl hx
      have hx := fR hC 2 (show eR 158 nDflt nC15 2 10 (lv_args 0 [.ref 158, .int a1, .ref 205]) [.int 0, .ref 205] g = some (15, (lv_args 0 [.ref 158, .int a1, .ref 205]), [.long 1, .int 0, .ref 205], g) from rfl) hx
      exact fin _ _ hx
  · have hx := h3 _ _ _ 19 e rfl
    have hx := fR hC 2 (show eR 158 nDflt nC15 2 19 (lv_args 0 [.ref 158, .int a1, .ref 205]) [.ref a] g = some (21, (3, .ref a) :: (lv_args 0 [.ref 158, .int a1, .ref 205]), [.int 1], g) from rfl) hx
    exact fRet (mP'_ok hC 21 _ rfl) rfl hx
end WR
