/-! THE LAW'S WRAPPERS turned round: assemble (7), write (3) -/
section WP
variable {v5 : Value} {d n mi : Nat} {r : mO × mH}
abbrev zEv (v5 : Value) (d n mi : Nat) (as : List Value) (h : mH) : Option (mO × mH) := evM 158 nDflt (mP' (nCodw v5)) nHn nMxx' d n mi as h
theorem fR {C : List (Option mI)} (hC : nCodw v5 mi = C) (j : Nat) {m pc : Nat} {lv : mL} {st : List Value} {h : mH} {q : Nat × mL × List Value × mH} (hr : eR 158 nDflt C j pc lv st h = some q) (hx : zF v5 d n mi m pc lv st h = some r) : zF v5 d n mi m q.1 q.2.1 q.2.2.1 q.2.2.2 = some r := by
  have h1 : zF v5 d n mi (m + j) pc lv st h = some r := evF_up (fun _ _ _ _ k => k) m (m + j) (by omega) hx
  exact (evF_r (k0 := 158) (dflt := nDflt) (P := mP' (nCodw v5)) (Hn := nHn) (dp := d + 1) (call := evM 158 nDflt (mP' (nCodw v5)) nHn nMxx' d n) (mP'_ok hC) j m hr).symm.trans h1
theorem fE {e : mI} {m pc : Nat} {lv : mL} {st : List Value} {h : mH} {q : Nat × mL × List Value × mH} (hp : mP' (nCodw v5) mi pc = some e) (hs : eS 158 nDflt e pc lv st h = some q) (hx : zF v5 d n mi m pc lv st h = some r) : zF v5 d n mi m q.1 q.2.1 q.2.2.1 q.2.2.2 = some r := by
  have h1 : zF v5 d n mi (m + 1) pc lv st h = some r := evF_up (fun _ _ _ _ k => k) m (m + 1) (by omega) hx
  exact (evF_e (k0 := 158) (dflt := nDflt) (P := mP' (nCodw v5)) (Hn := nHn) (dp := d + 1) (call := evM 158 nDflt (mP' (nCodw v5)) nHn nMxx' d n) hp hs).symm.trans h1
theorem fRet {m pc : Nat} {lv : mL} {st : List Value} {e : mI} {v : Option Value} {h : mH} (hp : mP' (nCodw v5) mi pc = some e) (hr : mRt e.1 e.2.1 st = some v) (hx : zF v5 d n mi m pc lv st h = some r) : r = (.inl v, h) := by
  cases m with
  | zero => cases hx
  | succ m =>
    unfold zF at hx
    unfold evF at hx
    rw [hp] at hx
    dsimp only at hx
    rw [hr] at hx
    cases hx
    rfl
/-- a call: what it gave, and how it goes on -/
theorem fCall {e : mI} {m pc ce : Nat} {lv : mL} {st as rest : List Value} {h : mH} (hp : mP' (nCodw v5) mi pc = some e) (h1 : mRt e.1 e.2.1 st = none) (h2 : mTh e = none) (h3 : mCl e st h = some (ce, as, rest)) (hx : zF v5 d n mi m pc lv st h = some r) : ∃ rc m', zEv v5 d n ce as h = some rc ∧ (∀ v h', rc = (.inl v, h') → zF v5 d n mi m' (pc + 3) lv (v.toList ++ rest) h' = some r) ∧ (∀ x a h' hp', rc = (.inr (x, a), h') → mHd (nHn mi) pc x = some hp' → zF v5 d n mi m' hp' lv [.ref a] h' = some r) := by
  cases m with
  | zero => cases hx
  | succ m =>
    unfold zF at hx
    unfold evF at hx
    rw [hp] at hx
    dsimp only at hx
    rw [h1] at hx
    dsimp only at hx
    rw [h2] at hx
    dsimp only at hx
    rw [h3] at hx
    dsimp only at hx
    cases hc : evM 158 nDflt (mP' (nCodw v5)) nHn nMxx' d n ce as h with
    | none => rw [hc] at hx; cases hx
    | some rc =>
      rw [hc] at hx
      refine ⟨rc, m, hc, fun v h' e => ?_, fun x a h' hp' e eh => ?_⟩
      · subst e
        exact hx
      · subst e
        dsimp only at hx
        rw [eh] at hx
        exact hx
theorem inv7 {h : mH} {gs : List Value} (hc : h[158]? = some (some (.inr (0, gs)))) (hx : zEv v5 d n 7 [.ref 158, .ref 205] h = some r) : ∃ d' n' r38, zEv v5 d' n' 38 [.ref 158] h = some r38 ∧ (∀ x h1 f, r38 = (.inl (some (.int x)), h1) → h1[205]? = some (some (.inl (1, 1, .inr (.inl f)))) → r = (.inl (some (.int 0)), h1.set 205 (some (.inl (1, 1, .inr (.inl (vp_updL f 0 x.toInt64))))))) ∧ (∀ a h1, r38 = (.inr (0, a), h1) → r = (.inl (some (.int 1)), h1)) := by
  have hC : nCodw v5 7 = nC7 := rfl
  obtain ⟨d', hx⟩ := zGo hx
  have hx := fR hC 3 (show eR 158 nDflt nC7 3 0 (lv_args 0 [.ref 158, .ref 205]) [] h = some (3, lv_args 0 [.ref 158, .ref 205], [.ref 158, .int 0, .ref 205], h) from rfl) hx
  have hm : mCl (.invokevirtual 17, 38, 1, 0, .retAddr 0) [.ref 158, .int 0, .ref 205] h = some (38, [.ref 158], [.int 0, .ref 205]) := if_pos ⟨rfl, rfl, (show 1 ≤ 3 by decide), (by decide), (by
    show (match (h[(158 : Nat)]? : Option mC) with
      | some (some (.inr (ci, _))) => (ci == 0)
      | _ => false) = true
    rw [hc]
    rfl)⟩
  obtain ⟨rc, m', h1, h2, h3⟩ := fCall (mP'_ok hC 3 _ rfl) rfl rfl hm hx
  refine ⟨d', n, rc, h1, fun x g f e hf => ?_, fun a g e => ?_⟩
  · have hx := h2 _ _ e
    have hx := fR hC 1 (show eR 158 nDflt nC7 1 6 (lv_args 0 [.ref 158, .ref 205]) [.int x, .int 0, .ref 205] g = some (7, lv_args 0 [.ref 158, .ref 205], [.long x.toInt64, .int 0, .ref 205], g) from rfl) hx
    have hx := fE (mP'_ok hC 7 _ rfl) (eS_las (k0 := 158) (dflt := nDflt) (o := (0, 0, 0, .null)) (pc := 7) (lv := lv_args 0 [.ref 158, .ref 205]) (r := []) (y := x.toInt64) (by decide) hf) hx
    have hx := fR hC 2 (show eR 158 nDflt nC7 2 8 (lv_args 0 [.ref 158, .ref 205]) [] (g.set 205 (some (.inl (1, 1, .inr (.inl (vp_updL f 0 x.toInt64)))))) = some (15, lv_args 0 [.ref 158, .ref 205], [.int 0], g.set 205 (some (.inl (1, 1, .inr (.inl (vp_updL f 0 x.toInt64)))))) from rfl) hx
    exact fRet (mP'_ok hC 15 _ rfl) rfl hx
  · have hx := h3 _ _ _ 11 e rfl
    have hx := fR hC 2 (show eR 158 nDflt nC7 2 11 (lv_args 0 [.ref 158, .ref 205]) [.ref a] g = some (13, (2, .ref a) :: lv_args 0 [.ref 158, .ref 205], [.int 1], g) from rfl) hx
    exact fRet (mP'_ok hC 13 _ rfl) rfl hx
theorem inv3 {h : mH} {gs : List Value} {E : Int64} {nn : Int32} (hc : h[158]? = some (some (.inr (0, gs)))) (hx : zEv v5 d n 3 [.ref 158, .long E, .int nn, .ref 205] h = some r) : ∃ d' n' r35, zEv v5 d' n' 35 [.ref 158, .long E, .int nn] h = some r35 ∧ (∀ x h1 f, r35 = (.inl (some (.int x)), h1) → h1[205]? = some (some (.inl (1, 1, .inr (.inl f)))) → r = (.inl (some (.int 0)), h1.set 205 (some (.inl (1, 1, .inr (.inl (vp_updL f 0 x.toInt64))))))) ∧ (∀ a h1, r35 = (.inr (0, a), h1) → r = (.inl (some (.int 1)), h1)) ∧ (∀ a h1, r35 = (.inr (1, a), h1) → r = (.inl (some (.int 2)), h1)) := by
  have hC : nCodw v5 3 = nC3 := rfl
  obtain ⟨d', hx⟩ := zGo hx
  have hx := fR hC 5 (show eR 158 nDflt nC3 5 0 (lv_args 0 [.ref 158, .long E, .int nn, .ref 205]) [] h = some (6, lv_args 0 [.ref 158, .long E, .int nn, .ref 205], [.int nn, .long E, .ref 158, .int 0, .ref 205], h) from rfl) hx
  have hm : mCl (.invokevirtual 7, 35, 3, 0, .retAddr 0) [.int nn, .long E, .ref 158, .int 0, .ref 205] h = some (35, [.ref 158, .long E, .int nn], [.int 0, .ref 205]) := if_pos ⟨rfl, rfl, (show 3 ≤ 5 by decide), (show 1 + (1 + 0) ≤ 8 by decide), (by
    show (match (h[(158 : Nat)]? : Option mC) with
      | some (some (.inr (ci, _))) => (ci == 0)
      | _ => false) = true
    rw [hc]
    rfl)⟩
  obtain ⟨rc, m', h1, h2, h3⟩ := fCall (mP'_ok hC 6 _ rfl) rfl rfl hm hx
  refine ⟨d', n, rc, h1, fun x g f e hf => ?_, fun a g e => ?_, fun a g e => ?_⟩
  · have hx := h2 _ _ e
    have hx := fR hC 1 (show eR 158 nDflt nC3 1 9 (lv_args 0 [.ref 158, .long E, .int nn, .ref 205]) [.int x, .int 0, .ref 205] g = some (10, lv_args 0 [.ref 158, .long E, .int nn, .ref 205], [.long x.toInt64, .int 0, .ref 205], g) from rfl) hx
    have hx := fE (mP'_ok hC 10 _ rfl) (eS_las (k0 := 158) (dflt := nDflt) (o := (0, 0, 0, .null)) (pc := 10) (lv := lv_args 0 [.ref 158, .long E, .int nn, .ref 205]) (r := []) (y := x.toInt64) (by decide) hf) hx
    have hx := fR hC 2 (show eR 158 nDflt nC3 2 11 (lv_args 0 [.ref 158, .long E, .int nn, .ref 205]) [] (g.set 205 (some (.inl (1, 1, .inr (.inl (vp_updL f 0 x.toInt64)))))) = some (23, lv_args 0 [.ref 158, .long E, .int nn, .ref 205], [.int 0], g.set 205 (some (.inl (1, 1, .inr (.inl (vp_updL f 0 x.toInt64)))))) from rfl) hx
    exact fRet (mP'_ok hC 23 _ rfl) rfl hx
  · have hx := h3 _ _ _ 14 e rfl
    have hx := fR hC 2 (show eR 158 nDflt nC3 2 14 (lv_args 0 [.ref 158, .long E, .int nn, .ref 205]) [.ref a] g = some (17, (5, .ref a) :: lv_args 0 [.ref 158, .long E, .int nn, .ref 205], [.int 1], g) from rfl) hx
    exact fRet (mP'_ok hC 17 _ rfl) rfl hx
  · have hx := h3 _ _ _ 18 e rfl
    have hx := fR hC 2 (show eR 158 nDflt nC3 2 18 (lv_args 0 [.ref 158, .long E, .int nn, .ref 205]) [.ref a] g = some (21, (5, .ref a) :: lv_args 0 [.ref 158, .long E, .int nn, .ref 205], [.int 2], g) from rfl) hx
    exact fRet (mP'_ok hC 21 _ rfl) rfl hx
end WP
