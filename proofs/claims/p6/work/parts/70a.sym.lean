/-! SYMBOLS ASKED FOR: both sides -/
abbrev sp42 (as : List Value) (σ : zS) : Option zCs := match as with
  | [.ref 158, .long nm] => some (fun o σ' => (zLk (σ.2.2.2.1 16) (σ.2.2.1 17) (σ.1 15 2) nm = -1 ∧ o = .inr 3 ∧ σ' = zX σ 3) ∨ (¬ zLk (σ.2.2.2.1 16) (σ.2.2.1 17) (σ.1 15 2) nm = -1 ∧ o = .inl (some (.int (zLk (σ.2.2.2.1 16) (σ.2.2.1 17) (σ.1 15 2) nm))) ∧ σ' = σ))
  | _ => none
section SY
variable {c0 : mH} {v5 : Value}
theorem z42 (h0 : zC0 c0) : zSp c0 v5 42 sp42 := by
  intro d n as σ cs r hs hx
  unfold sp42 at hs
  split at hs
  · rename_i nm
    cases hs
    obtain ⟨d', hx⟩ := zGo hx
    replace hx := zTr (C := nC42) (tb := [(68, sp68)]) h0 rfl rfl ⟨z68 h0, trivial⟩ (fun _ => false) 60 hx
    obtain ⟨_, _, ⟨rfl, rfl⟩, hx⟩ := hx
    rcases hx with ⟨h1, hx⟩ | ⟨h1, hx⟩
    · exact ⟨_, _, .inr ⟨cNeT h1, rfl, rfl⟩, hx⟩
    · exact ⟨_, _, .inl ⟨cNeF h1, rfl, rfl⟩, hx⟩
  · cases hs
/-- the reference's loop over what is known -/
theorem z12_l (h0 : zC0 c0) {d n : Nat} {r : mO × mH} {σ : zS} {nm : Int64} : ∀ (m : Nat) (i : Int32), zF v5 d n 12 m 7 [(3, .int i), (0, .ref 183), (1, .long nm)] [] (zH c0 σ) = some r → (zFi (σ.2.2.2.1 45) nm (σ.1 25 42) i < σ.1 25 42 ∧ r = zOut c0 (.inl (some (.int (σ.2.2.1 46 (zFi (σ.2.2.2.1 45) nm (σ.1 25 42) i).toNatClampNeg)))) σ) ∨ (¬ zFi (σ.2.2.2.1 45) nm (σ.1 25 42) i < σ.1 25 42 ∧ r = zOut c0 (.inl (some (.int 0))) (zI σ 25 0 1)) := by
  intro m
  induction m using Nat.strongRecOn with
  | ind m ih =>
    intro i hx
    have hx := zTr (C := nC12) (tb := [(37, sp37)]) h0 rfl rfl ⟨z37 h0, trivial⟩ (fun pc => pc.beq 7) 40 hx
    rcases hx with ⟨h1, hx⟩ | ⟨h1, h2, ⟨h3, m', hm, hx⟩ | ⟨h3, h4, hx⟩⟩
    · obtain ⟨_, _, ⟨rfl, rfl⟩, hx⟩ := hx
      right
      unfold zFi
      rw [zSc_stop (fun h => cGeT h1 h.1)]
      exact ⟨cGeT h1, hx⟩
    · unfold zFi
      rw [zSc_go (cGeF h1) (by rw [Bool.not_eq_true']; exact decide_eq_false (lNeT h3))]
      exact ih m' (by omega) _ hx
    · left
      unfold zFi
      rw [zSc_stop (fun h => by have := h.2; rw [Bool.not_eq_true'] at this; exact of_decide_eq_false this (lNeF h3))]
      exact ⟨cGeF h1, hx⟩
theorem z12 (h0 : zC0 c0) {d n : Nat} {r : mO × mH} {σ : zS} {nm : Int64} (hx : zEv v5 d n 12 [.ref 183, .long nm] (zH c0 σ) = some r) : (zFi (σ.2.2.2.1 45) nm (σ.1 25 42) 0 < σ.1 25 42 ∧ r = zOut c0 (.inl (some (.int (σ.2.2.1 46 (zFi (σ.2.2.2.1 45) nm (σ.1 25 42) 0).toNatClampNeg)))) (zI σ 25 0 0)) ∨ (¬ zFi (σ.2.2.2.1 45) nm (σ.1 25 42) 0 < σ.1 25 42 ∧ r = zOut c0 (.inl (some (.int 0))) (zI (zI σ 25 0 0) 25 0 1)) := by
  obtain ⟨d', hx⟩ := zGo hx
  obtain ⟨m', hm, hx⟩ := zTr (C := nC12) (tb := [(37, sp37)]) h0 rfl rfl ⟨z37 h0, trivial⟩ (fun pc => pc.beq 7) 40 hx
  exact z12_l h0 m' 0 hx
theorem inv11 {d n : Nat} {r : mO × mH} {h : mH} {gs : List Value} {E : Int64} (hc : h[158]? = some (some (.inr (0, gs)))) (hx : zEv v5 d n 11 [.ref 158, .long E, .ref 205] h = some r) : ∃ d' n' r42, zEv v5 d' n' 42 [.ref 158, .long E] h = some r42 ∧ (∀ x h1 f, r42 = (.inl (some (.int x)), h1) → h1[205]? = some (some (.inl (1, 1, .inr (.inl f)))) → r = (.inl (some (.int 0)), h1.set 205 (some (.inl (1, 1, .inr (.inl (vp_updL f 0 x.toInt64))))))) ∧ (∀ a h1, r42 = (.inr (3, a), h1) → r = (.inl (some (.int 1)), h1)) := by
  have hC : nCodw v5 11 = nC11 := rfl
  obtain ⟨d', hx⟩ := zGo hx
  have hx := fR hC 4 (show eR 158 nDflt nC11 4 0 (lv_args 0 [.ref 158, .long E, .ref 205]) [] h = some (4, lv_args 0 [.ref 158, .long E, .ref 205], [.long E, .ref 158, .int 0, .ref 205], h) from rfl) hx
  have hm : mCl (.invokevirtual 21, 42, 2, 0, .retAddr 0) [.long E, .ref 158, .int 0, .ref 205] h = some (42, [.ref 158, .long E], [.int 0, .ref 205]) := if_pos ⟨rfl, rfl, (show 2 ≤ 4 by decide), (show 1 + (1 + 0) ≤ 8 by decide), (by
    show (match (h[(158 : Nat)]? : Option mC) with
      | some (some (.inr (ci, _))) => (ci == 0)
      | _ => false) = true
    rw [hc]
    rfl)⟩
  obtain ⟨rc, m', h1, h2, h3⟩ := fCall (mP'_ok hC 4 _ rfl) rfl rfl hm hx
  refine ⟨d', n, rc, h1, fun x g f e hf => ?_, fun a g e => ?_⟩
  · have hx := h2 _ _ e
    have hx := fR hC 1 (show eR 158 nDflt nC11 1 7 (lv_args 0 [.ref 158, .long E, .ref 205]) [.int x, .int 0, .ref 205] g = some (8, lv_args 0 [.ref 158, .long E, .ref 205], [.long x.toInt64, .int 0, .ref 205], g) from rfl) hx
    have hx := fE (mP'_ok hC 8 _ rfl) (eS_las (k0 := 158) (dflt := nDflt) (o := (0, 0, 0, .null)) (pc := 8) (lv := lv_args 0 [.ref 158, .long E, .ref 205]) (r := []) (y := x.toInt64) (by decide) hf) hx
    have hx := fR hC 2 (show eR 158 nDflt nC11 2 9 (lv_args 0 [.ref 158, .long E, .ref 205]) [] (g.set 205 (some (.inl (1, 1, .inr (.inl (vp_updL f 0 x.toInt64)))))) = some (17, lv_args 0 [.ref 158, .long E, .ref 205], [.int 0], g.set 205 (some (.inl (1, 1, .inr (.inl (vp_updL f 0 x.toInt64)))))) from rfl) hx
    exact fRet (mP'_ok hC 17 _ rfl) rfl hx
  · have hx := h3 _ _ _ 12 e rfl
    have hx := fR hC 2 (show eR 158 nDflt nC11 2 12 (lv_args 0 [.ref 158, .long E, .ref 205]) [.ref a] g = some (15, (4, .ref a) :: lv_args 0 [.ref 158, .long E, .ref 205], [.int 1], g) from rfl) hx
    exact fRet (mP'_ok hC 15 _ rfl) rfl hx
end SY
/-! WHAT IS KNOWN OF SYMBOLS, on both sides -/
def yqF (σ : zS) : Prop := σ.1 15 2 = σ.1 25 42 ∧ ∀ i, i < (σ.1 15 2).toNatClampNeg → σ.2.2.2.1 16 i = σ.2.2.2.1 45 i ∧ σ.2.2.1 17 i = σ.2.2.1 46 i ∧ ¬ σ.2.2.1 17 i = -1
abbrev yqS (h : mH) : Prop := yqF (zOf h)
abbrev k6 (σ : zS) : Int32 × Int32 × (Nat → Int64) × (Nat → Int32) × (Nat → Int64) × (Nat → Int32) := (σ.1 15 2, σ.1 25 42, σ.2.2.2.1 16, σ.2.2.1 17, σ.2.2.2.1 45, σ.2.2.1 46)
theorem yqF_6 {σ τ : zS} (h : k6 τ = k6 σ) (hk : yqF σ) : yqF τ := by
  simp only [k6, Prod.mk.injEq] at h
  obtain ⟨a, b, c, d, e, f⟩ := h
  unfold yqF
  rw [a, b, c, d, e, f]
  exact hk
/-- the cells of a state: what is known of symbols there -/
theorem k6_to {h : mH} {σ : zS} (h1 : h[158 + 15]? = some (zCell σ 15)) (h2 : h[158 + 25]? = some (zCell σ 25)) (h3 : h[158 + 16]? = some (zCell σ 16)) (h4 : h[158 + 17]? = some (zCell σ 17)) (h5 : h[158 + 45]? = some (zCell σ 45)) (h6 : h[158 + 46]? = some (zCell σ 46)) : k6 (zOf h) = k6 σ := by
  have a : gI h 15 2 = σ.1 15 2 := by
    unfold gI
    rw [h1]
    rfl
  have b : gI h 25 42 = σ.1 25 42 := by
    unfold gI
    rw [h2]
    rfl
  have c : gB h 16 = σ.2.2.2.1 16 := by
    unfold gB
    rw [h3]
    rfl
  have d : gA h 17 = σ.2.2.1 17 := by
    unfold gA
    rw [h4]
    rfl
  have e : gB h 45 = σ.2.2.2.1 45 := by
    unfold gB
    rw [h5]
    rfl
  have f : gA h 46 = σ.2.2.1 46 := by
    unfold gA
    rw [h6]
    rfl
  show (gI h 15 2, gI h 25 42, gB h 16, gA h 17, gB h 45, gA h 46) = _
  rw [a, b, c, d, e, f]
section SE
variable {v5 : Value} {h : mH} {f : Nat → Int32} {len : Int32}
theorem k6_le {c0 h' : mH} {σ : zS} (hl : c0.length = 158) (hm : mLe (zH c0 σ) h') : k6 (zOf h') = k6 σ := k6_to (le_cell hl hm (by decide) rfl) (le_cell hl hm (by decide) rfl) (le_cell hl hm (by decide) rfl) (le_cell hl hm (by decide) rfl) (le_cell hl hm (by decide) rfl) (le_cell hl hm (by decide) rfl)
theorem k6_le5 {c0 h' : mH} {σ : zS} {x : mC} (hl : c0.length = 158) (hm : mLe ((zH c0 σ).set 205 x) h') : k6 (zOf h') = k6 σ := k6_to (le_cell5 hl hm (by decide) rfl) (le_cell5 hl hm (by decide) rfl) (le_cell5 hl hm (by decide) rfl) (le_cell5 hl hm (by decide) rfl) (le_cell5 hl hm (by decide) rfl) (le_cell5 hl hm (by decide) rfl)
/-- a name is found alike -/
theorem find_k {σ : zS} (hk : yqF σ) (nm : Int64) : zFi (σ.2.2.2.1 16) nm (σ.1 15 2) 0 = zFi (σ.2.2.2.1 45) nm (σ.1 25 42) 0 := by
  rw [← hk.1]
  unfold zFi
  refine zSc_congr 0 (fun k k0 k1 => ?_)
  have h1 := Int32.lt_iff_toInt_lt.mp k1
  have z : (0 : Int32).toInt = 0 := rfl
  rw [z] at k0
  have e1 := tn_i k0
  have e2 := tn_i (x := σ.1 15 2) (by omega)
  rw [(hk.2 k.toNatClampNeg (by omega)).1]
/-- both sides' symbol: h3 behind the class's, h4 behind the reference's -/
theorem sym_ex {d n d' n' : Nat} {h3 h4 g3 g4 : mH} {o3 o4 : mO} {E : Int64} (hz : zC0 (h.take 158)) (hx : xTx h f len) (hk : yqS h) (e3 : zEv v5 d n 11 [.ref 158, .long E, .ref 205] (hN h) = some (o3, g3)) (m3 : mLe g3 h3) (ho : h3.take 158 = h.take 158) (e4 : zEv v5 d' n' 12 [.ref 183, .long E] (hN h3) = some (o4, g4)) (m4 : mLe g4 h4) : xTx h4 f len ∧ yqS h4 ∧ ((o3 = .inl (some (.int 1)) ∧ o4 = .inl (some (.int 0)) ∧ ∃ gs : List Value, h4[158 + 25]? = some (some (.inr (7, gs))) ∧ gs[(0 : Nat)]? = some (.int 1)) ∨ ∃ s, o3 = .inl (some (.int 0)) ∧ o4 = .inl (some (.int s)) ∧ (∃ gs : List Value, h4[158 + 25]? = some (some (.inr (7, gs))) ∧ gs[(0 : Nat)]? = some (.int 0)) ∧ ∃ q : Nat → Int64, h4[158 + 47]? = some (some (.inl (1, 1, .inr (.inl q)))) ∧ q 0 = s.toInt64) := by
  have hlen := hz.1
  have h158 : (hN h)[158]? = some (some (.inr (0, [.ref 159, .ref 160, .ref 165, .ref 167, .ref 169]))) := zH_get (k := 0) hlen (by decide)
  obtain ⟨d1, n1, r42, a1, a2, a3⟩ := inv11 h158 e3
  rw [show hN h3 = zH (h.take 158) (zOf h3) by show zH (h3.take 158) (zOf h3) = _; rw [ho]] at e4
  have t0 := txt_of hx
  obtain ⟨o, σ', c1, c2⟩ := z42 hz _ _ _ _ _ _ rfl a1
  have hfk := find_k hk E
  -- the class's side
  have cls : (xTx h3 f len ∧ k6 (zOf h3) = k6 (zOf h)) ∧ ((zLk ((zOf h).2.2.2.1 16) ((zOf h).2.2.1 17) ((zOf h).1 15 2) E = -1 ∧ o3 = .inl (some (.int 1))) ∨ (¬ zLk ((zOf h).2.2.2.1 16) ((zOf h).2.2.1 17) ((zOf h).1 15 2) E = -1 ∧ o3 = .inl (some (.int 0)) ∧ ∃ q : Nat → Int64, h3[158 + 47]? = some (some (.inl (1, 1, .inr (.inl q)))) ∧ q 0 = (zLk ((zOf h).2.2.2.1 16) ((zOf h).2.2.1 17) ((zOf h).1 15 2) E).toInt64)) := by
    rcases c1 with ⟨q1, q2, q3⟩ | ⟨q1, q2, q3⟩
    · subst q2 q3
      have e := a3 _ _ c2
      cases e
      exact ⟨⟨txt_to (σ := zX (zOf h) 3) ⟨t0.1, t0.2.1, t0.2.2.1, t0.2.2.2⟩ (le_cell hlen m3 (by decide) rfl) (le_cell hlen m3 (by decide) rfl) (le_cell hlen m3 (by decide) rfl) (le_cell hlen m3 (by decide) rfl), k6_le (σ := zX (zOf h) 3) hlen m3⟩, .inl ⟨q1, rfl⟩⟩
    · subst q2 q3
      have e := a2 _ _ ((zOf h).2.2.2.1 47) c2 (zH_get (k := 47) hlen (by decide))
      cases e
      have c : h3[158 + 47]? = some (some (.inl (1, 1, .inr (.inl (vp_updL ((zOf h).2.2.2.1 47) 0 (zLk ((zOf h).2.2.2.1 16) ((zOf h).2.2.1 17) ((zOf h).1 15 2) E).toInt64))))) := m3.2 _ _ (by
        rw [List.getElem?_set_self]
        have := zH_get (σ := zOf h) (k := 47) hlen (by decide)
        exact (List.getElem?_eq_some_iff.mp this).1)
      exact ⟨⟨txt_to (σ := zOf h) t0 (le_cell5 hlen m3 (by decide) rfl) (le_cell5 hlen m3 (by decide) rfl) (le_cell5 hlen m3 (by decide) rfl) (le_cell5 hlen m3 (by decide) rfl), k6_le5 (σ := zOf h) hlen m3⟩, .inr ⟨q1, rfl, _, c, by rw [vp_updL_eq, if_pos rfl]⟩⟩
  obtain ⟨⟨x3, k3⟩, hcl⟩ := cls
  have hk3 : yqS h3 := yqF_6 k3 hk
  have t3 := txt_of x3
  have k3' := k3
  simp only [k6, Prod.mk.injEq] at k3'
  obtain ⟨u1, u2, u3, u4, u5, u6⟩ := k3'
  have hd := z12 hz e4
  rw [u2, u5, u6, ← hfk, ← hk.1] at hd
  rcases hd with ⟨w1, w2⟩ | ⟨w1, w2⟩
  · cases w2
    have hc4 := le_cell (k := 25) hlen m4 (by decide) rfl
    have x4 : xTx h4 f len := txt_to (σ := zI (zOf h3) 25 0 0) ⟨t3.1, t3.2.1, t3.2.2.1, t3.2.2.2⟩ (le_cell hlen m4 (by decide) rfl) (le_cell hlen m4 (by decide) rfl) (le_cell hlen m4 (by decide) rfl) hc4
    have hk4 : yqS h4 := yqF_6 (k6_le (σ := zI (zOf h3) 25 0 0) hlen m4) hk3
    have hidx : 0 ≤ (zFi ((zOf h).2.2.2.1 16) E ((zOf h).1 15 2) 0).toInt := (zSc_le _ _ _).1
    have hlt := Int32.lt_iff_toInt_lt.mp w1
    have e1 := tn_i hidx
    have e2 := tn_i (x := (zOf h).1 15 2) (by omega)
    obtain ⟨v1, v2, v3⟩ := hk.2 (zFi ((zOf h).2.2.2.1 16) E ((zOf h).1 15 2) 0).toNatClampNeg (by omega)
    have hz2 : zLk ((zOf h).2.2.2.1 16) ((zOf h).2.2.1 17) ((zOf h).1 15 2) E = (zOf h).2.2.1 17 (zFi ((zOf h).2.2.2.1 16) E ((zOf h).1 15 2) 0).toNatClampNeg := by
      unfold zLk
      rw [if_pos w1]
    rcases hcl with ⟨p1, p2⟩ | ⟨p1, p2, q, q1, q2⟩
    · rw [hz2] at p1
      exact absurd p1 v3
    · refine ⟨x4, hk4, .inr ⟨_, p2, rfl, ⟨_, hc4, rfl⟩, (zOf h3).2.2.2.1 47, le_cell (k := 47) hlen m4 (by decide) rfl, ?_⟩⟩
      show gB h3 47 0 = _
      unfold gB
      rw [q1]
      dsimp only
      rw [q2, hz2, v2]
  · cases w2
    have hc4 := le_cell (k := 25) hlen m4 (by decide) rfl
    have x4 : xTx h4 f len := txt_to (σ := zI (zI (zOf h3) 25 0 0) 25 0 1) ⟨t3.1, t3.2.1, t3.2.2.1, t3.2.2.2⟩ (le_cell hlen m4 (by decide) rfl) (le_cell hlen m4 (by decide) rfl) (le_cell hlen m4 (by decide) rfl) hc4
    have hk4 : yqS h4 := yqF_6 (k6_le (σ := zI (zI (zOf h3) 25 0 0) 25 0 1) hlen m4) hk3
    have hz2 : zLk ((zOf h).2.2.2.1 16) ((zOf h).2.2.1 17) ((zOf h).1 15 2) E = -1 := by
      unfold zLk
      rw [if_neg w1]
    rcases hcl with ⟨p1, p2⟩ | ⟨p1, _⟩
    · exact ⟨x4, hk4, .inl ⟨p2, rfl, _, hc4, rfl⟩⟩
    · exact absurd hz2 p1
end SE
