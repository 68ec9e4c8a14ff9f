/-! SYMBOLS ASKED FOR: both sides -/
abbrev sp42 (as : List Value) (σ : zS) : Option zCs := match as with
  | [.ref 158, .long nm] => some (fun o σ' => (zLk (σ.2.2.2.1 16) (σ.2.2.1 17) (σ.1 15 2) nm = -1 ∧ o = .inr 3 ∧ σ' = zX σ 3) ∨ (¬ zLk (σ.2.2.2.1 16) (σ.2.2.1 17) (σ.1 15 2) nm = -1 ∧ o = .inl (some (.int (zLk (σ.2.2.2.1 16) (σ.2.2.1 17) (σ.1 15 2) nm))) ∧ σ' = σ))
  | _ => none
section SY
variable {c0 : mH} {v5 : Value}
theorem z42 (h0 : zC0 c0) : zSp c0 v5 42 sp42 := by
  intro d n as σ cs r hs hx
  unfold sp42 at hs
  split at hs
  · rename_i nm
    cases hs
    obtain ⟨d', hx⟩ := zGo hx
    replace hx := zTr (C := nC42) (tb := [(68, sp68)]) h0 rfl rfl ⟨z68 h0, trivial⟩ (fun _ => false) 60 hx
    obtain ⟨_, _, ⟨rfl, rfl⟩, hx⟩ := hx
    rcases hx with ⟨h1, hx⟩ | ⟨h1, hx⟩
    · exact ⟨_, _, .inr ⟨cNeT h1, rfl, rfl⟩, hx⟩
    · exact ⟨_, _, .inl ⟨cNeF h1, rfl, rfl⟩, hx⟩
  · cases hs
/-- the reference's loop over what is known -/
theorem z12_l (h0 : zC0 c0) {d n : Nat} {r : mO × mH} {σ : zS} {nm : Int64} : ∀ (m : Nat) (i : Int32), zF v5 d n 12 m 7 [(3, .int i), (0, .ref 183), (1, .long nm)] [] (zH c0 σ) = some r → (zFi (σ.2.2.2.1 45) nm (σ.1 25 42) i < σ.1 25 42 ∧ r = zOut c0 (.inl (some (.int (σ.2.2.1 46 (zFi (σ.2.2.2.1 45) nm (σ.1 25 42) i).toNatClampNeg)))) σ) ∨ (¬ zFi (σ.2.2.2.1 45) nm (σ.1 25 42) i < σ.1 25 42 ∧ r = zOut c0 (.inl (some (.int 0))) (zI σ 25 0 1)) := by
  intro m
  induction m using Nat.strongRecOn with
  | ind m ih =>
    intro i hx
    have hx := zTr (C := nC12) (tb := [(37, sp37)]) h0 rfl rfl ⟨z37 h0, trivial⟩ (fun pc => pc.beq 7) 40 hx
    rcases hx with ⟨h1, hx⟩ | ⟨h1, h2, ⟨h3, m', hm, hx⟩ | ⟨h3, h4, hx⟩⟩
    · obtain ⟨_, _, ⟨rfl, rfl⟩, hx⟩ := hx
      right
      unfold zFi
      rw [zSc_stop (fun h => cGeT h1 h.1)]
      exact ⟨cGeT h1, hx⟩
    · unfold zFi
      rw [zSc_go (cGeF h1) (by rw [Bool.not_eq_true']; exact decide_eq_false (lNeT h3))]
      exact ih m' (by omega) _ hx
    · left
      unfold zFi
      rw [zSc_stop (fun h => by have := h.2; rw [Bool.not_eq_true'] at this; exact of_decide_eq_false this (lNeF h3))]
      exact ⟨cGeF h1, hx⟩
theorem z12 (h0 : zC0 c0) {d n : Nat} {r : mO × mH} {σ : zS} {nm : Int64} (hx : zEv v5 d n 12 [.ref 183, .long nm] (zH c0 σ) = some r) : (zFi (σ.2.2.2.1 45) nm (σ.1 25 42) 0 < σ.1 25 42 ∧ r = zOut c0 (.inl (some (.int (σ.2.2.1 46 (zFi (σ.2.2.2.1 45) nm (σ.1 25 42) 0).toNatClampNeg)))) (zI σ 25 0 0)) ∨ (¬ zFi (σ.2.2.2.1 45) nm (σ.1 25 42) 0 < σ.1 25 42 ∧ r = zOut c0 (.inl (some (.int 0))) (zI (zI σ 25 0 0) 25 0 1)) := by
  obtain ⟨d', hx⟩ := zGo hx
  obtain ⟨m', hm, hx⟩ := zTr (C := nC12) (tb := [(37, sp37)]) h0 rfl rfl ⟨z37 h0, trivial⟩ (fun pc => pc.beq 7) 40 hx
  exact z12_l h0 m' 0 hx
theorem inv11 {d n : Nat} {r : mO × mH} {h : mH} {gs : List Value} {E : Int64} (hc : h[158]? = some (some (.inr (0, gs)))) (hx : zEv v5 d n 11 [.ref 158, .long E, .ref 205] h = some r) : ∃ d' n' r42, zEv v5 d' n' 42 [.ref 158, .long E] h = some r42 ∧ (∀ x h1 f, r42 = (.inl (some (.int x)), h1) → h1[205]? = some (some (.inl (1, 1, .inr (.inl f)))) → r = (.inl (some (.int 0)), h1.set 205 (some (.inl (1, 1, .inr (.inl (vp_updL f 0 x.toInt64))))))) ∧ (∀ a h1, r42 = (.inr (3, a), h1) → r = (.inl (some (.int 1)), h1)) := by
  have hC : nCodw v5 11 = nC11 := rfl
  obtain ⟨d', hx⟩ := zGo hx
  have hx := fR hC 4 (show eR 158 nDflt nC11 4 0 (lv_args 0 [.ref 158, .long E, .ref 205]) [] h = some (4, lv_args 0 [.ref 158, .long E, .ref 205], [.long E, .ref 158, .int 0, .ref 205], h) from rfl) hx
  have hm : mCl (.invokevirtual 21, 42, 2, 0, .retAddr 0) [.long E, .ref 158, .int 0, .ref 205] h = some (42, [.ref 158, .long E], [.int 0, .ref 205]) := if_pos ⟨rfl, rfl, (show 2 ≤ 4 by decide), (show 1 + (1 + 0) ≤ 8 by decide), (by
    show (match (h[(158 : Nat)]? : Option mC) with
      | some (some (.inr (ci, _))) => (ci == 0)
      | _ => false) = true
    rw [hc]
    rfl)⟩
  obtain ⟨rc, m', h1, h2, h3⟩ := fCall (mP'_ok hC 4 _ rfl) rfl rfl hm hx
  refine ⟨d', n, rc, h1, fun x g f e hf => ?_, fun a g e => ?_⟩
  · have hx := h2 _ _ e
    have hx := fR hC 1 (show eR 158 nDflt nC11 1 7 (lv_args 0 [.ref 158, .long E, .ref 205]) [.int x, .int 0, .ref 205] g = some (8, lv_args 0 [.ref 158, .long E, .ref 205], [.long x.toInt64, .int 0, .ref 205], g) from rfl) hx
    have hx := fE (mP'_ok hC 8 _ rfl) (eS_las (k0 := 158) (dflt := nDflt) (o := (0, 0, 0, .null)) (pc := 8) (lv := lv_args 0 [.ref 158, .long E, .ref 205]) (r := []) (y := x.toInt64) (by decide) hf) hx
    have hx := fR hC 2 (show eR 158 nDflt nC11 2 9 (lv_args 0 [.ref 158, .long E, .ref 205]) [] (g.set 205 (some (.inl (1, 1, .inr (.inl (vp_updL f 0 x.toInt64)))))) = some (17, lv_args 0 [.ref 158, .long E, .ref 205], [.int 0], g.set 205 (some (.inl (1, 1, .inr (.inl (vp_updL f 0 x.toInt64)))))) from rfl) hx
    exact fRet (mP'_ok hC 17 _ rfl) rfl hx
  · have hx := h3 _ _ _ 12 e rfl
    have hx := fR hC 2 (show eR 158 nDflt nC11 2 12 (lv_args 0 [.ref 158, .long E, .ref 205]) [.ref a] g = some (15, (4, .ref a) :: lv_args 0 [.ref 158, .long E, .ref 205], [.int 1], g) from rfl) hx
    exact fRet (mP'_ok hC 15 _ rfl) rfl hx
theorem z5 (h0 : zC0 c0) {d n : Nat} {σ : zS} {r : mO × mH} (hx : zEv v5 d n 5 [.ref 158] (zH c0 σ) = some r) : r = zOut c0 (.inl (some (.int (σ.1 9 1)))) (zI σ 9 1 0) := by
  obtain ⟨d', hx⟩ := zGo hx
  exact zTr (C := nC5) (tb := []) h0 rfl rfl trivial (fun _ => false) 60 hx
theorem z6 (h0 : zC0 c0) {d n : Nat} {σ : zS} {r : mO × mH} (hx : zEv v5 d n 6 [.ref 183] (zH c0 σ) = some r) : r = zOut c0 (.inl (some (.int (σ.1 25 18)))) (zI (zI σ 25 0 0) 25 18 0) := by
  obtain ⟨d', hx⟩ := zGo hx
  exact zTr (C := nC6) (tb := []) h0 rfl rfl trivial (fun _ => false) 60 hx
end SY
