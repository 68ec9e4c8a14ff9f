/-! TWO CALLS of the law, by what was checked -/
section TW
variable {v5 : Value} {call : Nat → List Value → mH → Option (mO × mH)} {ρ : List Int} {c0 hc : mH}
theorem nLl_p (v5 : Value) : rAllP (nCodw v5) nMxx' nLL := by
  unfold nLL rAllP
  repeat' first | exact trivial | refine ⟨⟨rfl, rfl⟩, ?_⟩ | unfold rAllP
theorem nTl_p (v5 : Value) (h5 : nFv v5) : rAllC (rCon 158 nDflt (mP' (nCodw v5)) nHn nMxx') nTL := ⟨⟨nR107 v5 h5, trivial⟩, ⟨nR22 v5 h5, trivial⟩, ⟨nR133 v5 h5, trivial⟩, ⟨nR163 v5 h5, trivial⟩, ⟨nR164 v5 h5, trivial⟩, ⟨nR165 v5 h5, trivial⟩, ⟨nR166 v5 h5, trivial⟩, ⟨nR167 v5 h5, trivial⟩, ⟨nR168 v5 h5, trivial⟩, ⟨nR169 v5 h5, trivial⟩, ⟨nR170 v5 h5, trivial⟩, ⟨nR171 v5 h5, trivial⟩, ⟨nR172 v5 h5, trivial⟩, ⟨nR173 v5 h5, trivial⟩, ⟨nR174 v5 h5, trivial⟩, ⟨nR175 v5 h5, trivial⟩, ⟨nR176 v5 h5, trivial⟩, ⟨nR177 v5 h5, trivial⟩, ⟨nR178 v5 h5, trivial⟩, ⟨nR179 v5 h5, trivial⟩, ⟨nR180 v5 h5, trivial⟩, ⟨nR181 v5 h5, trivial⟩, trivial⟩
theorem rHr_1 {l : List rC} {w : Value} {i : Nat} {a : (Nat × Nat × Int × Int) ⊕ (Nat × List Value)} {c : mC} (hh : rHr c0 ρ (l, w) hc) (hx : hc[i]? = some c) (hr : rCr ρ (some a) c) : rHr c0 ρ (l.set (rX' i) (some a), w) hc := by
  obtain ⟨a1, b, c1, d⟩ := hh
  refine ⟨a1, fun j q hq => ?_, fun j hj hn => ?_, ?_⟩
  · have hq' : rGt (l.set (rX' i) (some a)) j = some q := hq
    rw [rGt_set] at hq'
    by_cases e : i = j
    · rw [if_pos e] at hq'
      split at hq'
      · cases hq'
        exact ⟨c, by rw [← e]; exact hx, hr⟩
      · cases hq'
    · rw [if_neg e] at hq'
      exact b j q hq'
  · have hn' : rNo (l.set (rX' i) (some a)) j := hn
    unfold rNo at hn'
    rw [rGt_set] at hn'
    by_cases e : i = j
    · rw [if_pos e] at hn'
      refine c1 j hj ?_
      split at hn'
      · rcases hn' with q | q <;> cases q
      · rename_i k
        left
        rw [← e]
        unfold rGt
        exact List.getElem?_eq_none (show l.length ≤ rX' i by omega)
    · rw [if_neg e] at hn'
      exact c1 j hj hn'
  · show (l.set (rX' i) (some a)).length ≤ 206
    rw [List.length_set]
    exact d
/-- less is known of a cell, and what is not is as it is -/
theorem rHr_0 {l : List rC} {w : Value} (i : Nat) (hh : rHr c0 ρ (l, w) hc) : rHr hc ρ (l.set (rX' i) none, w) hc := by
  obtain ⟨a1, b, c1, d⟩ := hh
  refine ⟨a1, fun j q hq => ?_, fun _ _ _ => rfl, ?_⟩
  · have hq' : rGt (l.set (rX' i) none) j = some q := hq
    rw [rGt_set] at hq'
    by_cases e : i = j
    · rw [if_pos e] at hq'
      split at hq'
      · rename_i k
        cases hq'
        have : ∃ c, rGt l j = some c := ⟨_, List.getElem?_eq_getElem (by rw [← e]; exact k)⟩
        obtain ⟨x, hx⟩ := this
        obtain ⟨y, y1, _⟩ := b j x hx
        exact ⟨y, y1, trivial⟩
      · cases hq'
    · rw [if_neg e] at hq'
      exact b j q hq'
  · show (l.set (rX' i) none).length ≤ 206
    rw [List.length_set]
    exact d
theorem rHr_un {l : List rC} {w : Value} (hh : rHr c0 ρ (l, w) hc) : rHr hc ρ (nUn l, w) hc := rHr_0 204 (rHr_0 203 (rHr_0 175 (rHr_0 174 (rHr_0 190 (rHr_0 168 hh)))))
/-- the four rows of known symbols stand -/
def yqC (h : mH) : Prop := h[158 + 16]? = some (zCell (zOf h) 16) ∧ h[158 + 17]? = some (zCell (zOf h) 17) ∧ h[158 + 45]? = some (zCell (zOf h) 45) ∧ h[158 + 46]? = some (zCell (zOf h) 46)
theorem yqC_of (hs : shP hc) : yqC hc := ⟨hs.2 16 (by decide), hs.2 17 (by decide), hs.2 45 (by decide), hs.2 46 (by decide)⟩
theorem rCr_i (f : Nat → Int32) : rCr ρ (some (.inl (0, 30, -2147483648, 2147483647))) (some (.inl (0, 30, .inl f))) := rCr.mint (by decide) (by decide) (fun j hj => ⟨(rAny (f j) (Int.le_refl _) (Int.le_refl _)).1, (rAny (f j) (Int.le_refl _) (Int.le_refl _)).2⟩)
theorem rCr_l (f : Nat → Int64) : rCr ρ (some (.inl (1, 30, -9223372036854775808, 9223372036854775807))) (some (.inl (1, 30, .inr (.inl f)))) := ⟨f, rfl, fun j hj => ⟨(rAnyL (f j)).1, (rAnyL (f j)).2⟩⟩
theorem rHr_ks {l : List rC} {w : Value} (hh : rHr c0 ρ (l, w) hc) (hk : yqC hc) : rHr c0 ρ (nKs l, w) hc := rHr_1 (i := 204) (rHr_1 (i := 203) (rHr_1 (i := 175) (rHr_1 (i := 174) hh hk.1 (rCr_l _)) hk.2.1 (rCr_i _)) hk.2.2.1 (rCr_l _)) hk.2.2.2 (rCr_i _)
theorem rHr_kn {l : List rC} {w : Value} {N : Nat} {f : Nat → Int32} (hN : N < 60000) (hh : rHr c0 ρ (l, w) hc) (hk : yqC hc) (h1 : hc[168]? = some (some (.inl (2, 240, .inl f)))) (h2 : hc[190]? = some (some (.inl (0, 240, .inl f)))) (hr : ∀ k, k < 240 → 0 ≤ (f k).toInt ∧ (f k).toInt ≤ 255) (hv : ρ[N]? = some (f 0).toInt) : rHr c0 ρ (nKn l N, w) hc := by
  have hv' : rE ρ (rMk N 0) = some (.int (f 0)) := by
    obtain ⟨q, e1, e2, e3⟩ := rMk_id (id := N) (off := 0) hN (by omega) (by omega)
    rw [e1, rE_f, e2, e3, hv]
    show some (Value.int (Int32.ofInt ((f 0).toInt + 0))) = _
    rw [Int.add_zero, Int32.ofInt_toInt]
  have s1 := rHr_1 (i := 168) (a := .inl (2, 240, 0, 65535)) (rHr_ks hh hk) h1 (rCr.mint (by decide) (by decide) (fun j hj => by have := hr j hj; omega))
  refine rHr_1 (i := 190) (a := .inr (1000, [.int 0, rMk N 0, .int 0, rMk N 0, .int 0, rMk N 0])) s1 h2 ?_
  refine ⟨_, rEs_mk rfl (rEs_mk hv' (rEs_mk rfl (rEs_mk hv' (rEs_mk rfl (rEs_mk hv' rfl))))), ?_⟩
  show ∃ g : Nat → Int32, _ ∧ rMe g _
  have z0 : 0 ≤ (0 : Int32).toInt ∧ (0 : Int32).toInt < 240 ∧ f (0 : Int32).toInt.toNat = f 0 := ⟨by decide, by decide, rfl⟩
  exact ⟨f, rfl, z0, z0, z0, trivial⟩
def yfld (c : mC) : List Value := match c with
  | some (.inr (_, gs)) => gs
  | _ => []
/-- both counts are one number: told so -/
theorem rHr_mg {l : List rC} {w : Value} (hs : shP hc) (hh : rHr c0 ρ (l, w) hc) (hk : (zOf hc).1 15 2 = (zOf hc).1 25 42) : rHr c0 ρ (nMg l, w) hc := by
  unfold nMg
  split
  · rename_i a b v gs e1 e2
    obtain ⟨u, u1, u2⟩ := hh.2.1 173 _ e1
    obtain ⟨w', w1, w2⟩ := hh.2.1 183 _ e2
    obtain ⟨g, g1, g2⟩ := u2.obj (by decide)
    obtain ⟨k, k1, k2⟩ := w2.obj (by decide)
    rw [g2] at u1
    rw [k2] at w1
    have q1 : g = yfld (zCell (zOf hc) 15) := congrArg yfld (Option.some.inj (u1.symm.trans (hs.2 15 (by decide))))
    have q2 : k = yfld (zCell (zOf hc) 25) := congrArg yfld (Option.some.inj (w1.symm.trans (hs.2 25 (by decide))))
    have q3 : g[(2 : Nat)]? = some (.int ((zOf hc).1 15 2)) := by rw [q1]; rfl
    have q4 : k[(42 : Nat)]? = some (.int ((zOf hc).1 25 42)) := by rw [q2]; rfl
    obtain ⟨c, c1, hv⟩ := rEs_get (k := 2) (v := v) g1 rfl
    rw [q3] at c1
    cases c1
    have hset := rEs_set (k := 42) k1 hv
    refine rHr_1 (i := 183) hh w1 (rCr.mobj (by decide) (hset.trans ?_))
    congr 1
    rw [hk]
    apply List.ext_getElem?
    intro i
    rw [List.getElem?_set]
    split
    · rename_i hi
      subst hi
      rw [if_pos (List.getElem?_eq_some_iff.mp q4).1, q4]
    · rfl
  · exact hh
theorem det {d n n' ce : Nat} {as : List Value} {h : mH} {r r' : mO × mH} (a : zEv v5 d n ce as h = some r) (b : zEv v5 d n' ce as h = some r') : r = r' := by
  have a' := evM_up (k0 := 158) (dflt := nDflt) (P := mP' (nCodw v5)) (Hn := nHn) (mx := nMxx') d n (n + n') (by omega) a
  have b' := evM_up (k0 := 158) (dflt := nDflt) (P := mP' (nCodw v5)) (Hn := nHn) (mx := nMxx') d n' (n + n') (by omega) b
  rw [a'] at b'
  exact Option.some.inj b'
/-- one call: its end, the same without what was thrown, what is known behind it -/
theorem one_ok (h5 : nFv v5) (hcl : ∀ ce as h r, call ce as h = some r ↔ ∃ n, zEv v5 15 n ce as h = some r) {ce : Nat} {as asc : List Value} {fs : rF} {h : rH} {rs : List rR} (hr : nAcw ce as fs h = some rs) (hO : rOk ρ fs) (ha : rEs ρ as = some asc) (hh : rHr c0 ρ h hc) (hs : shP hc) (hv : ∀ r ∈ rs, nVi r.2.1 = true) : ∃ r ∈ rs, ∃ ex, rOk (ρ ++ ex) r.1 ∧ ∃ v h1, rHr c0 (ρ ++ ex) r.2.2 h1 ∧ call ce asc hc = some (.inl (some (.int v)), h1) ∧ (∃ n g, zEv v5 15 n ce asc (hN hc) = some (.inl (some (.int v)), g) ∧ mLe g h1) ∧ h1.take 158 = hc.take 158 := by
  have rc := fun (hc : mH) (hh : rHr c0 ρ h hc) => rCall_ok (c0 := c0) (by decide) (rLk_ok (nLl_p v5)) (rLm_ok (nLl_p v5)) (nHk1 v5) (rTab_ok (nTl_p v5 h5)) 15 15 (Nat.le_refl _) ρ ce as fs h rs asc hc hr hO ha hh
  obtain ⟨r, r1, ex, r2, oc, h1, r3, r4, n, r5⟩ := rc hc hh
  obtain ⟨r', s1, ex', s2, oc', g1, s3, s4, n', s5⟩ := rc (hN hc) (hN_rHr hs hh)
  obtain ⟨h1', u1, u2⟩ := evM_le (fun _ _ _ k => k) 15 n' ce asc _ _ _ _ (hN_le hs) s5
  have e := det r5 u1
  cases e
  have hvi := hv r r1
  have hint : ∃ v, oc = .inl (some (.int v)) := by
    unfold nVi at hvi
    split at hvi
    · rename_i x hx
      rw [hx] at r3
      obtain ⟨c, c1, c2⟩ := r3
      cases c1
      exact ⟨_, c2⟩
    · rename_i b hx
      rw [hx] at r3
      obtain ⟨c, c1, c2⟩ := r3
      obtain ⟨y, hy⟩ := rE_fi c1
      rw [hy] at c2
      exact ⟨_, c2⟩
    · cases hvi
  obtain ⟨v, rfl⟩ := hint
  refine ⟨r, r1, ex, r2, v, h1, r4, (hcl _ _ _ _).mpr ⟨n, r5⟩, ⟨n', g1, s5, u2⟩, ?_⟩
  have ho := evM_old r5 (by have := hs.1; omega)
  apply List.ext_getElem?
  intro i
  rw [List.getElem?_take, List.getElem?_take]
  split
  · rename_i hi
    exact ho.2 i hi
  · rfl
theorem shP_of {l : List rC} {w : Value} (hB : shB l = true) (hh : rHr c0 ρ (l, w) hc) : shP hc := by
  obtain ⟨x, _, x0, xl⟩ := hh.1
  exact ⟨by omega, fun k hk => shape_ok (h := (l, w)) hB hh hk⟩
end TW
