/-! TWO CALLS of the law, by what was checked -/
section TW
variable {v5 : Value} {call : Nat → List Value → mH → Option (mO × mH)} {ρ : List Int} {c0 hc : mH}
theorem nLl_p (v5 : Value) : rAllP (nCodw v5) nMxx' nLL := by
  unfold nLL rAllP
  repeat' first | exact trivial | refine ⟨⟨rfl, rfl⟩, ?_⟩ | unfold rAllP
theorem nTl_p (v5 : Value) (h5 : nFv v5) : rAllC (rCon 158 nDflt (mP' (nCodw v5)) nHn nMxx') nTL := ⟨⟨nR107 v5 h5, trivial⟩, ⟨nR22 v5 h5, trivial⟩, ⟨nR133 v5 h5, trivial⟩, ⟨nR163 v5 h5, trivial⟩, ⟨nR164 v5 h5, trivial⟩, ⟨nR165 v5 h5, trivial⟩, ⟨nR166 v5 h5, trivial⟩, ⟨nR167 v5 h5, trivial⟩, ⟨nR168 v5 h5, trivial⟩, ⟨nR169 v5 h5, trivial⟩, ⟨nR170 v5 h5, trivial⟩, ⟨nR171 v5 h5, trivial⟩, ⟨nR172 v5 h5, trivial⟩, ⟨nR173 v5 h5, trivial⟩, ⟨nR174 v5 h5, trivial⟩, ⟨nR175 v5 h5, trivial⟩, ⟨nR176 v5 h5, trivial⟩, ⟨nR177 v5 h5, trivial⟩, ⟨nR178 v5 h5, trivial⟩, ⟨nR179 v5 h5, trivial⟩, ⟨nR180 v5 h5, trivial⟩, ⟨nR181 v5 h5, trivial⟩, trivial⟩
theorem rHr_kn {l : List rC} {w : Value} {N : Nat} {f : Nat → Int32} (hN : N < 60000) (hh : rHr c0 ρ (l, w) hc) (h1 : hc[168]? = some (some (.inl (2, 240, .inl f)))) (h2 : hc[190]? = some (some (.inl (0, 240, .inl f)))) (hr : ∀ k, k < 240 → 0 ≤ (f k).toInt ∧ (f k).toInt ≤ 255) (hv : ρ[N]? = some (f 0).toInt) : rHr c0 ρ (nKn l N, w) hc := by
  obtain ⟨a, b, c, d⟩ := hh
  have hv' : rE ρ (rMk N 0) = some (.int (f 0)) := by
    obtain ⟨q, e1, e2, e3⟩ := rMk_id (id := N) (off := 0) hN (by omega) (by omega)
    rw [e1, rE_f, e2, e3, hv]
    show some (Value.int (Int32.ofInt ((f 0).toInt + 0))) = _
    rw [Int.add_zero, Int32.ofInt_toInt]
  refine ⟨a, fun i q hq => ?_, fun i hi hn => ?_, ?_⟩
  · have hq' : rGt ((l.set (rX' 168) (some (.inl (2, 240, 0, 65535)))).set (rX' 190) (some (.inr (1000, [.int 0, rMk N 0, .int 0, rMk N 0, .int 0, rMk N 0])))) i = some q := hq
    rw [rGt_set] at hq'
    by_cases e : 190 = i
    · rw [if_pos e] at hq'
      split at hq'
      · cases hq'
        refine ⟨_, by rw [← e]; exact h2, _, rEs_mk rfl (rEs_mk hv' (rEs_mk rfl (rEs_mk hv' (rEs_mk rfl (rEs_mk hv' rfl))))), ?_⟩
        show ∃ g : Nat → Int32, _ ∧ rMe g _
        have z0 : 0 ≤ (0 : Int32).toInt ∧ (0 : Int32).toInt < 240 ∧ f (0 : Int32).toInt.toNat = f 0 := ⟨by decide, by decide, rfl⟩
        exact ⟨f, rfl, z0, z0, z0, trivial⟩
      · cases hq'
    · rw [if_neg e, rGt_set] at hq'
      by_cases e2 : 168 = i
      · rw [if_pos e2] at hq'
        split at hq'
        · cases hq'
          refine ⟨_, by rw [← e2]; exact h1, rCr.mint (by decide) (by decide) (fun j hj => ?_)⟩
          have := hr j hj
          omega
        · cases hq'
      · rw [if_neg e2] at hq'
        exact b i q hq'
  · have hn' : rNo ((l.set (rX' 168) (some (.inl (2, 240, 0, 65535)))).set (rX' 190) (some (.inr (1000, [.int 0, rMk N 0, .int 0, rMk N 0, .int 0, rMk N 0])))) i := hn
    unfold rNo at hn'
    rw [rGt_set] at hn'
    by_cases e : 190 = i
    · rw [if_pos e] at hn'
      refine c i hi ?_
      split at hn'
      · rcases hn' with q | q <;> cases q
      · rename_i k
        left
        rw [← e]
        unfold rGt
        rw [List.length_set] at k
        exact List.getElem?_eq_none (show l.length ≤ rX' 190 by omega)
    · rw [if_neg e, rGt_set] at hn'
      by_cases e2 : 168 = i
      · rw [if_pos e2] at hn'
        refine c i hi ?_
        split at hn'
        · rcases hn' with q | q <;> cases q
        · rename_i k
          left
          rw [← e2]
          unfold rGt
          exact List.getElem?_eq_none (show l.length ≤ rX' 168 by omega)
      · rw [if_neg e2] at hn'
        exact c i hi hn'
  · show ((l.set 10 _).set 32 _).length ≤ 206
    rw [List.length_set, List.length_set]
    exact d
/-- less is known, and what is not is as it is -/
theorem rHr_un {l : List rC} {w : Value} (hh : rHr c0 ρ (l, w) hc) : rHr hc ρ (nUn l, w) hc := by
  obtain ⟨a, b, c, d⟩ := hh
  refine ⟨a, fun i q hq => ?_, fun i hi hn => rfl, ?_⟩
  · have hq' : rGt ((l.set (rX' 168) none).set (rX' 190) none) i = some q := hq
    rw [rGt_set] at hq'
    by_cases e : 190 = i
    · rw [if_pos e] at hq'
      split at hq'
      · rename_i k
        cases hq'
        rw [List.length_set] at k
        have : ∃ c, rGt l i = some c := ⟨_, List.getElem?_eq_getElem (by rw [← e]; exact k)⟩
        obtain ⟨x, hx⟩ := this
        obtain ⟨y, y1, _⟩ := b i x hx
        exact ⟨y, y1, trivial⟩
      · cases hq'
    · rw [if_neg e, rGt_set] at hq'
      by_cases e2 : 168 = i
      · rw [if_pos e2] at hq'
        split at hq'
        · rename_i k
          cases hq'
          have : ∃ c, rGt l i = some c := ⟨_, List.getElem?_eq_getElem (by rw [← e2]; exact k)⟩
          obtain ⟨x, hx⟩ := this
          obtain ⟨y, y1, _⟩ := b i x hx
          exact ⟨y, y1, trivial⟩
        · cases hq'
      · rw [if_neg e2] at hq'
        exact b i q hq'
  · show ((l.set 10 none).set 32 none).length ≤ 206
    rw [List.length_set, List.length_set]
    exact d
theorem det {d n n' ce : Nat} {as : List Value} {h : mH} {r r' : mO × mH} (a : zEv v5 d n ce as h = some r) (b : zEv v5 d n' ce as h = some r') : r = r' := by
  have a' := evM_up (k0 := 158) (dflt := nDflt) (P := mP' (nCodw v5)) (Hn := nHn) (mx := nMxx') d n (n + n') (by omega) a
  have b' := evM_up (k0 := 158) (dflt := nDflt) (P := mP' (nCodw v5)) (Hn := nHn) (mx := nMxx') d n' (n + n') (by omega) b
  rw [a'] at b'
  exact Option.some.inj b'
/-- one call: its end, the same without what was thrown, what is known behind it -/
theorem one_ok (h5 : nFv v5) (hcl : ∀ ce as h r, call ce as h = some r ↔ ∃ n, zEv v5 15 n ce as h = some r) {ce : Nat} {as asc : List Value} {fs : rF} {h : rH} {rs : List rR} (hr : nAcw ce as fs h = some rs) (hO : rOk ρ fs) (ha : rEs ρ as = some asc) (hh : rHr c0 ρ h hc) (hs : shP hc) (hv : ∀ r ∈ rs, nVi r.2.1 = true) : ∃ r ∈ rs, ∃ ex, rOk (ρ ++ ex) r.1 ∧ ∃ v h1, rHr c0 (ρ ++ ex) r.2.2 h1 ∧ call ce asc hc = some (.inl (some (.int v)), h1) ∧ (∃ n g, zEv v5 15 n ce asc (hN hc) = some (.inl (some (.int v)), g) ∧ mLe g h1) ∧ h1.take 158 = hc.take 158 := by
  have rc := fun (hc : mH) (hh : rHr c0 ρ h hc) => rCall_ok (c0 := c0) (by decide) (rLk_ok (nLl_p v5)) (rLm_ok (nLl_p v5)) (nHk1 v5) (rTab_ok (nTl_p v5 h5)) 15 15 (Nat.le_refl _) ρ ce as fs h rs asc hc hr hO ha hh
  obtain ⟨r, r1, ex, r2, oc, h1, r3, r4, n, r5⟩ := rc hc hh
  obtain ⟨r', s1, ex', s2, oc', g1, s3, s4, n', s5⟩ := rc (hN hc) (hN_rHr hs hh)
  obtain ⟨h1', u1, u2⟩ := evM_le (fun _ _ _ k => k) 15 n' ce asc _ _ _ _ (hN_le hs) s5
  have e := det r5 u1
  cases e
  have hvi := hv r r1
  have hint : ∃ v, oc = .inl (some (.int v)) := by
    unfold nVi at hvi
    split at hvi
    · rename_i x hx
      rw [hx] at r3
      obtain ⟨c, c1, c2⟩ := r3
      cases c1
      exact ⟨_, c2⟩
    · rename_i b hx
      rw [hx] at r3
      obtain ⟨c, c1, c2⟩ := r3
      obtain ⟨y, hy⟩ := rE_fi c1
      rw [hy] at c2
      exact ⟨_, c2⟩
    · cases hvi
  obtain ⟨v, rfl⟩ := hint
  refine ⟨r, r1, ex, r2, v, h1, r4, (hcl _ _ _ _).mpr ⟨n, r5⟩, ⟨n', g1, s5, u2⟩, ?_⟩
  have ho := evM_old r5 (by have := hs.1; omega)
  apply List.ext_getElem?
  intro i
  rw [List.getElem?_take, List.getElem?_take]
  split
  · rename_i hi
    exact ho.2 i hi
  · rfl
theorem shP_of {l : List rC} {w : Value} (hB : shB l = true) (hh : rHr c0 ρ (l, w) hc) : shP hc := by
  obtain ⟨x, _, x0, xl⟩ := hh.1
  exact ⟨by omega, fun k hk => shape_ok (h := (l, w)) hB hh hk⟩
end TW
/-! TWO CALLS, and back to the head; ERASE; what is kept -/
section TX
variable {v5 : Value} {call : Nat → List Value → mH → Option (mO × mH)} {ρ : List Int} {c0 hc : mH}
theorem two_ok (h5 : nFv v5) (hcl : ∀ ce as h r, call ce as h = some r ↔ ∃ n, zEv v5 15 n ce as h = some r) {g : rF} {hp : List rC} {hl : Value} {c1 c2 : Nat} {a1 a2 a1c a2c : List Value} {ρh : List Int} {f : Nat → Int32} {lcc : mL} (hg : g.length ≤ 1000) (hck : nTwo g hp hl c1 a1 c2 a2 = true) (hO : rOk ρ g) (hh : rHr c0 ρ (hp, hl) hc) (x1 : hc[168]? = some (some (.inl (2, 240, .inl f)))) (x2 : hc[190]? = some (some (.inl (0, 240, .inl f)))) (hr : ∀ k, k < 240 → 0 ≤ (f k).toInt ∧ (f k).toInt ≤ 255) (hB : shB (nKn hp g.length) = true) (ha1 : rEs ρ a1 = some a1c) (ha2 : rEs ρ a2 = some a2c) (hρ : ∃ e, ρ = ρh ++ e) (hρl : ρh.length = nTf.length) (hlc : rEv ρ nLc5 = some lcc) : shP hc ∧ ∃ v1 h1 v2 h2, call c1 a1c hc = some (.inl (some (.int v1)), h1) ∧ call c2 a2c h1 = some (.inl (some (.int v2)), h2) ∧ (∃ n g1, zEv v5 15 n c1 a1c (hN hc) = some (.inl (some (.int v1)), g1) ∧ mLe g1 h1) ∧ (∃ n g2, zEv v5 15 n c2 a2c (hN h1) = some (.inl (some (.int v2)), g2) ∧ mLe g2 h2) ∧ h1.take 158 = hc.take 158 ∧ h2.take 158 = h1.take 158 ∧ shP h1 ∧ shP h2 ∧ ∃ zs, rRe h2 (ρh.take 8 ++ zs) nT lcc h2 ∧ rPo2 (23, nT, nLp, 8) ρh zs := by
  have hlen := hO.1
  have hO' : rOk (ρ ++ [(f 0).toInt]) (g ++ [(0, 255)]) := hO.push (hr 0 (by decide)).1 (hr 0 (by decide)).2 (by decide) (by decide)
  have hh' : rHr c0 (ρ ++ [(f 0).toInt]) (nKn hp g.length, hl) hc := rHr_kn (by omega) (rHr_ext _ hh) x1 x2 hr (by rw [← hlen, List.getElem?_append_right (Nat.le_refl _), Nat.sub_self]; rfl)
  have hs : shP hc := shP_of hB hh'
  unfold nTwo at hck
  split at hck
  · cases hck
  · rename_i rs hrs
    rw [List.all_eq_true] at hck
    obtain ⟨r1, m1, ex1, o1, v1, h1, b1, b2, b3, b4⟩ := one_ok h5 hcl hrs hO' (rEs_ext _ ha1) hh' hs (fun r hr => by
      have := hck r hr
      rw [Bool.and_eq_true] at this
      exact this.1)
    have hk1 := hck r1 m1
    rw [Bool.and_eq_true, Bool.and_eq_true] at hk1
    obtain ⟨_, hB1, hk1⟩ := hk1
    have hs1 : shP h1 := shP_of (w := r1.2.2.2) hB1 b1
    split at hk1
    · cases hk1
    · rename_i rs2 hrs2
      rw [List.all_eq_true] at hk1
      obtain ⟨r2, m2, ex2, o2, v2, h2, d1, d2, d3, d4⟩ := one_ok h5 hcl hrs2 o1 (rEs_ext _ (rEs_ext _ ha2)) b1 hs1 (fun r hr => by
        have := hk1 r hr
        rw [Bool.and_eq_true] at this
        exact this.1)
      have hk2 := hk1 r2 m2
      rw [Bool.and_eq_true, Bool.and_eq_true] at hk2
      have hbk := hk2.2.2
      have hs2 : shP h2 := shP_of (w := r2.2.2.2) hk2.2.1 d1
      unfold nBk at hbk
      have hu : rHr h2 (ρ ++ [(f 0).toInt] ++ ex1 ++ ex2) (nUn r2.2.2.1, r2.2.2.2) h2 := rHr_un (w := r2.2.2.2) d1
      obtain ⟨e, he⟩ := hρ
      obtain ⟨_, zs, z1, z2⟩ := rBack_ok (c0 := h2) (s := (r2.1, 23, nLc5, [], (nUn r2.2.2.1, r2.2.2.2))) (c := (23, nT, nLp, 8)) (lc := lcc) (hc := h2) (ρh := ρh) o2 (rEv_ext _ (rEv_ext _ (rEv_ext _ hlc))) hu ⟨e ++ ([(f 0).toInt] ++ ex1 ++ ex2), by rw [he]; simp only [List.append_assoc]⟩ (by rw [hρl]; decide) hρl hbk
      exact ⟨hs, v1, h1, v2, h2, b2, d2, b3, d3, b4, d4, hs1, hs2, zs, z1, z2⟩
end TX
