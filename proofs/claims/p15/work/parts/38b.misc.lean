/-! THE HOOKS THAT CHANGE NOTHING -/
theorem rFr_ok {ρ : List Int} {fs : rF} (hO : rOk ρ fs) (hn : fs.length < 60000) (x : Int32) : rOk (ρ ++ [x.toInt]) (fs ++ [(rI0, rI1)]) ∧ rE (ρ ++ [x.toInt]) (rMk fs.length 0) = some (.int x) := by
  refine ⟨hO.push (Int32.le_toInt x) (Int32.toInt_le x) (by unfold rI0; omega) (by unfold rI1; omega), ?_⟩
  obtain ⟨b, e1, e2, e3⟩ := rMk_id (id := fs.length) (off := 0) hn (by omega) (by omega)
  rw [e1, rE_f, e2, e3, ← hO.1, List.getElem?_append_right (Nat.le_refl _), Nat.sub_self]
  show some (Value.int (Int32.ofInt (x.toInt + 0))) = _
  rw [Int.add_zero, Int32.ofInt_toInt]
theorem rMisc_ok {c0 : mH} {M W Wc Wf k : Nat} {s t : rT} {ρ : List Int} {lc : mL} {stc : List Value} {hc : mH} (h : rMisc M W Wc Wf k s = some t) (hO : rOk ρ s.1) (hl : rEv ρ s.2.2.1 = some lc) (hs : rEs ρ s.2.2.2.1 = some stc) (hh : rHr c0 ρ s.2.2.2.2 hc) : ∃ ex, rOk (ρ ++ ex) t.1 ∧ rEv (ρ ++ ex) t.2.2.1 = some lc ∧ rEs (ρ ++ ex) t.2.2.2.1 = some stc ∧ rHr c0 (ρ ++ ex) t.2.2.2.2 hc ∧ t.2.1 = s.2.1 := by
  have same : ∃ ex, rOk (ρ ++ ex) s.1 ∧ rEv (ρ ++ ex) s.2.2.1 = some lc ∧ rEs (ρ ++ ex) s.2.2.2.1 = some stc ∧ rHr c0 (ρ ++ ex) s.2.2.2.2 hc ∧ s.2.1 = s.2.1 := ⟨[], by rw [List.append_nil]; exact ⟨hO, hl, hs, hh, rfl⟩⟩
  unfold rMisc at h
  split at h
  · split at h
    · rename_i a1 a2 i2 v2 i3 v3 hcell
      cases h
      obtain ⟨cc, c1, gs, g1, g2⟩ := hh.2.1 _ _ hcell
      obtain ⟨f, f1, f2⟩ := rOb_0 g2
      obtain ⟨a', b', c', d', e', k', ha, hb, hcx, hdx, hex, hkx, rfl⟩ := rEs_6 g1
      obtain ⟨j1, w1, j2, w2, j3, w3, rfl, rfl, rfl, rfl, rfl, rfl, m1, m2, m3⟩ := rMe_6 f2
      rw [f1] at c1
      have hob : rOb 1000 [.int j2, .int w2, .int j2, .int w2, .int j3, .int w3] (some (.inl (0, 240, .inl f))) := ⟨f, rfl, rMe_m m2 m2 m3⟩
      have hset := hh.set (a' := .inr (1000, [i2, v2, i2, v2, i3, v3])) (c := some (.inl (0, 240, .inl f))) M hcell ⟨_, rEs_mk hcx (rEs_mk hdx (rEs_mk hcx (rEs_mk hdx (rEs_mk hex (rEs_mk hkx rfl))))), hob⟩
      rw [rSet_same c1] at hset
      exact ⟨[], by rw [List.append_nil]; exact ⟨hO, hl, hs, hset, rfl⟩⟩
    · cases h
  · split at h
    · rename_i b v c hcell hfd
      split at h
      · cases h
        exact same
      · split at h
        · rename_i b' q w hb' hq hw
          split at h
          · rename_i hcond
            obtain ⟨e0, q0, q1, w60, hln⟩ := hcond
            cases h
            obtain ⟨cc, c1, gs, g1, g2⟩ := hh.2.1 _ _ hcell
            obtain ⟨f, bb, vv, rfl, f1, f2, f3, f4, f5⟩ := rOb_1 g2
            obtain ⟨b0, l1, hb, t1, e1⟩ := rEs_cons g1
            injection e1 with e1 e1'
            subst e1 e1'
            obtain ⟨v0, l2, hv, t2, e1⟩ := rEs_cons t1
            injection e1 with e1 e1'
            subst e1
            obtain ⟨x, x1, x2, x3, x4⟩ := rPlus_ok hO hb' hln hb
            have hcE := rEq_ok hO e0 x1
            obtain ⟨w', ew, w1, w2⟩ := rRg_ok hO hw hcE
            cases ew
            obtain ⟨v', ev, v1, v2⟩ := rRg_ok hO hq hv
            cases ev
            obtain ⟨o1, o2⟩ := rFr_ok hO hln (f x.toInt.toNat)
            rw [f1] at c1
            have hob : rOb 1001 [.int x, .int (f x.toInt.toNat)] (some (.inl (0, 60, .inl f))) := by
              refine ⟨f, x, f x.toInt.toNat, rfl, rfl, by omega, by omega, fun j hj => ?_, fun _ => rfl⟩
              by_cases hjb : (j : Int) < bb.toInt
              · exact f4 j hjb
              · have : j = bb.toInt.toNat := by omega
                rw [this, f5 (by omega)]
                omega
            have hset := (rHr_ext [(f x.toInt.toNat).toInt] hh).set (a' := .inr (1001, [c, rMk s.1.length 0])) (c := some (.inl (0, 60, .inl f))) W hcell ⟨_, rEs_mk (rE_ext _ hcE) (rEs_mk o2 rfl), hob⟩
            rw [rSet_same c1] at hset
            exact ⟨_, o1, rEv_ext _ hl, rEs_ext _ hs, hset, rfl⟩
          · cases h
            exact same
        · cases h
          exact same
    · cases h
      exact same
  · split at h
    · rename_i a b hcell
      split at h
      · cases h
      rename_i hln
      have hln : s.1.length < 60000 := by omega
      cases h
      obtain ⟨cc, c1, gs, g1, g2⟩ := hh.2.1 _ _ hcell
      obtain ⟨f, bb, vv, rfl, f1, f2, f3, f4, f5⟩ := rOb_1 g2
      obtain ⟨o1, o2⟩ := rFr_ok hO hln (f 0)
      rw [f1] at c1
      have z0 : (0 : Int32).toInt = 0 := rfl
      have hob : rOb 1001 [.int 0, .int (f 0)] (some (.inl (0, 60, .inl f))) := by
        refine ⟨f, 0, f 0, rfl, rfl, by rw [z0]; omega, by rw [z0]; omega, fun j hj => ?_, fun _ => rfl⟩
        rw [z0] at hj
        omega
      have hset := (rHr_ext [(f 0).toInt] hh).set (a' := .inr (1001, [.int 0, rMk s.1.length 0])) (c := some (.inl (0, 60, .inl f))) W hcell ⟨_, rEs_mk rfl (rEs_mk o2 rfl), hob⟩
      rw [rSet_same c1] at hset
      exact ⟨_, o1, rEv_ext _ hl, rEs_ext _ hs, hset, rfl⟩
    · cases h
  · cases h
theorem rHooks0 {k0 : Nat} {dflt : Nat → List Value} {P : Nat → Nat → Option mI} {Hn : Nat → List (Nat × Nat × Nat × Nat)} {mx : Nat → Nat} {M W Wc Wf : Nat} : rHooks k0 dflt P Hn mx (fun _ _ k s => rMisc M W Wc Wf k s) (fun _ _ _ _ => none) := by
  refine ⟨fun d d' call c0 _ _ mi k s t ρ lc stc hc h hO hl hs hh => ?_, fun d' c0 _ ρ ce as fs h rs asc hc hx => by cases hx⟩
  obtain ⟨ex, e1, e2, e3, e4, e5⟩ := rMisc_ok h hO hl hs hh
  exact ⟨ex, e1, lc, stc, hc, e2, e3, e4, fun r hr => by rw [e5] at hr; exact hr⟩
