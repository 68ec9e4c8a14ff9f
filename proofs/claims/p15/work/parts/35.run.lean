/-! A RUN IS SOUND -/
def rAns (c0 : mH) (ρ0 : List Int) (O : List rR) (E : Nat → Nat → mL → List Value → mH → Option (mO × mH)) (pc : Nat) (lc : mL) (stc : List Value) (hc : mH) : Prop := ∃ r ∈ O, ∃ ex, rOk (ρ0 ++ ex) r.1 ∧ ∃ oc hc', rOut (ρ0 ++ ex) r.2.1 oc hc' ∧ rHr c0 (ρ0 ++ ex) r.2.2 hc' ∧ ∃ n, E n pc lc stc hc = some (oc, hc')
theorem rAns.back {c0 : mH} {ρ0 : List Int} {O : List rR} {E : Nat → Nat → mL → List Value → mH → Option (mO × mH)} {pc pc' : Nat} {lc lc' : mL} {stc stc' : List Value} {hc hc' : mH} (h : rAns c0 ρ0 O E pc' lc' stc' hc') (hb : ∀ r, (∃ n, E n pc' lc' stc' hc' = some r) → ∃ n, E n pc lc stc hc = some r) : rAns c0 ρ0 O E pc lc stc hc := by
  obtain ⟨r, r1, ex, r2, oc, h', r3, r4, r5⟩ := h
  exact ⟨r, r1, ex, r2, oc, h', r3, r4, hb _ r5⟩
/-- a state of the head's kind -/
def rRe (c0 : mH) (ρ : List Int) (t : rT) (lc : mL) (hc : mH) : Prop := (∃ l, rEv ρ t.2.2.1 = some l ∧ rSubl l lc) ∧ rHr c0 ρ t.2.2.2.2 hc
def rPo2 (c : rCx) (ρh zs : List Int) : Prop := rPg ρh (ρh.take c.2.2.2 ++ zs) c.2.2.1.2.2.1.2 c.2.2.2 zs (c.2.2.1.1.zip (c.2.1.1.drop c.2.2.2)) ∧ ∃ y z, ρh[c.2.2.2 + c.2.2.1.2.2.1.1]? = some y ∧ zs[c.2.2.1.2.2.1.1]? = some z ∧ y + c.2.2.1.2.2.1.2 ≤ z
def rK (c0 : mH) (ρ0 : List Int) (O : List rR) (E : Nat → Nat → mL → List Value → mH → Option (mO × mH)) (c : rCx) (ρh : List Int) : Prop := ρh.length = c.2.1.1.length ∧ ∀ zs lc hc, rRe c0 (ρh.take c.2.2.2 ++ zs) c.2.1 lc hc → rPo2 c ρh zs → rAns c0 ρ0 O E c.1 lc [] hc
theorem rMap_len {α β : Type} {f : α → Option β} : ∀ {l : List α} {m : List β}, rMap f l = some m → m.length = l.length
  | [], _, h => by cases h; rfl
  | a :: r, m, h => by
    unfold rMap at h
    split at h
    · cases h
    · split at h
      · cases h
      · rename_i l hl
        cases h
        rw [List.length_cons, List.length_cons, rMap_len hl]
theorem rAll_mem {α β : Type} {f : α → Option (List β)} : ∀ {l : List α} {m : List β} {x : α}, rAll f l = some m → x ∈ l → ∃ y, f x = some y ∧ ∀ r ∈ y, r ∈ m
  | [], _, _, _, hx => by cases hx
  | a :: r, m, x, h, hx => by
    unfold rAll at h
    split at h
    · cases h
    · rename_i b hb
      split at h
      · cases h
      · rename_i l hl
        cases h
        rcases List.mem_cons.mp hx with rfl | hx
        · exact ⟨b, hb, fun r hr => List.mem_append_left _ hr⟩
        · obtain ⟨y, y1, y2⟩ := rAll_mem hl hx
          exact ⟨y, y1, fun r hr => List.mem_append_right _ (y2 r hr)⟩
section RU2
variable {ρ : List Int} {c0 : mH}
theorem rSpl_ok {v : Value} {x : Int} (hv : rVal ρ v x) (h1 : rL0 ≤ x) (h2 : x ≤ rL1) : ∀ {ps : List Int} {fs : rF}, rOk ρ fs → ∃ g ∈ rSpl fs v ps, rOk ρ g
  | [], fs, hO => ⟨fs, List.mem_cons_self, hO⟩
  | p :: ps, fs, hO => by
    unfold rSpl
    by_cases hx : x ≤ p - 1
    · obtain ⟨g, g1, g2⟩ := rCut_ok hO hv h1 hx
      refine ⟨g, List.mem_append_left _ ?_, g2⟩
      rw [g1]
      exact List.mem_cons_self
    · obtain ⟨g, g1, g2⟩ := rCut_ok (lo := p) hO hv (by omega) h2
      obtain ⟨k, k1, k2⟩ := rSpl_ok hv h1 h2 (ps := ps) g2
      refine ⟨k, List.mem_append_right _ ?_, k2⟩
      rw [g1]
      exact k1
theorem rFd_ok {h : rH} {hc : mH} (hh : rHr c0 ρ h hc) {a b : Nat} {v : Value} (hv : rFd h.1 a b = some v) : ∃ c, rE ρ v = some c := by
  unfold rFd at hv
  split at hv
  · rename_i ci gs hcell
    obtain ⟨cc, c1, g, g1, g2⟩ := hh.2.1 _ _ hcell
    obtain ⟨c, -, c3⟩ := rEs_get g1 hv
    exact ⟨c, c3⟩
  · cases hv
theorem rAt_ok {s : rT} {lc : mL} {hc : mH} (hl : rEv ρ s.2.2.1 = some lc) (hh : rHr c0 ρ s.2.2.2.2 hc) {k a b : Nat} {v : Value} (hv : rAt s k a b = some v) : ∃ c, rE ρ v = some c := by
  unfold rAt at hv
  split at hv
  · exact rFd_ok hh hv
  · exact rFd_ok hh hv
  · exact rFd_ok hh hv
  · exact rFd_ok hh hv
  · cases hv
    obtain ⟨⟨x, x1, -⟩, -⟩ := hh
    exact ⟨_, x1⟩
  · obtain ⟨c, -, c2⟩ := rLd hl hv
    exact ⟨c, c2⟩
theorem rVi_of {v c : Value} (h : rE ρ v = some c) (hn : rNn v = true) : ∃ z, rVi ρ v = some z := by
  cases v with
  | float b =>
    rw [rE_f] at h
    unfold rVi
    dsimp only
    cases hq : ρ[rId b]? with
    | none => rw [hq] at h; cases h
    | some z => exact ⟨_, rfl⟩
  | double b =>
    rw [rE_d] at h
    show ∃ z, ρ[b.toNat]? = some z
    cases hq : ρ[b.toNat]? with
    | none => rw [hq] at h; cases h
    | some z => exact ⟨_, rfl⟩
  | retAddr b =>
    rw [rE_r] at h
    show ∃ z, ρ[b]? = some z
    cases hq : ρ[b]? with
    | none => rw [hq] at h; cases h
    | some z => exact ⟨_, rfl⟩
  | int x => exact ⟨_, rfl⟩
  | long x => exact ⟨_, rfl⟩
  | ref x => exact ⟨_, rfl⟩
  | null => cases hn
theorem rAts_ok {s : rT} {lc : mL} {hc : mH} (hl : rEv ρ s.2.2.1 = some lc) (hh : rHr c0 ρ s.2.2.2.2 hc) : ∀ {l : List rPl} {vs : List Value}, rAts s l = some vs → vs.all rNn = true → ∃ zs, rVs ρ vs = some zs
  | [], vs, h, _ => by cases h; exact ⟨[], rfl⟩
  | p :: ps, vs, h, hn => by
    unfold rAts rMap at h
    split at h
    · cases h
    · rename_i v hv
      split at h
      · cases h
      · rename_i l hl2
        cases h
        rw [List.all_cons, Bool.and_eq_true] at hn
        obtain ⟨c, c1⟩ := rAt_ok hl hh hv
        obtain ⟨z, z1⟩ := rVi_of c1 hn.1
        obtain ⟨zs, zs1⟩ := rAts_ok hl hh (l := ps) (vs := l) hl2 hn.2
        exact ⟨z :: zs, by unfold rVs; rw [z1, zs1]⟩
/-- a state that fits the head is of its kind -/
theorem rFits_ok {s t : rT} {lc : mL} {hc : mH} {n : Nat} {vs : List Value} {zs : List Int} (hO : rOk ρ s.1) (hl : rEv ρ s.2.2.1 = some lc) (hh : rHr c0 ρ s.2.2.2.2 hc) (hn : n ≤ ρ.length) (hz : rVs ρ vs = some zs) (h : rFits s t n vs = true) : rRe c0 (ρ.take n ++ zs) t lc hc := by
  unfold rFits at h
  simp only [Bool.and_eq_true] at h
  obtain ⟨⟨⟨⟨-, -⟩, h1⟩, h2⟩, h3⟩ := h
  obtain ⟨l, l1, l2⟩ := rMl_ok hO hn hz hl h1
  exact ⟨⟨l, l1, l2⟩, rMh_ok hO hn hz h3 h2 hh⟩
theorem rCxf_ok : ∀ {cx : List rCx} {pc : Nat} {c : rCx}, rCxf cx pc = some c → c ∈ cx ∧ c.1 = pc
  | [], _, _, h => by cases h
  | x :: r, pc, c, h => by
    unfold rCxf at h
    split at h
    · rename_i e
      cases h
      exact ⟨List.mem_cons_self, e⟩
    · obtain ⟨h1, h2⟩ := rCxf_ok h
      exact ⟨List.mem_cons_of_mem _ h1, h2⟩
theorem rBack_ok {s : rT} {c : rCx} {lc : mL} {hc : mH} {ρh : List Int} (hO : rOk ρ s.1) (hl : rEv ρ s.2.2.1 = some lc) (hh : rHr c0 ρ s.2.2.2.2 hc) (hp : ∃ e, ρ = ρh ++ e) (hn : c.2.2.2 ≤ ρh.length) (hlen : ρh.length = c.2.1.1.length) (h : rBack c s = true) : s.2.2.2.1 = [] ∧ ∃ zs, rRe c0 (ρh.take c.2.2.2 ++ zs) c.2.1 lc hc ∧ rPo2 c ρh zs := by
  unfold rBack at h
  split at h
  · rename_i vs hvs
    simp only [Bool.and_eq_true] at h
    obtain ⟨⟨h1, h2⟩, h3⟩ := h
    have h1' := h1
    unfold rFits at h1'
    simp only [Bool.and_eq_true] at h1'
    obtain ⟨zs, hz⟩ := rAts_ok hl hh hvs h1'.1.1.1.2
    have hn' : c.2.2.2 ≤ ρ.length := by
      obtain ⟨e, rfl⟩ := hp
      rw [List.length_append]
      omega
    have et : ρ.take c.2.2.2 = ρh.take c.2.2.2 := by
      obtain ⟨e, rfl⟩ := hp
      rw [List.take_append_of_le_length hn]
    refine ⟨by simpa using h1'.1.1.1.1, zs, ?_, ?_, ?_⟩
    · rw [← et]
      exact rFits_ok hO hl hh hn' hz h1
    · rw [← et]
      refine rIn1_ok hO hn' hz hp ?_ hz h2
      rw [List.length_zip, List.length_drop]
      omega
    · split at h3
      · rename_i v hv
        obtain ⟨z, z1, z2⟩ := rVs_get hz hv
        unfold rUpr at h3
        split at h3
        · rename_i b
          obtain ⟨y, y1, rfl⟩ := rVi_f z2
          obtain ⟨w, w1, w2⟩ := rGe_ok hO 8 h3 y1
          refine ⟨w, _, ?_, z1, w2⟩
          obtain ⟨e, rfl⟩ := hp
          by_cases hi : c.2.2.2 + c.2.2.1.2.2.1.1 < ρh.length
          · rw [List.getElem?_append_left hi] at w1
            exact w1
          · exfalso
            have hv1 : c.2.2.1.2.2.1.1 < vs.length := (List.getElem?_eq_some_iff.mp hv).1
            have e1 := rMap_len hvs
            have e2 : rPg ρh (List.take c.2.2.2 (ρh ++ e) ++ zs) c.2.2.1.2.2.1.2 c.2.2.2 zs (c.2.2.1.1.zip (c.2.1.1.drop c.2.2.2)) := rIn1_ok hO hn' hz ⟨e, rfl⟩ (by rw [List.length_zip, List.length_drop]; omega) hz h2
            have e3 := rPg_len e2
            rw [List.length_zip, List.length_drop] at e3
            have e4 := rVs_len hz
            omega
        · cases h3
      · cases h3
  · cases h
end RU2
