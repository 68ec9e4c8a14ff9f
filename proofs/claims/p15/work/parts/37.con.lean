/-! CONTRACTS: what the use of one needs -/
section CON
variable {ρ : List Int} {fs : rF}
theorem rRa_vi (hO : rOk ρ fs) {v : Value} {q : Int × Int} (h : rRa fs v = some q) : ∃ z, rVi ρ v = some z := by
  unfold rRa at h
  split at h
  · exact rRg_vi hO h
  · exact rRg_vi hO h
  · exact ⟨_, rfl⟩
  · rename_i b
    unfold rRl at h
    dsimp only at h
    split at h
    · rename_i p hp
      obtain ⟨y, y1, -⟩ := hO.2.1 _ _ hp
      exact ⟨y, y1⟩
    · cases h
  · exact ⟨_, rfl⟩
  · obtain ⟨y, y1, -⟩ := hO.2.1 _ _ h
    exact ⟨y, y1⟩
  · cases h
theorem rIl_ra {n : Nat} {σ : List Value} {v : Value} {l : Int} (h : rIl fs n σ v l = true) : ∃ q, rRa fs v = some q := by
  unfold rIl at h
  split at h
  · simp only [Bool.and_eq_true] at h
    have h3 := h.2.2
    split at h3
    · rename_i p hp
      exact ⟨p, hp⟩
    · cases h3
  · split at h
    · rename_i p hp
      exact ⟨p, hp⟩
    · cases h
theorem rIr_vs (hO : rOk ρ fs) {n : Nat} {σ : List Value} : ∀ {vs : List Value} {qs : rF}, rIr fs n σ vs qs = true → ∃ ws, rVs ρ vs = some ws
  | [], [], _ => ⟨[], rfl⟩
  | v :: vs, q :: qs, h => by
    unfold rIr at h
    simp only [Bool.and_eq_true] at h
    obtain ⟨p, hp⟩ := rIl_ra h.1.1
    obtain ⟨z, z1⟩ := rRa_vi hO hp
    obtain ⟨ws, w1⟩ := rIr_vs hO h.2
    exact ⟨z :: ws, by unfold rVs; rw [z1, w1]⟩
  | [], _ :: _, h => by cases h
  | _ :: _, [], h => by cases h
theorem rIr_len {n : Nat} {σ : List Value} : ∀ {vs : List Value} {qs : rF}, rIr fs n σ vs qs = true → vs.length = qs.length
  | [], [], _ => rfl
  | v :: vs, q :: qs, h => by
    unfold rIr at h
    simp only [Bool.and_eq_true] at h
    rw [List.length_cons, List.length_cons, rIr_len h.2]
  | [], _ :: _, h => by cases h
  | _ :: _, [], h => by cases h
theorem rIr_ok (hO : rOk ρ fs) {n : Nat} {σ : List Value} {zs : List Int} (hn : n ≤ ρ.length) (hz : rVs ρ σ = some zs) : ∀ {vs : List Value} {qs : rF} {ws : List Int} {i : Nat} {z : Int} {q : Int × Int}, rIr fs n σ vs qs = true → rVs ρ vs = some ws → ws[i]? = some z → qs[i]? = some q → q.1 ≤ z ∧ z ≤ q.2 ∧ rCd (ρ.take n ++ zs) q z
  | [], _, ws, _, _, _, _, hw, h, _ => by cases hw; cases h
  | _ :: _, [], _, _, _, _, h, _, _, _ => by cases h
  | v :: vs, q :: qs, ws, i, z, p, h, hw, h1, h2 => by
    obtain ⟨y, l, y1, y2, rfl⟩ := rVs_cons hw
    unfold rIr at h
    simp only [Bool.and_eq_true] at h
    cases i with
    | zero =>
      cases h1
      cases h2
      obtain ⟨l1, l2⟩ := rIl_ok hO hn hz y1 h.1.1
      obtain ⟨u1, u2⟩ := rIu_ok hO hn hz y1 h.1.2
      exact ⟨l1, u1, l2, u2⟩
    | succ i =>
      rw [List.getElem?_cons_succ] at h1 h2
      exact rIr_ok hO hn hz h.2 y2 h1 h2
theorem rOk_nil : rOk [] [] := by
  refine ⟨rfl, fun i q h => ?_, fun i q z h => ?_⟩ <;> cases h
theorem rVi_ext {v : Value} {z : Int} (e : List Int) (h : rVi ρ v = some z) : rVi (ρ ++ e) v = some z := by
  have key : ∀ {i : Nat} {z : Int}, ρ[i]? = some z → (ρ ++ e)[i]? = some z := fun h => by
    rw [List.getElem?_append_left (List.getElem?_eq_some_iff.mp h).1]
    exact h
  cases v with
  | float b =>
    obtain ⟨y, y1, rfl⟩ := rVi_f h
    unfold rVi
    dsimp only
    rw [key y1]
    rfl
  | double b => exact key h
  | retAddr b => exact key h
  | int x => exact h
  | long x => exact h
  | ref x => exact h
  | null => exact h
theorem rVs_ext (e : List Int) : ∀ {vs : List Value} {zs : List Int}, rVs ρ vs = some zs → rVs (ρ ++ e) vs = some zs
  | [], _, h => h
  | v :: vs, zs, h => by
    obtain ⟨z, l, h1, h2, rfl⟩ := rVs_cons h
    unfold rVs
    rw [rVi_ext e h1, rVs_ext e h2]
theorem rVs_app : ∀ {a b : List Value} {x y : List Int}, rVs ρ a = some x → rVs ρ b = some y → rVs ρ (a ++ b) = some (x ++ y)
  | [], b, x, y, h1, h2 => by cases h1; exact h2
  | v :: r, b, x, y, h1, h2 => by
    obtain ⟨z, l, e1, e2, rfl⟩ := rVs_cons h1
    show rVs ρ (v :: (r ++ b)) = _
    unfold rVs
    rw [e1, rVs_app e2 h2]
    rfl
theorem rNw_ok : ∀ {ext : List (Nat × Int × Int)} {pre ex : List Int}, ex.length = ext.length → pre.length + ext.length < 65536 → rVs (pre ++ ex) (rNw pre.length ext) = some ex
  | [], pre, [], _, _ => rfl
  | e :: ext, pre, x :: ex, h, hl => by
    rw [List.length_cons] at hl
    have hx : (pre ++ x :: ex)[pre.length]? = some x := by rw [List.getElem?_append_right (Nat.le_refl _), Nat.sub_self]; rfl
    have ih := rNw_ok (ext := ext) (pre := pre ++ [x]) (ex := ex) (by rw [List.length_cons, List.length_cons] at h; omega) (by rw [List.length_append]; show pre.length + 1 + ext.length < 65536; omega)
    rw [List.append_assoc, List.length_append] at ih
    have hv : rVi (pre ++ x :: ex) (rNk e.1 pre.length) = some x := by
      unfold rNk
      split
      · obtain ⟨b, e1, e2, e3⟩ := rMk_id' (id := pre.length) (off := 0) (by omega) (by omega) (by omega)
        rw [e1]
        unfold rVi
        dsimp only
        rw [e2, e3, hx]
        show some (x + 0) = _
        rw [Int.add_zero]
      · show (pre ++ x :: ex)[(UInt64.ofNat pre.length).toNat]? = some x
        rw [UInt64.toNat_ofNat', Nat.mod_eq_of_lt (by omega)]
        exact hx
      · exact hx
    unfold rNw rVs
    rw [hv]
    have ih' : rVs (pre ++ x :: ex) (rNw (pre.length + 1) ext) = some ex := ih
    rw [ih']
  | [], _, _ :: _, h, _ => by cases h
  | _ :: _, _, [], h, _ => by cases h
theorem rVal_vi {v : Value} {x : Int} (h : rVi ρ v = some x) : rVal ρ v x := by
  cases v with
  | float b => exact rVi_f h
  | double b => exact h
  | _ => trivial
theorem rCs_ok {σ : List Value} {zs : List Int} (hz : rVs ρ σ = some zs) : ∀ {cs : List (Nat × Int × Int)} {fs : rF}, rOk ρ fs → (∀ e ∈ cs, ∃ z, zs[e.1]? = some z ∧ e.2.1 ≤ z ∧ z ≤ e.2.2) → ∃ g, rCs σ cs fs = some g ∧ rOk ρ g
  | [], fs, hO, _ => ⟨fs, rfl, hO⟩
  | e :: cs, fs, hO, h => by
    unfold rCs
    obtain ⟨z, z1, z2, z3⟩ := h e List.mem_cons_self
    split
    · rename_i v hv
      obtain ⟨y, y1, y2⟩ := rVs_get hz hv
      rw [z1] at y1
      cases y1
      obtain ⟨g, g1, g2⟩ := rCut_ok hO (rVal_vi y2) z2 z3
      rw [g1]
      exact rCs_ok hz g2 (fun e he => h e (List.mem_cons_of_mem _ he))
    · exact rCs_ok hz hO (fun e he => h e (List.mem_cons_of_mem _ he))
theorem rRg_i0 {v : Value} {q : Int × Int} (hq : rRg fs v = some q) : rI0 ≤ q.1 := by
  unfold rRg at hq
  split at hq
  · cases hq; exact Int32.le_toInt _
  · split at hq
    · split at hq
      · rename_i hb
        cases hq
        exact hb.1
      · cases hq
    · cases hq
  · cases hq
/-- bounds by the caller's numbers -/
theorem rTb_ok (hO : rOk ρ fs) {σ : List Value} {zs ex : List Int} (hz : rVs ρ σ = some zs) (hr : ∀ b, .float b ∈ σ → (rRg fs (.float b)).isSome = true) {l l' z : Int} (h : rTb σ l = some l') (h1 : l ≤ z) (h2 : ∀ j c, rCl l = some (j, c) → ∃ y, (zs ++ ex)[j]? = some y ∧ y + c ≤ z) : l' ≤ z ∧ ∀ j c, rCl l' = some (j, c) → ∃ y, (ρ ++ ex)[j]? = some y ∧ y + c ≤ z := by
  unfold rTb at h
  split at h
  · rename_i hn
    cases h
    exact ⟨h1, fun j c k => by rw [hn] at k; cases k⟩
  · rename_i jc hj
    obtain ⟨y, y1, y2⟩ := h2 jc.1 jc.2 hj
    have hb : -500000 ≤ jc.2 := by
      unfold rCl at hj
      split at hj
      · cases hj
        dsimp only
        omega
      · cases hj
    have at0 : ∀ {v : Value}, σ[jc.1]? = some v → rVi ρ v = some y := fun {v} hv => by
      obtain ⟨w, w1, w2⟩ := rVs_get hz hv
      rw [List.getElem?_append_left (List.getElem?_eq_some_iff.mp w1).1, w1] at y1
      cases y1
      exact w2
    split at h
    · rename_i x hx
      cases h
      have := at0 hx
      cases this
      have := Int32.le_toInt x
      have e : Int32.minValue.toInt = -2147483648 := rfl
      refine ⟨y2, fun j c k => (rCl_no ?_ j c k).elim⟩
      have h3 : -2147483648 ≤ x.toInt := this
      omega
    · rename_i b hx
      split at h
      · rename_i hc
        cases h
        obtain ⟨w, w1, rfl⟩ := rVi_f (at0 hx)
        have ob := rOf_rng b
        have bb := rVi_rg hO (hr b (List.mem_of_getElem? hx)) (at0 hx)
        refine ⟨by unfold rKl'; omega, fun j c k => ?_⟩
        rw [rCl_k (by omega) (by omega)] at k
        cases k
        refine ⟨w, ?_, by omega⟩
        rw [List.getElem?_append_left (List.getElem?_eq_some_iff.mp w1).1]
        exact w1
      · cases h
    · cases h
theorem rTu_ok (hO : rOk ρ fs) {σ : List Value} {zs ex : List Int} (hz : rVs ρ σ = some zs) (hr : ∀ b, .float b ∈ σ → (rRg fs (.float b)).isSome = true) {l l' z : Int} (h : rTu σ l = some l') (h1 : z ≤ l) (h2 : ∀ j c, rCu l = some (j, c) → ∃ y, (zs ++ ex)[j]? = some y ∧ z ≤ y + c) : z ≤ l' ∧ ∀ j c, rCu l' = some (j, c) → ∃ y, (ρ ++ ex)[j]? = some y ∧ z ≤ y + c := by
  unfold rTu at h
  split at h
  · rename_i hn
    cases h
    exact ⟨h1, fun j c k => by rw [hn] at k; cases k⟩
  · rename_i jc hj
    obtain ⟨y, y1, y2⟩ := h2 jc.1 jc.2 hj
    have hb : jc.2 < 500000 := by
      unfold rCu at hj
      split at hj
      · cases hj
        dsimp only
        omega
      · cases hj
    have at0 : ∀ {v : Value}, σ[jc.1]? = some v → rVi ρ v = some y := fun {v} hv => by
      obtain ⟨w, w1, w2⟩ := rVs_get hz hv
      rw [List.getElem?_append_left (List.getElem?_eq_some_iff.mp w1).1, w1] at y1
      cases y1
      exact w2
    split at h
    · rename_i x hx
      cases h
      have := at0 hx
      cases this
      have h3 : x.toInt ≤ 2147483647 := Int32.toInt_le x
      exact ⟨y2, fun j c k => (rCu_no (by omega) j c k).elim⟩
    · rename_i b hx
      split at h
      · rename_i hc
        cases h
        obtain ⟨w, w1, rfl⟩ := rVi_f (at0 hx)
        have ob := rOf_rng b
        have bb := rVi_rg hO (hr b (List.mem_of_getElem? hx)) (at0 hx)
        refine ⟨by unfold rKu'; omega, fun j c k => ?_⟩
        rw [rCu_k (by omega) (by omega)] at k
        cases k
        refine ⟨w, ?_, by omega⟩
        rw [List.getElem?_append_left (List.getElem?_eq_some_iff.mp w1).1]
        exact w1
      · cases h
    · cases h
theorem rIr_fl {n : Nat} {σ : List Value} : ∀ {vs : List Value} {qs : rF}, rIr fs n σ vs qs = true → ∀ b, Value.float b ∈ vs → (rRg fs (.float b)).isSome = true
  | [], _, _, b, hb => by cases hb
  | _ :: _, [], h, _, _ => by cases h
  | v :: vs, q :: qs, h, b, hb => by
    unfold rIr at h
    simp only [Bool.and_eq_true] at h
    rcases List.mem_cons.mp hb with rfl | hb
    · obtain ⟨p, hp⟩ := rIl_ra h.1.1
      have hp : rRg fs (.float b) = some p := hp
      rw [hp]
      rfl
    · exact rIr_fl h.2 b hb
end CON
/-! the heap after a call -/
section SIM
variable {A B : List Int}
/-- two cells that tell the same: one by the numbers A, the other by B -/
def rSc (A B : List Int) (x y : rC) : Prop := (x = none ∧ y = none) ∨ (∃ a, x = some (.inl a) ∧ y = some (.inl a)) ∨ ∃ ci ps vs, x = some (.inr (ci, ps)) ∧ y = some (.inr (ci, vs)) ∧ ps.length = vs.length ∧ ∀ (i : Nat) (p v : Value), ps[i]? = some p → vs[i]? = some v → rE A p = rE B v
def rSim (A B : List Int) (a b : List rC) : Prop := ∀ (i : Nat) (x : (Nat × Nat × Int × Int) ⊕ (Nat × List Value)), rGt a i = some (some x) → ∃ y, rGt b i = some y ∧ rSc A B (some x) y
theorem rEs_eq : ∀ {ps vs : List Value}, ps.length = vs.length → (∀ (i : Nat) (p v : Value), ps[i]? = some p → vs[i]? = some v → rE A p = rE B v) → rEs A ps = rEs B vs
  | [], [], _, _ => rfl
  | p :: ps, v :: vs, hl, h => by
    unfold rEs
    rw [h 0 p v rfl rfl, rEs_eq (by rw [List.length_cons, List.length_cons] at hl; omega) (fun i p' v' h1 h2 => h (i + 1) p' v' h1 h2)]
  | [], _ :: _, h, _ => by cases h
  | _ :: _, [], h, _ => by cases h
theorem rSc.cr {x y : rC} (h : rSc A B x y) {c : mC} (hc : rCr A x c) : rCr B y c := by
  rcases h with ⟨rfl, rfl⟩ | ⟨a, rfl, rfl⟩ | ⟨ci, ps, vs, rfl, rfl, hl, he⟩
  · trivial
  · exact hc
  · obtain ⟨g, g1, g2⟩ := hc
    exact ⟨g, by rw [← rEs_eq hl he]; exact g1, g2⟩
theorem rGt_lt {l : List rC} {i : Nat} {x : rC} (h : rGt l i = some x) : rX' i < l.length := (List.getElem?_eq_some_iff.mp h).1
theorem rMd_ok {ρ2 zx : List Int} {σ2 : List Value} (hz : rVs ρ2 σ2 = some zx) : ∀ {ms : List (Nat × Nat × Value)} {a b b' : List rC}, (∀ m ∈ ms, ∃ q, rGt a m.1 = some (some (.inr q))) → rSim zx ρ2 a b → rMd σ2 ms b = some b' → rSim zx ρ2 (rMr ms a) b' ∧ (∀ i, rNo a i → rGt b' i = rGt b i ∧ rNo (rMr ms a) i) ∧ (∀ i, ¬ rNo a i → ¬ rNo (rMr ms a) i) ∧ b'.length = b.length
  | [], a, b, b', _, h, hb => by cases hb; exact ⟨h, fun i hi => ⟨rfl, hi⟩, fun i hi => hi, rfl⟩
  | m :: ms, a, b, b', hk, h, hb => by
    unfold rMd at hb
    split at hb
    · rename_i ci gs w hcell hw
      obtain ⟨⟨c2, ps⟩, ha⟩ := hk m List.mem_cons_self
      obtain ⟨y, y1, y2⟩ := h m.1 _ ha
      rw [hcell] at y1
      cases y1
      rcases y2 with ⟨e, -⟩ | ⟨q, e, -⟩ | ⟨c3, ps', vs, e1, e2, hl, he⟩
      · cases e
      · cases e
      cases e1
      cases e2
      have la := rGt_lt ha
      have lb := rGt_lt hcell
      have er : rMr (m :: ms) a = rMr ms (a.set (rX' m.1) (some (.inr (ci, ps.set m.2.1 m.2.2)))) := by
        rw [rMr, ha]
      have hno : ∀ i, rNo (a.set (rX' m.1) (some (.inr (ci, ps.set m.2.1 m.2.2)))) i ↔ rNo a i := fun i => by
        unfold rNo
        rw [rGt_set]
        by_cases hi : m.1 = i
        · subst hi
          rw [if_pos rfl, if_pos la, ha]
          exact ⟨fun k => (by rcases k with k | k <;> cases k), fun k => (by rcases k with k | k <;> cases k)⟩
        · rw [if_neg hi]
      have hs1 : rSim zx ρ2 (a.set (rX' m.1) (some (.inr (ci, ps.set m.2.1 m.2.2)))) (b.set (rX' m.1) (some (.inr (ci, gs.set m.2.1 w)))) := fun i x hx => by
        rw [rGt_set] at hx ⊢
        by_cases hi : m.1 = i
        · subst hi
          rw [if_pos rfl, if_pos la] at hx
          cases hx
          rw [if_pos rfl, if_pos lb]
          refine ⟨_, rfl, Or.inr (Or.inr ⟨ci, _, _, rfl, rfl, by rw [List.length_set, List.length_set]; exact hl, fun i p v hp hv => ?_⟩)⟩
          rw [List.getElem?_set] at hp hv
          split at hp
          · rename_i e
            rw [if_pos e] at hv
            split at hp
            · rename_i hlt
              cases hp
              rw [if_pos (by rw [← hl]; exact hlt)] at hv
              cases hv
              have := rSu_ok (ρ := ρ2) (n := 0) (Nat.zero_le _) hz hw
              rw [List.take_zero, List.nil_append] at this
              exact this
            · cases hp
          · rename_i e
            rw [if_neg e] at hv
            exact he i p v hp hv
        · rw [if_neg hi] at hx ⊢
          exact h i x hx
      have hk1 : ∀ m' ∈ ms, ∃ q, rGt (a.set (rX' m.1) (some (.inr (ci, ps.set m.2.1 m.2.2)))) m'.1 = some (some (.inr q)) := fun m' hm' => by
        rw [rGt_set]
        by_cases hi : m.1 = m'.1
        · rw [if_pos hi, if_pos la]
          exact ⟨_, rfl⟩
        · rw [if_neg hi]
          exact hk m' (List.mem_cons_of_mem _ hm')
      obtain ⟨r1, r2, r3, r4⟩ := rMd_ok hz hk1 hs1 hb
      rw [er]
      refine ⟨r1, fun i hi => ?_, fun i hi => r3 i (fun k => hi ((hno i).mp k)), by rw [r4, List.length_set]⟩
      obtain ⟨q1, q2⟩ := r2 i ((hno i).mpr hi)
      refine ⟨?_, q2⟩
      rw [q1, rGt_set, if_neg]
      intro e
      subst e
      rcases hi with hi | hi <;> rw [ha] at hi <;> cases hi
    · cases hb
/-- the heap after the call, told by the caller's numbers -/
theorem rSim.hr {c0 hc hc' : mH} {ρ : List Int} {ex : List Int} {zx : List Int} {a a' b b' : List rC} {t0 t u : Value} (h : rSim zx (ρ ++ ex) a' b') (hno : ∀ i, rNo a i → rGt b' i = rGt b i ∧ rNo a' i) (hyes : ∀ i, ¬ rNo a i → ¬ rNo a' i) (hlen : b'.length = b.length) (hp : rHr c0 ρ (b, t0) hc) (ht : rE zx t = rE (ρ ++ ex) u) (hh : rHr hc zx (a', t) hc') : rHr c0 (ρ ++ ex) (b', u) hc' := by
  obtain ⟨⟨x, x1, x2, x3⟩, h2, h3, h4⟩ := hh
  obtain ⟨-, p2, p3, p4⟩ := hp
  dsimp only at x1 h2 h3 h4 p2 p3 p4
  refine ⟨⟨x, by dsimp only; rw [← ht]; exact x1, x2, x3⟩, fun i y hy => ?_, fun i hi hn => ?_, by dsimp only; rw [hlen]; exact p4⟩
  · dsimp only at hy
    have hi206 : i < 206 := rX_lt (by rw [hlen]; exact p4) hy
    by_cases hn : rNo a i
    · obtain ⟨q1, q2⟩ := hno i hn
      rw [q1] at hy
      obtain ⟨c, c1, c2⟩ := p2 i y hy
      exact ⟨c, by rw [h3 i hi206 q2]; exact c1, rCr_ext ex c2⟩
    · have hn' := hyes i hn
      cases hx : rGt a' i with
      | none => exact (hn' (Or.inl hx)).elim
      | some z =>
        cases z with
        | none => exact (hn' (Or.inr hx)).elim
        | some z =>
          obtain ⟨y', y1, y2⟩ := h i z hx
          rw [hy] at y1
          cases y1
          obtain ⟨c, c1, c2⟩ := h2 i _ hx
          exact ⟨c, c1, y2.cr c2⟩
  · dsimp only at hn
    by_cases hna : rNo a i
    · obtain ⟨q1, q2⟩ := hno i hna
      rw [h3 i hi q2]
      refine p3 i hi ?_
      unfold rNo at hn ⊢
      rw [q1] at hn
      exact hn
    · exfalso
      have hn' := hyes i hna
      cases hx : rGt a' i with
      | none => exact hn' (Or.inl hx)
      | some z =>
        cases z with
        | none => exact hn' (Or.inr hx)
        | some z =>
          obtain ⟨y', y1, y2⟩ := h i z hx
          rcases hn with hn | hn
          · rw [hn] at y1; cases y1
          · rw [hn] at y1
            cases y1
            rcases y2 with ⟨e, -⟩ | ⟨q, -, e⟩ | ⟨c3, ps', vs, -, e2, -, -⟩
            · cases e
            · cases e
            · cases e2
end SIM
theorem rMv_len {fs : rF} {n : Nat} {σ : List Value} : ∀ {ps vs : List Value}, rMv fs n σ ps vs = true → ps.length = vs.length
  | [], [], _ => rfl
  | p :: ps, v :: vs, h => by
    unfold rMv at h
    rw [Bool.and_eq_true] at h
    rw [List.length_cons, List.length_cons, rMv_len h.2]
  | [], _ :: _, h => by cases h
  | _ :: _, [], h => by cases h
theorem rMv_get {fs : rF} {n : Nat} {σ : List Value} : ∀ {ps vs : List Value} {i : Nat} {p v : Value}, rMv fs n σ ps vs = true → ps[i]? = some p → vs[i]? = some v → ∃ w, rSu n σ p = some w ∧ rQ fs w v = true
  | [], _, _, _, _, _, h, _ => by cases h
  | _ :: _, [], _, _, _, h, _, _ => by cases h
  | p :: ps, v :: vs, i, p', v', h, h1, h2 => by
    unfold rMv at h
    rw [Bool.and_eq_true] at h
    cases i with
    | zero =>
      cases h1
      cases h2
      have hp := h.1
      split at hp
      · rename_i w hw
        exact ⟨w, hw, hp⟩
      · cases hp
    | succ i =>
      rw [List.getElem?_cons_succ] at h1 h2
      exact rMv_get h.2 h1 h2
/-- what matches tells the same, also later -/
theorem rMq_sl {ρ : List Int} {fs : rF} (hO : rOk ρ fs) {c0 : mH} {σ : List Value} {zs : List Int} (hz : rVs ρ σ = some zs) {a b : rH} (h : rMq fs σ a.1 b.1 = true) {hc : mH} (hb : rHr c0 ρ b hc) (ex : List Int) : rSim (zs ++ ex) (ρ ++ ex) a.1 b.1 := by
  intro i x hx
  obtain ⟨y, y1, y2⟩ := rMq_get h hx
  refine ⟨y, y1, ?_⟩
  unfold rMc at y2
  split at y2
  · rename_i e; cases e
  · rename_i k m l u k' m' l' u' e
    injection e with e
    subst e
    simp only [Bool.and_eq_true, beq_iff_eq, decide_eq_true_eq] at y2
    obtain ⟨⟨⟨rfl, rfl⟩, rfl⟩, rfl⟩ := y2
    exact Or.inr (Or.inl ⟨_, rfl, rfl⟩)
  · rename_i ci ps d vs e
    injection e with e
    subst e
    rw [Bool.and_eq_true, beq_iff_eq] at y2
    obtain ⟨rfl, y2⟩ := y2
    obtain ⟨c, c1, g, g1, g2⟩ := hb.2.1 _ _ y1
    refine Or.inr (Or.inr ⟨_, _, _, rfl, rfl, rMv_len y2, fun j p v hp hv => ?_⟩)
    obtain ⟨w, w1, w2⟩ := rMv_get y2 hp hv
    obtain ⟨cc, c3, c4⟩ := rEs_get g1 hv
    have e1 := rSu_ok (ρ := ρ) (n := 0) (Nat.zero_le _) hz w1
    rw [List.take_zero, List.nil_append, rQ_ok' hO w2 c4] at e1
    rw [rE_ext ex e1, rE_ext ex c4]
  · cases y2
