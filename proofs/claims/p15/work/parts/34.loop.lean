/-! LOOPS: by the growing number -/
theorem rOk.app {ρ zs : List Int} {fs qs : rF} (hO : rOk ρ fs) (hl : zs.length = qs.length) (h : ∀ (i : Nat) (z : Int) (q : Int × Int), zs[i]? = some z → qs[i]? = some q → q.1 ≤ z ∧ z ≤ q.2 ∧ rCd (ρ ++ zs) q z) : rOk (ρ ++ zs) (fs ++ qs) := by
  refine ⟨by rw [List.length_append, List.length_append, hO.1, hl], fun i q hq => ?_, fun i q z hq hz => ?_⟩
  · rw [List.getElem?_append] at hq ⊢
    rw [hO.1]
    split at hq
    · rename_i hi
      rw [if_pos hi]
      exact hO.2.1 i q hq
    · rename_i hi
      rw [if_neg hi]
      have hlt : i - fs.length < zs.length := by rw [hl]; exact (List.getElem?_eq_some_iff.mp hq).1
      have := h _ _ _ (List.getElem?_eq_getElem hlt) hq
      exact ⟨_, List.getElem?_eq_getElem hlt, this.1, this.2.1⟩
  · rw [List.getElem?_append] at hq hz
    rw [hO.1] at hz
    split at hq
    · rename_i hi
      rw [if_pos hi] at hz
      exact (hO.2.2 i q z hq hz).ext _
    · rename_i hi
      rw [if_neg hi] at hz
      exact (h _ _ _ hz hq).2.2
theorem rBds_get : ∀ {vs : List Value} {ps : List rPl} {i : Nat} {q : Int × Int}, (rBds vs ps)[i]? = some q → ∃ v p, vs[i]? = some v ∧ ps[i]? = some p ∧ q = rBd v p
  | [], _, _, _, h => by cases h
  | v :: vs, [], _, _, h => by cases h
  | v :: vs, p :: ps, 0, q, h => by cases h; exact ⟨v, p, rfl, rfl, rfl⟩
  | v :: vs, p :: ps, i + 1, q, h => by
    obtain ⟨v', p', h1, h2, h3⟩ := rBds_get (vs := vs) (ps := ps) (i := i) h
    exact ⟨v', p', h1, h2, h3⟩
theorem rIv_get {ρ' : List Int} {w : Int} : ∀ {zs ve : List Int} {ps : List (rPl × (Int × Int))} {i : Nat} {z : Int}, rIv ρ' w zs ve ps → zs[i]? = some z → ∃ v p, ve[i]? = some v ∧ ps[i]? = some p ∧ (if p.1.2.2.2.2.2.1 = 2 then (p.2.1 ≤ z ∧ ∀ j c, rCl p.2.1 = some (j, c) → ∃ y, ρ'[j]? = some y ∧ y + c ≤ z) ∧ z ≤ v + p.1.2.2.2.2.2.2 * w else p.2.1 ≤ z ∧ z ≤ p.2.2 ∧ rCd ρ' p.2 z)
  | [], _, _, _, _, _, h => by cases h
  | z :: zs, v :: ve, p :: ps, 0, _, hi, h => by cases h; exact ⟨v, p, rfl, rfl, hi.1⟩
  | z :: zs, v :: ve, p :: ps, i + 1, _, hi, h => by
    obtain ⟨v', p', h1, h2, h3⟩ := rIv_get hi.2 (by rw [List.getElem?_cons_succ] at h; exact h)
    exact ⟨v', p', h1, h2, h3⟩
  | z :: zs, [], _, _, _, hi, _ => by cases hi
  | z :: zs, v :: ve, [], _, _, hi, _ => by cases hi
theorem rIv_len {ρ' : List Int} {w : Int} : ∀ {zs ve : List Int} {ps : List (rPl × (Int × Int))}, rIv ρ' w zs ve ps → zs.length = ps.length
  | [], [], [], _ => rfl
  | z :: zs, v :: ve, p :: ps, h => by rw [List.length_cons, List.length_cons, rIv_len h.2]
  | [], _ :: _, _, h => by cases h
  | [], [], _ :: _, h => by cases h
  | _ :: _, [], _, h => by cases h
  | _ :: _, _ :: _, [], h => by cases h
theorem rIn0_2 {fs : rF} {n : Nat} {σ : List Value} : ∀ {vs : List Value} {ps : List rPl} {i : Nat} {v : Value} {p : rPl}, rIn0 fs n σ vs ps = true → vs[i]? = some v → ps[i]? = some p → p.2.2.2.2.2.1 = 2 → (rRg fs v).isSome = true ∧ 0 ≤ p.2.2.2.2.1 ∧ p.2.2.2.2.1 ≤ 400000
  | [], _, _, _, _, _, h, _, _ => by cases h
  | _ :: _, [], _, _, _, h, _, _, _ => by cases h
  | v :: vs, p :: ps, 0, _, _, h, h1, h2, hm => by
    cases h1
    cases h2
    unfold rIn0 at h
    rw [Bool.and_eq_true] at h
    have hp := h.1
    split at hp
    · rename_i e; rw [e] at hm; cases hm
    · rw [Bool.and_eq_true, Bool.and_eq_true, Bool.and_eq_true, decide_eq_true_eq, decide_eq_true_eq] at hp
      exact hp.2
    · rename_i e; rw [e] at hm; cases hm
    · rename_i n1 n2 n3; exact (n2 hm).elim
  | v :: vs, p :: ps, i + 1, _, _, h, h1, h2, hm => by
    unfold rIn0 at h
    rw [Bool.and_eq_true] at h
    rw [List.getElem?_cons_succ] at h1 h2
    exact rIn0_2 h.2 h1 h2 hm
theorem rIn0_len {fs : rF} {n : Nat} {σ : List Value} : ∀ {vs : List Value} {ps : List rPl}, rIn0 fs n σ vs ps = true → vs.length = ps.length
  | [], [], _ => rfl
  | v :: vs, p :: ps, h => by
    unfold rIn0 at h
    rw [Bool.and_eq_true] at h
    rw [List.length_cons, List.length_cons, rIn0_len h.2]
  | [], _ :: _, h => by cases h
  | _ :: _, [], h => by cases h
theorem rBds_len : ∀ {vs : List Value} {ps : List rPl}, vs.length = ps.length → (rBds vs ps).length = ps.length
  | [], [], _ => rfl
  | v :: vs, p :: ps, h => by
    show (rBds vs ps).length + 1 = ps.length + 1
    rw [rBds_len (by rw [List.length_cons, List.length_cons] at h; omega)]
  | [], _ :: _, h => by cases h
  | _ :: _, [], h => by cases h
theorem rZip_get {α β : Type} : ∀ {a : List α} {b : List β} {i : Nat} {p : α × β}, (a.zip b)[i]? = some p → a[i]? = some p.1 ∧ b[i]? = some p.2
  | [], _, _, _, h => by cases h
  | _ :: _, [], _, _, h => by cases h
  | x :: a, y :: b, 0, p, h => by cases h; exact ⟨rfl, rfl⟩
  | x :: a, y :: b, i + 1, p, h => by
    have h' : (a.zip b)[i]? = some p := h
    exact rZip_get (a := a) (b := b) (i := i) h'
/-- the numbers at the head are within what is told of them -/
theorem rIv_ok {ρ zs ve : List Int} {fs : rF} {vs : List Value} {ps : List rPl} {n : Nat} {σ : List Value} {w : Int} (hO : rOk ρ fs) (hve : rVs ρ vs = some ve) (h0 : rIn0 fs n σ vs ps = true) (hw : ∀ p ∈ ps, p.2.2.2.2.2.1 = 2 → p.2.2.2.2.2.2 * w ≤ p.2.2.2.2.1) (hi : rIv (ρ ++ zs) w zs ve (ps.zip (rBds vs ps))) : rOk (ρ ++ zs) (fs ++ rBds vs ps) := by
  have hlen := rIn0_len h0
  have hb := rBds_len hlen
  refine hO.app ?_ (fun i z q hz hq => ?_)
  · rw [rIv_len hi, List.length_zip, hb]
    omega
  · obtain ⟨v', p', q1, q2, rfl⟩ := rBds_get hq
    obtain ⟨v, ⟨pl, pq⟩, p1, p2, p3⟩ := rIv_get hi hz
    obtain ⟨p4, p5⟩ := rZip_get p2
    dsimp only at p3 p4 p5
    rw [q2] at p4
    rw [hq] at p5
    injection p4 with p4
    injection p5 with p5
    subst p4
    subst p5
    split at p3
    · rename_i hm
      obtain ⟨⟨l1, l2⟩, u⟩ := p3
      obtain ⟨r1, r2, r3⟩ := rIn0_2 h0 q1 q2 hm
      have hk := hw _ (List.mem_of_getElem? q2) hm
      obtain ⟨y, y1, y2⟩ := rVs_get hve q1
      rw [p1] at y1
      cases y1
      obtain ⟨b1, b2⟩ := rVi_rg hO r1 y2
      cases v' with
      | int x =>
        rw [rBd_2i hm] at l1 l2 ⊢
        cases y2
        exact ⟨l1, by dsimp only; omega, l2, fun j c k => (rCu_no (by dsimp only; omega) j c k).elim⟩
      | float b =>
        rw [rBd_2f hm] at l1 l2 ⊢
        obtain ⟨y, y1, rfl⟩ := rVi_f y2
        have ob := rOf_rng b
        refine ⟨l1, ?_, l2, fun j c k => ?_⟩
        · dsimp only
          unfold rKu'
          omega
        · dsimp only at k
          rw [rCu_k (by omega) (by omega)] at k
          cases k
          refine ⟨y, ?_, by omega⟩
          rw [List.getElem?_append_left (List.getElem?_eq_some_iff.mp y1).1]
          exact y1
      | long x => cases r1
      | double x => cases r1
      | ref x => cases r1
      | retAddr x => cases r1
      | null => cases r1
    · exact p3
/-- one turn more -/
theorem rPg_iv {ρ1 ρh ρ' : List Int} {w w' g : Int} : ∀ {id : Nat} {zs zs' ve : List Int} {ps : List (rPl × (Int × Int))}, (∀ p ∈ ps, p.1.2.2.2.2.2.1 = 2 → 0 ≤ p.1.2.2.2.2.2.2) → w + g ≤ w' → (∀ i, i < zs.length → ρh[id + i]? = zs[i]?) → rIv ρ1 w zs ve ps → rPg ρh ρ' g id zs' ps → rIv ρ' w' zs' ve ps
  | id, [], [], [], [], _, _, _, _, _ => trivial
  | id, z :: zs, z' :: zs', v :: ve, p :: ps, hk, hw, hd, hi, hp => by
    refine ⟨?_, rPg_iv (id := id + 1) (fun q hq => hk q (List.mem_cons_of_mem _ hq)) hw (fun i h => ?_) hi.2 hp.2⟩
    · have h1 := hi.1
      have h2 := hp.1
      by_cases hm : p.1.2.2.2.2.2.1 = 2
      · rw [if_pos hm] at h1 h2 ⊢
        obtain ⟨y, y1, y2⟩ := h2.2
        have y3 := hd 0 (by rw [List.length_cons]; omega)
        rw [Nat.add_zero, y1] at y3
        cases y3
        refine ⟨h2.1, ?_⟩
        have hk0 := hk p List.mem_cons_self hm
        have e1 : p.1.2.2.2.2.2.2 * (w + g) ≤ p.1.2.2.2.2.2.2 * w' := Int.mul_le_mul_of_nonneg_left hw hk0
        rw [Int.mul_add] at e1
        have := h1.2
        omega
      · rw [if_neg hm] at h2 ⊢
        exact h2
    · have := hd (i + 1) (by rw [List.length_cons]; omega)
      rw [List.getElem?_cons_succ] at this
      rw [← this]
      congr 1
      omega
  | _, [], _, _ :: _, _, _, _, _, hi, _ => by cases hi
  | _, [], _, [], _ :: _, _, _, _, hi, _ => by cases hi
  | _, _ :: _, _, [], _, _, _, _, hi, _ => by cases hi
  | _, _ :: _, _, _ :: _, [], _, _, _, hi, _ => by cases hi
  | _, _ :: _, [], _ :: _, _ :: _, _, _, _, _, hp => by cases hp
  | _, [], _ :: _, [], [], _, _, _, _, hp => by cases hp
theorem rPg_len {ρh ρ' : List Int} {g : Int} : ∀ {id : Nat} {zs : List Int} {ps : List (rPl × (Int × Int))}, rPg ρh ρ' g id zs ps → zs.length = ps.length
  | _, [], [], _ => rfl
  | _, _ :: _, _ :: _, h => by rw [List.length_cons, List.length_cons, rPg_len h.2]
  | _, [], _ :: _, h => by cases h
  | _, _ :: _, [], h => by cases h
theorem rPg_get {ρh ρ' : List Int} {g : Int} : ∀ {id : Nat} {zs : List Int} {ps : List (rPl × (Int × Int))} {i : Nat} {z : Int} {p : rPl × (Int × Int)}, rPg ρh ρ' g id zs ps → zs[i]? = some z → ps[i]? = some p → ¬ p.1.2.2.2.2.2.1 = 2 → p.2.1 ≤ z ∧ z ≤ p.2.2
  | _, [], _, _, _, _, _, h, _, _ => by cases h
  | _, _ :: _, [], _, _, _, h, _, _, _ => by cases h
  | id, z :: zs, p :: ps, 0, _, _, h, h1, h2, hm => by
    cases h1
    cases h2
    have := h.1
    rw [if_neg hm] at this
    exact ⟨this.1, this.2.1⟩
  | id, z :: zs, p :: ps, i + 1, _, _, h, h1, h2, hm => by
    rw [List.getElem?_cons_succ] at h1 h2
    exact rPg_get h.2 h1 h2 hm
