/-! PATTERNS: what a match tells -/
def rVi (ρ : List Int) (v : Value) : Option Int := match v with
  | .int x => some x.toInt
  | .float b => (ρ[rId b]?).map (fun z => z + rOf b)
  | .long x => some x.toInt
  | .double b => ρ[b.toNat]?
  | .ref a => some (a : Int)
  | .retAddr j => ρ[j]?
  | .null => none
def rVs (ρ : List Int) : List Value → Option (List Int)
  | [] => some []
  | v :: r => match rVi ρ v, rVs ρ r with
    | some z, some l => some (z :: l)
    | _, _ => none
theorem rVs_cons {ρ : List Int} {v : Value} {r : List Value} {l : List Int} (h : rVs ρ (v :: r) = some l) : ∃ z l', rVi ρ v = some z ∧ rVs ρ r = some l' ∧ l = z :: l' := by
  unfold rVs at h
  split at h
  · rename_i z l' h1 h2
    cases h
    exact ⟨z, l', h1, h2, rfl⟩
  · cases h
theorem rVs_get {ρ : List Int} : ∀ {σ : List Value} {zs : List Int} {k : Nat} {v : Value}, rVs ρ σ = some zs → σ[k]? = some v → ∃ z, zs[k]? = some z ∧ rVi ρ v = some z
  | [], _, _, _, _, h => by cases h
  | w :: r, zs, 0, v, hz, h => by
    obtain ⟨z, l, h1, h2, rfl⟩ := rVs_cons hz
    cases h
    exact ⟨z, rfl, h1⟩
  | w :: r, zs, k + 1, v, hz, h => by
    obtain ⟨z, l, h1, h2, rfl⟩ := rVs_cons hz
    rw [List.getElem?_cons_succ] at h ⊢
    exact rVs_get h2 h
theorem rVs_len {ρ : List Int} : ∀ {σ : List Value} {zs : List Int}, rVs ρ σ = some zs → zs.length = σ.length
  | [], _, h => by cases h; rfl
  | v :: r, zs, h => by
    obtain ⟨z, l, h1, h2, rfl⟩ := rVs_cons h
    rw [List.length_cons, List.length_cons, rVs_len h2]
/-- the numbers of a pattern: the first n as they are, then the values' -/
theorem rTk_lo {ρ zs : List Int} {n i : Nat} (hn : n ≤ ρ.length) (hi : i < n) : (ρ.take n ++ zs)[i]? = ρ[i]? := by
  rw [List.getElem?_append_left (by rw [List.length_take]; omega), List.getElem?_take, if_pos hi]
theorem rTk_hi {ρ zs : List Int} {n i : Nat} (hn : n ≤ ρ.length) (hi : ¬ i < n) : (ρ.take n ++ zs)[i]? = zs[i - n]? := by
  rw [List.getElem?_append_right (by rw [List.length_take]; omega), List.length_take]
  congr 1
  omega
theorem rMk_id' {id : Nat} {off : Int} (h1 : id < 65536) (h2 : -32768 ≤ off) (h3 : off < 32768) : ∃ b, rMk id off = .float b ∧ rId b = id ∧ rOf b = off := by
  have h4 : (off + 32768).toNat < 65536 := by omega
  have h5 : id * 65536 + (off + 32768).toNat < 4294967296 := by omega
  have h6 : (UInt32.ofNat (id * 65536 + (off + 32768).toNat)).toNat = id * 65536 + (off + 32768).toNat := by
    rw [UInt32.toNat_ofNat']
    exact Nat.mod_eq_of_lt h5
  refine ⟨_, rfl, ?_, ?_⟩
  · unfold rId
    rw [h6]
    omega
  · unfold rOf
    rw [h6]
    have h7 : (id * 65536 + (off + 32768).toNat) % 65536 = (off + 32768).toNat := by omega
    rw [h7]
    omega
theorem rId_lt (b : UInt32) : rId b < 65536 := by
  unfold rId
  have := b.toNat_lt
  omega
section MT
variable {ρ : List Int} {fs : rF}
theorem rSu_ok {n : Nat} {σ : List Value} {zs : List Int} {v w : Value} (hn : n ≤ ρ.length) (hz : rVs ρ σ = some zs) (h : rSu n σ v = some w) : rE (ρ.take n ++ zs) v = rE ρ w := by
  cases v with
  | float b =>
    unfold rSu at h
    dsimp only at h
    split at h
    · rename_i hi
      cases h
      rw [rE_f, rE_f]
      rw [rTk_lo hn hi]
    · rename_i hi
      split at h
      · rename_i x hx
        cases h
        obtain ⟨z, z1, z2⟩ := rVs_get hz hx
        cases z2
        rw [rE_f]
        rw [rTk_hi hn hi, z1]
        show some (Value.int (Int32.ofInt (x.toInt + rOf b))) = some (Value.int (x + Int32.ofInt (rOf b)))
        rw [Int32.ofInt_add, Int32.ofInt_toInt]
      · rename_i c hc
        split at h
        · rename_i ho
          cases h
          obtain ⟨z, z1, z2⟩ := rVs_get hz hc
          obtain ⟨b', e1, e2, e3⟩ := rMk_id' (rId_lt c) (show -32768 ≤ rOf c + rOf b by omega) (by omega)
          unfold rVi at z2
          dsimp only at z2
          cases hq : ρ[rId c]? with
          | none => rw [hq] at z2; cases z2
          | some y =>
            rw [hq] at z2
            cases z2
            rw [e1, rE_f, rE_f, e2, e3]
            rw [rTk_hi hn hi, z1, hq]
            show some (Value.int (Int32.ofInt (y + rOf c + rOf b))) = some (Value.int (Int32.ofInt (y + (rOf c + rOf b))))
            rw [Int.add_assoc]
        · cases h
      · cases h
  | double b =>
    unfold rSu at h
    dsimp only at h
    split at h
    · rename_i hi
      cases h
      rw [rE_d, rE_d]
      rw [rTk_lo hn hi]
    · rename_i hi
      split at h
      · rename_i x hx
        cases h
        obtain ⟨z, z1, z2⟩ := rVs_get hz hx
        cases z2
        rw [rE_d]
        rw [rTk_hi hn hi, z1]
        show some (Value.long (Int64.ofInt x.toInt)) = some (Value.long x)
        rw [Int64.ofInt_toInt]
      · rename_i c hc
        cases h
        obtain ⟨z, z1, z2⟩ := rVs_get hz hc
        have z2 : ρ[c.toNat]? = some z := z2
        rw [rE_d, rE_d]
        rw [rTk_hi hn hi, z1, z2]
      · cases h
  | retAddr j =>
    unfold rSu at h
    dsimp only at h
    split at h
    · rename_i hi
      cases h
      rw [rE_r, rE_r]
      rw [rTk_lo hn hi]
    · rename_i hi
      split at h
      · rename_i x hx
        cases h
        obtain ⟨z, z1, z2⟩ := rVs_get hz hx
        cases z2
        rw [rE_r]
        rw [rTk_hi hn hi, z1]
        rfl
      · rename_i c hc
        cases h
        obtain ⟨z, z1, z2⟩ := rVs_get hz hc
        have z2 : ρ[c]? = some z := z2
        rw [rE_r, rE_r]
        rw [rTk_hi hn hi, z1, z2]
      · cases h
  | int x => cases h; rfl
  | long x => cases h; rfl
  | ref x => cases h; rfl
  | null => cases h; rfl
/-- a number of the pattern -/
theorem rSu_n {n t : Nat} {σ : List Value} {zs : List Int} {w : Value} (ht : t < 65536) (hn : n ≤ ρ.length) (hz : rVs ρ σ = some zs) (h : rSu n σ (rMk t 0) = some w) : rVi ρ w = (ρ.take n ++ zs)[t]? := by
  obtain ⟨b, e1, e2, e3⟩ := rMk_id' (off := 0) ht (by omega) (by omega)
  rw [e1] at h
  unfold rSu at h
  dsimp only at h
  rw [e2, e3] at h
  split at h
  · rename_i hi
    cases h
    unfold rVi
    dsimp only
    rw [rTk_lo hn hi, e2, e3]
    cases ρ[t]? with
    | none => rfl
    | some z => show some (z + 0) = some z; rw [Int.add_zero]
  · rename_i hi
    rw [rTk_hi hn hi]
    split at h
    · rename_i x hx
      cases h
      obtain ⟨z, z1, z2⟩ := rVs_get hz hx
      cases z2
      rw [z1]
      show some (x + Int32.ofInt 0).toInt = _
      have e0 : x + Int32.ofInt 0 = x := by show x + 0 = x; exact Int32.add_zero x
      rw [e0]
    · rename_i c hc
      split at h
      · rename_i ho
        cases h
        obtain ⟨z, z1, z2⟩ := rVs_get hz hc
        obtain ⟨b', d1, d2, d3⟩ := rMk_id' (rId_lt c) (show -32768 ≤ rOf c + 0 by omega) (by omega)
        rw [z1, d1]
        unfold rVi at z2 ⊢
        dsimp only at z2 ⊢
        rw [d2, d3, Int.add_zero]
        exact z2
      · cases h
    · cases h
theorem rQ_ok (hO : rOk ρ fs) {x y c : Value} (h : rQ fs x y = true) (hx : rE ρ x = some c) : rE ρ y = some c := by
  unfold rQ at h
  split at h
  · rw [beq_iff_eq] at h; subst h; exact hx
  · rw [beq_iff_eq] at h; subst h; exact hx
  · rw [beq_iff_eq] at h; subst h; exact hx
  · rw [beq_iff_eq] at h; subst h; exact hx
  · exact hx
  · exact rEq_ok hO h hx
theorem rEq_comm {x y : Value} (h : rEq fs x y = true) : rEq fs y x = true := by
  unfold rEq at h ⊢
  split at h
  · rw [beq_iff_eq] at h ⊢; exact h.symm
  · rw [beq_iff_eq] at h ⊢; exact h.symm
  · exact h
  · exact h
  · cases h
theorem rQ_ok' (hO : rOk ρ fs) {x y c : Value} (h : rQ fs x y = true) (hy : rE ρ y = some c) : rE ρ x = some c := by
  unfold rQ at h
  split at h
  · rw [beq_iff_eq] at h; subst h; exact hy
  · rw [beq_iff_eq] at h; subst h; exact hy
  · rw [beq_iff_eq] at h; subst h; exact hy
  · rw [beq_iff_eq] at h; subst h; exact hy
  · exact hy
  · exact rEq_ok hO (rEq_comm h) hy
/-- a list that matches is the pattern's -/
theorem rMv_ok (hO : rOk ρ fs) {n : Nat} {σ : List Value} {zs : List Int} (hn : n ≤ ρ.length) (hz : rVs ρ σ = some zs) : ∀ {ps vs l : List Value}, rMv fs n σ ps vs = true → rEs ρ vs = some l → rEs (ρ.take n ++ zs) ps = some l
  | [], [], l, _, h => h
  | p :: ps, v :: vs, l, h, hl => by
    unfold rMv at h
    rw [Bool.and_eq_true] at h
    obtain ⟨c, l', h1, h2, rfl⟩ := rEs_cons hl
    obtain ⟨hp, ht⟩ := h
    split at hp
    · rename_i w hw
      exact rEs_mk (by rw [rSu_ok hn hz hw]; exact rQ_ok' hO hp h1) (rMv_ok hO hn hz ht h2)
    · cases hp
  | [], v :: vs, l, h, _ => by cases h
  | p :: ps, [], l, h, _ => by cases h
/-- and the other way -/
theorem rMv_ok' (hO : rOk ρ fs) {n : Nat} {σ : List Value} {zs : List Int} (hn : n ≤ ρ.length) (hz : rVs ρ σ = some zs) : ∀ {ps vs l : List Value}, rMv fs n σ ps vs = true → rEs (ρ.take n ++ zs) ps = some l → rEs ρ vs = some l
  | [], [], l, _, h => h
  | p :: ps, v :: vs, l, h, hl => by
    unfold rMv at h
    rw [Bool.and_eq_true] at h
    obtain ⟨c, l', h1, h2, rfl⟩ := rEs_cons hl
    obtain ⟨hp, ht⟩ := h
    split at hp
    · rename_i w hw
      exact rEs_mk (rQ_ok hO hp (by rw [← rSu_ok hn hz hw]; exact h1)) (rMv_ok' hO hn hz ht h2)
    · cases hp
  | [], v :: vs, l, h, _ => by cases h
  | p :: ps, [], l, h, _ => by cases h
theorem rMl_ok (hO : rOk ρ fs) {n : Nat} {σ : List Value} {zs : List Int} (hn : n ≤ ρ.length) (hz : rVs ρ σ = some zs) {lv lc : mL} (hl : rEv ρ lv = some lc) : ∀ {ps : mL}, rMl fs n σ lv ps = true → ∃ l, rEv (ρ.take n ++ zs) ps = some l ∧ ∀ q ∈ l, mLd lc q.1 = some q.2
  | [], _ => ⟨[], rfl, fun q hq => by cases hq⟩
  | p :: ps, h => by
    unfold rMl at h
    rw [Bool.and_eq_true] at h
    obtain ⟨l, l1, l2⟩ := rMl_ok hO hn hz hl h.2
    have hp := h.1
    split at hp
    · rename_i w v hw hv
      obtain ⟨c, c1, c2⟩ := rLd hl hv
      have e : rE (ρ.take n ++ zs) p.2 = some c := by rw [rSu_ok hn hz hw]; exact rQ_ok' hO hp c2
      refine ⟨(p.1, c) :: l, ?_, fun q hq => ?_⟩
      · obtain ⟨a, b⟩ := p
        exact rEv_mk e l1
      · rcases List.mem_cons.mp hq with rfl | hq
        · exact c1
        · exact l2 q hq
    · cases hp
/-- cells that match tell the same -/
theorem rMc_ok (hO : rOk ρ fs) {n : Nat} {σ : List Value} {zs : List Int} (hn : n ≤ ρ.length) (hz : rVs ρ σ = some zs) {a b : rC} (h : rMc fs n σ a b = true) {c : mC} : rCr ρ b c → rCr (ρ.take n ++ zs) a c := by
  intro hb
  unfold rMc at h
  split at h
  · trivial
  · rename_i k m l u k' m' l' u'
    simp only [Bool.and_eq_true, beq_iff_eq, decide_eq_true_eq] at h
    obtain ⟨⟨⟨rfl, rfl⟩, rfl⟩, rfl⟩ := h
    exact hb
  · rename_i ci ps d vs
    rw [Bool.and_eq_true, beq_iff_eq] at h
    obtain ⟨rfl, h⟩ := h
    obtain ⟨gs, g1, g2⟩ := hb
    exact ⟨gs, rMv_ok hO hn hz h g1, g2⟩
  · cases h
theorem rMh_len {n : Nat} {σ : List Value} : ∀ {a b : List rC}, rMh fs n σ a b = true → a.length = b.length
  | [], [], _ => rfl
  | x :: a, y :: b, h => by
    unfold rMh at h
    rw [Bool.and_eq_true] at h
    rw [List.length_cons, List.length_cons, rMh_len h.2]
  | [], y :: b, h => by cases h
  | x :: a, [], h => by cases h
theorem rMh_get {n : Nat} {σ : List Value} : ∀ {a b : List rC} {i : Nat} {x : rC}, rMh fs n σ a b = true → a[i]? = some x → ∃ y, b[i]? = some y ∧ rMc fs n σ x y = true
  | [], _, _, _, _, h => by cases h
  | u :: a, y :: b, 0, x, h, hx => by
    unfold rMh at h
    rw [Bool.and_eq_true] at h
    cases hx
    exact ⟨y, rfl, h.1⟩
  | u :: a, y :: b, i + 1, x, h, hx => by
    unfold rMh at h
    rw [Bool.and_eq_true] at h
    rw [List.getElem?_cons_succ] at hx ⊢
    exact rMh_get h.2 hx
  | u :: a, [], _, _, h, _ => by cases h
theorem rMc_no {n : Nat} {σ : List Value} {a b : rC} (h : rMc fs n σ a b = true) : a = none ↔ b = none := by
  unfold rMc at h
  split at h
  · exact ⟨fun _ => rfl, fun _ => rfl⟩
  · exact ⟨fun e => (by cases e), fun e => (by cases e)⟩
  · exact ⟨fun e => (by cases e), fun e => (by cases e)⟩
  · cases h
/-- a heap that matches is the pattern's -/
theorem rMh_ok (hO : rOk ρ fs) {c0 : mH} {n : Nat} {σ : List Value} {zs : List Int} (hn : n ≤ ρ.length) (hz : rVs ρ σ = some zs) {a b : rH} (h : rMh fs n σ a.1 b.1 = true) (ht : rMv fs n σ [a.2] [b.2] = true) {hc : mH} (hb : rHr c0 ρ b hc) : rHr c0 (ρ.take n ++ zs) a hc := by
  obtain ⟨⟨x, x1, x2, x3⟩, h2, h3, h4⟩ := hb
  refine ⟨⟨x, ?_, x2, x3⟩, fun i u hu => ?_, fun i hi hno => ?_, by rw [rMh_len h]; exact h4⟩
  · have := rMv_ok hO hn hz ht (rEs_mk x1 rfl)
    obtain ⟨c, l, c1, -, c3⟩ := rEs_cons this
    cases c3
    exact c1
  · obtain ⟨y, y1, y2⟩ := rMh_get h hu
    obtain ⟨c, c1, c2⟩ := h2 i y y1
    exact ⟨c, c1, rMc_ok hO hn hz y2 c2⟩
  · refine h3 i hi ?_
    rcases hno with hno | hno
    · refine Or.inl ?_
      unfold rGt at hno ⊢
      rw [List.getElem?_eq_none_iff] at hno ⊢
      rw [← rMh_len h]
      exact hno
    · obtain ⟨y, y1, y2⟩ := rMh_get h hno
      refine Or.inr ?_
      show b.1[rX' i]? = some none
      rw [y1, (rMc_no y2).mp rfl]
theorem rMq_get {σ : List Value} : ∀ {a b : List rC} {i : Nat} {x : (Nat × Nat × Int × Int) ⊕ (Nat × List Value)}, rMq fs σ a b = true → a[i]? = some (some x) → ∃ y, b[i]? = some y ∧ rMc fs 0 σ (some x) y = true
  | [], _, _, _, _, h => by cases h
  | none :: a, y :: b, 0, x, h, hx => by cases hx
  | none :: a, y :: b, i + 1, x, h, hx => by
    unfold rMq at h
    rw [List.getElem?_cons_succ] at hx ⊢
    exact rMq_get h hx
  | some u :: a, y :: b, 0, x, h, hx => by
    unfold rMq at h
    rw [Bool.and_eq_true] at h
    cases hx
    exact ⟨y, rfl, h.1⟩
  | some u :: a, y :: b, i + 1, x, h, hx => by
    unfold rMq at h
    rw [Bool.and_eq_true] at h
    rw [List.getElem?_cons_succ] at hx ⊢
    exact rMq_get h.2 hx
  | none :: _, [], _, _, h, _ => by cases h
  | some _ :: _, [], _, _, h, _ => by cases h
theorem rMq_len {σ : List Value} : ∀ {a b : List rC}, rMq fs σ a b = true → a.length ≤ b.length
  | [], _, _ => Nat.zero_le _
  | none :: a, y :: b, h => by
    unfold rMq at h
    rw [List.length_cons, List.length_cons]
    exact Nat.succ_le_succ (rMq_len h)
  | some u :: a, y :: b, h => by
    unfold rMq at h
    rw [Bool.and_eq_true] at h
    rw [List.length_cons, List.length_cons]
    exact Nat.succ_le_succ (rMq_len h.2)
  | none :: _, [], h => by cases h
  | some _ :: _, [], h => by cases h
/-- a pattern that knows less: what it does not know is as it is -/
theorem rMq_ok (hO : rOk ρ fs) {c0 : mH} {σ : List Value} {zs : List Int} (hz : rVs ρ σ = some zs) {a b : rH} (h : rMq fs σ a.1 b.1 = true) (ht : rMv fs 0 σ [a.2] [b.2] = true) {hc : mH} (hb : rHr c0 ρ b hc) : rHr hc (ρ.take 0 ++ zs) a hc := by
  obtain ⟨⟨x, x1, x2, x3⟩, h2, h3, h4⟩ := hb
  refine ⟨⟨x, ?_, x2, x3⟩, fun i u hu => ?_, fun i hi hno => rfl, Nat.le_trans (rMq_len h) h4⟩
  · have := rMv_ok hO (Nat.zero_le _) hz ht (rEs_mk x1 rfl)
    obtain ⟨c, l, c1, -, c3⟩ := rEs_cons this
    cases c3
    exact c1
  · cases u with
    | none =>
      have hlt : i < hc.length := by
        have h5 : a.1.length ≤ 206 := Nat.le_trans (rMq_len h) h4
        have := rX_lt h5 hu
        omega
      exact ⟨_, List.getElem?_eq_getElem hlt, trivial⟩
    | some u =>
      obtain ⟨y, y1, y2⟩ := rMq_get h hu
      obtain ⟨c, c1, c2⟩ := h2 i y y1
      exact ⟨c, c1, rMc_ok hO (Nat.zero_le _) hz y2 c2⟩
/-- the range of a value -/
theorem rRa_ok (hO : rOk ρ fs) {v : Value} {q : Int × Int} {z : Int} (hr : rRa fs v = some q) (hz : rVi ρ v = some z) : q.1 ≤ z ∧ z ≤ q.2 := by
  have hi : ∀ {v : Value}, rRg fs v = some q → rVi ρ v = some z → q.1 ≤ z ∧ z ≤ q.2 := fun {v} h1 h2 => by
    unfold rRg at h1
    split at h1
    · cases h1
      cases h2
      exact ⟨Int.le_refl _, Int.le_refl _⟩
    · rename_i b
      split at h1
      · rename_i p hp
        split at h1
        · cases h1
          obtain ⟨y, y1, y2, y3⟩ := hO.get hp
          unfold rVi at h2
          dsimp only at h2
          rw [y1] at h2
          cases h2
          dsimp only
          omega
        · cases h1
      · cases h1
    · cases h1
  have hl : ∀ {v : Value}, rRl fs v = some q → rVi ρ v = some z → q.1 ≤ z ∧ z ≤ q.2 := fun {v} h1 h2 => by
    unfold rRl at h1
    split at h1
    · cases h1
      cases h2
      exact ⟨Int.le_refl _, Int.le_refl _⟩
    · rename_i b
      split at h1
      · rename_i p hp
        split at h1
        · cases h1
          obtain ⟨y, y1, y2, y3⟩ := hO.2.1 _ _ hp
          have h2 : ρ[b.toNat]? = some z := h2
          rw [y1] at h2
          cases h2
          exact ⟨y2, y3⟩
        · cases h1
      · cases h1
    · cases h1
  unfold rRa at hr
  split at hr
  · exact hi hr hz
  · exact hi hr hz
  · exact hl hr hz
  · exact hl hr hz
  · cases hr
    cases hz
    exact ⟨Int.le_refl _, Int.le_refl _⟩
  · rename_i j
    obtain ⟨y, y1, y2, y3⟩ := hO.2.1 _ _ hr
    have hz : ρ[j]? = some z := hz
    rw [y1] at hz
    cases hz
    exact ⟨y2, y3⟩
  · cases hr
theorem rGe_ok (hO : rOk ρ fs) : ∀ (n : Nat) {i : Nat} {o : Int} {t : Nat} {c y : Int}, rGe fs n i o t c = true → ρ[i]? = some y → ∃ z, ρ[t]? = some z ∧ z + c ≤ y + o
  | 0, i, o, t, c, y, h, h1 => by
    unfold rGe at h
    rw [Bool.and_eq_true, beq_iff_eq, decide_eq_true_eq] at h
    obtain ⟨rfl, h⟩ := h
    exact ⟨y, h1, by omega⟩
  | n + 1, i, o, t, c, y, h, h1 => by
    unfold rGe at h
    split at h
    · rename_i e
      subst e
      rw [decide_eq_true_eq] at h
      exact ⟨y, h1, by omega⟩
    · split at h
      · rename_i q hq
        split at h
        · rename_i jc hj
          obtain ⟨w, w1, w2⟩ := (hO.2.2 _ _ _ hq h1).1 jc.1 jc.2 hj
          obtain ⟨z, z1, z2⟩ := rGe_ok hO n h w1
          exact ⟨z, z1, by omega⟩
        · cases h
      · cases h
theorem rLe_ok (hO : rOk ρ fs) : ∀ (n : Nat) {i : Nat} {o : Int} {t : Nat} {c y : Int}, rLe fs n i o t c = true → ρ[i]? = some y → ∃ z, ρ[t]? = some z ∧ y + o ≤ z + c
  | 0, i, o, t, c, y, h, h1 => by
    unfold rLe at h
    rw [Bool.and_eq_true, beq_iff_eq, decide_eq_true_eq] at h
    obtain ⟨rfl, h⟩ := h
    exact ⟨y, h1, by omega⟩
  | n + 1, i, o, t, c, y, h, h1 => by
    unfold rLe at h
    split at h
    · rename_i e
      subst e
      rw [decide_eq_true_eq] at h
      exact ⟨y, h1, by omega⟩
    · split at h
      · rename_i q hq
        split at h
        · rename_i jc hj
          obtain ⟨w, w1, w2⟩ := (hO.2.2 _ _ _ hq h1).2 jc.1 jc.2 hj
          obtain ⟨z, z1, z2⟩ := rLe_ok hO n h w1
          exact ⟨z, z1, by omega⟩
        · cases h
      · cases h
theorem rVi_f {b : UInt32} {z : Int} (h : rVi ρ (.float b) = some z) : ∃ y, ρ[rId b]? = some y ∧ z = y + rOf b := by
  unfold rVi at h
  dsimp only at h
  cases hq : ρ[rId b]? with
  | none => rw [hq] at h; cases h
  | some y => rw [hq] at h; cases h; exact ⟨y, rfl, rfl⟩
theorem rRg_a {v : Value} {q : Int × Int} (h : rRg fs v = some q) : rRa fs v = some q := by
  have h' := h
  unfold rRg at h'
  split at h'
  · exact h
  · exact h
  · cases h'
theorem rRg_vi (hO : rOk ρ fs) {v : Value} {q : Int × Int} (h : rRg fs v = some q) : ∃ z, rVi ρ v = some z := by
  unfold rRg at h
  split at h
  · exact ⟨_, rfl⟩
  · rename_i b
    split at h
    · rename_i p hp
      obtain ⟨y, y1, -⟩ := hO.2.1 _ _ hp
      exact ⟨y + rOf b, by unfold rVi; dsimp only; rw [y1]; rfl⟩
    · cases h
  · cases h
theorem rVge_ok (hO : rOk ρ fs) {n t : Nat} {σ : List Value} {zs : List Int} {v : Value} {c z : Int} (ht : t < 65536) (hn : n ≤ ρ.length) (hz : rVs ρ σ = some zs) (hv : rVi ρ v = some z) (h : rVge fs n σ v t c = true) : ∃ y, (ρ.take n ++ zs)[t]? = some y ∧ y + c ≤ z := by
  unfold rVge at h
  split at h
  · rename_i b d hw
    have hs := rSu_n ht hn hz hw
    obtain ⟨y, y1, rfl⟩ := rVi_f hv
    obtain ⟨w, w1, w2⟩ := rGe_ok hO 8 h y1
    have hw2 : rVi ρ (.float d) = some (w + rOf d) := by unfold rVi; dsimp only; rw [w1]; rfl
    rw [hw2] at hs
    exact ⟨_, hs.symm, by omega⟩
  · rename_i w _ hw
    have hs := rSu_n ht hn hz hw
    split at h
    · rename_i p q hp hq
      rw [decide_eq_true_eq] at h
      obtain ⟨y, hw2⟩ := rRg_vi hO hq
      rw [hw2] at hs
      have k1 := rRa_ok hO (rRg_a hp) hv
      have k2 := rRa_ok hO (rRg_a hq) hw2
      exact ⟨y, hs.symm, by omega⟩
    · cases h
  · cases h
theorem rVle_ok (hO : rOk ρ fs) {n t : Nat} {σ : List Value} {zs : List Int} {v : Value} {c z : Int} (ht : t < 65536) (hn : n ≤ ρ.length) (hz : rVs ρ σ = some zs) (hv : rVi ρ v = some z) (h : rVle fs n σ v t c = true) : ∃ y, (ρ.take n ++ zs)[t]? = some y ∧ z ≤ y + c := by
  unfold rVle at h
  split at h
  · rename_i b d hw
    have hs := rSu_n ht hn hz hw
    obtain ⟨y, y1, rfl⟩ := rVi_f hv
    obtain ⟨w, w1, w2⟩ := rLe_ok hO 8 h y1
    have hw2 : rVi ρ (.float d) = some (w + rOf d) := by unfold rVi; dsimp only; rw [w1]; rfl
    rw [hw2] at hs
    exact ⟨_, hs.symm, by omega⟩
  · rename_i w _ hw
    have hs := rSu_n ht hn hz hw
    split at h
    · rename_i p q hp hq
      rw [decide_eq_true_eq] at h
      obtain ⟨y, hw2⟩ := rRg_vi hO hq
      rw [hw2] at hs
      have k1 := rRa_ok hO (rRg_a hp) hv
      have k2 := rRa_ok hO (rRg_a hq) hw2
      exact ⟨y, hs.symm, by omega⟩
    · cases h
  · cases h
/-- v is within the range q of a pattern -/
theorem rIl_ok (hO : rOk ρ fs) {n : Nat} {σ : List Value} {zs : List Int} {v : Value} {l z : Int} (hn : n ≤ ρ.length) (hz : rVs ρ σ = some zs) (hv : rVi ρ v = some z) (h : rIl fs n σ v l = true) : l ≤ z ∧ ∀ j c, rCl l = some (j, c) → ∃ y, (ρ.take n ++ zs)[j]? = some y ∧ y + c ≤ z := by
  unfold rIl at h
  split at h
  · rename_i jc hj
    rw [Bool.and_eq_true, Bool.and_eq_true, decide_eq_true_eq] at h
    refine ⟨?_, fun j c hjc => ?_⟩
    · have h3 := h.2.2
      split at h3
      · rename_i p hp
        rw [decide_eq_true_eq] at h3
        have := rRa_ok hO hp hv
        unfold rL0 at h3
        unfold rCl at hj
        split at hj
        · omega
        · cases hj
      · cases h3
    · rw [hj] at hjc
      cases hjc
      exact rVge_ok hO h.1 hn hz hv h.2.1
  · rename_i hj
    split at h
    · rename_i p hp
      rw [decide_eq_true_eq] at h
      have := rRa_ok hO hp hv
      exact ⟨by omega, fun j c hjc => by rw [hj] at hjc; cases hjc⟩
    · cases h
theorem rIu_ok (hO : rOk ρ fs) {n : Nat} {σ : List Value} {zs : List Int} {v : Value} {u z : Int} (hn : n ≤ ρ.length) (hz : rVs ρ σ = some zs) (hv : rVi ρ v = some z) (h : rIu fs n σ v u = true) : z ≤ u ∧ ∀ j c, rCu u = some (j, c) → ∃ y, (ρ.take n ++ zs)[j]? = some y ∧ z ≤ y + c := by
  unfold rIu at h
  split at h
  · rename_i jc hj
    rw [Bool.and_eq_true, Bool.and_eq_true, decide_eq_true_eq] at h
    refine ⟨?_, fun j c hjc => ?_⟩
    · have h3 := h.2.2
      split at h3
      · rename_i p hp
        rw [decide_eq_true_eq] at h3
        have := rRa_ok hO hp hv
        unfold rL1 at h3
        unfold rCu at hj
        split at hj
        · omega
        · cases hj
      · cases h3
    · rw [hj] at hjc
      cases hjc
      exact rVle_ok hO h.1 hn hz hv h.2.1
  · rename_i hj
    split at h
    · rename_i p hp
      rw [decide_eq_true_eq] at h
      have := rRa_ok hO hp hv
      exact ⟨by omega, fun j c hjc => by rw [hj] at hjc; cases hjc⟩
    · cases h
end MT
