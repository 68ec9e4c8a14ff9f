/-! THE START OF THE LAW: both constructors, evaluated -/
def nOld0 : mH := (List.range 158).map (fun i => if i = 0 then none else nCell 0 (fun _ => 0) i)
def nHp (o : Option (mO × mH)) : mH := match o with
  | some (_, h) => h
  | none => []
def nRr (o : Option (mO × mH)) : Bool := match o with
  | some (.inl none, _) => true
  | _ => false
def nG1 : Option (mO × mH) := evM 158 nDflt (mP' nCods) nHn nMxx' 15 400 1 [.ref 158] (nOld0 ++ [some (.inr (0, nDflt 0))])
def nG2 : Option (mO × mH) := evM 158 nDflt (mP' nCods) nHn nMxx' 15 400 2 [.ref 183] (nHp nG1 ++ [some (.inr (7, nDflt 7))])
def nBh : mH := nHp nG2 ++ [some (.inl (1, 1, .inr (.inl (fun _ => 0))))]
/-- a cell of the pattern holds, by looking -/
def kCr (a : rC) (c : mC) : Bool := match a with
  | none => true
  | some (.inl (k, n, l, u)) => (match c with
    | some (.inl (k', m, .inl f)) => (k == k' && (n == m && (!(k == 1) && !(k == 6)))) && (List.range n).all (fun j => decide (l ≤ (f j).toInt) && decide ((f j).toInt ≤ u))
    | some (.inl (k', m, .inr (.inl f))) => (k == 1 && (k' == 1 && n == m)) && (List.range n).all (fun j => decide (l ≤ (f j).toInt) && decide ((f j).toInt ≤ u))
    | some (.inl (k', m, .inr (.inr (.inr (.inr f))))) => (k == 6 && (k' == 6 && n == m)) && (List.range n).all (fun j => decide (f j = some (l.toNat + j)))
    | _ => false)
  | some (.inr (ci, gs)) => if ci < 1000 then gs.all rExa && (match c with
      | some (.inr (ci', fs)) => ci == ci' && decide (gs = fs)
      | _ => false)
    else if ci = 1000 then (match gs, c with
      | [.int i1, .int v1, .int i2, .int v2, .int i3, .int v3], some (.inl (k, n, .inl f)) => (k == 0 && n == 240) && ((decide (0 ≤ i1.toInt ∧ i1.toInt < 240 ∧ f i1.toInt.toNat = v1) && decide (0 ≤ i2.toInt ∧ i2.toInt < 240 ∧ f i2.toInt.toNat = v2)) && decide (0 ≤ i3.toInt ∧ i3.toInt < 240 ∧ f i3.toInt.toNat = v3))
      | _, _ => false)
    else if ci = 1001 then (match gs, c with
      | [.int b, .int v], some (.inl (k, n, .inl f)) => (k == 0 && n == 60) && (decide (b = 0) && decide (f 0 = v))
      | _, _ => false)
    else if ci = 1003 then (match c with
      | some (.inl (k, n, .inl f)) => (k == 7 && n == gs.length) && (List.range gs.length).all (fun j => decide (gs[j]? = some (.int (f j))))
      | _ => false)
    else false
theorem rE_exa {ρ : List Int} {v : Value} (h : rExa v = true) : rE ρ v = some v := by
  cases v with
  | float b => cases h
  | double b => cases h
  | retAddr b => cases h
  | _ => rfl
theorem rEs_exa {ρ : List Int} : ∀ {l : List Value}, l.all rExa = true → rEs ρ l = some l
  | [], _ => rfl
  | v :: r, h => by
    rw [List.all_cons, Bool.and_eq_true] at h
    exact rEs_mk (rE_exa h.1) (rEs_exa h.2)
theorem kRng {n : Nat} {p : Nat → Bool} (h : (List.range n).all p = true) : ∀ j, j < n → p j = true := fun j hj => List.all_eq_true.mp h j (List.mem_range.mpr hj)
theorem kCr_ok (ρ : List Int) {a : rC} {c : mC} (h : kCr a c = true) : rCr ρ a c := by
  unfold kCr at h
  split at h
  · trivial
  · rename_i k n l u
    split at h
    · rename_i k' m f
      simp only [Bool.and_eq_true, beq_iff_eq, Bool.not_eq_true', beq_eq_false_iff_ne] at h
      obtain ⟨⟨rfl, rfl, h1, h6⟩, hr⟩ := h
      refine rCr.mint h1 h6 (fun j hj => ?_)
      have := kRng hr j hj
      rw [Bool.and_eq_true, decide_eq_true_eq, decide_eq_true_eq] at this
      exact this
    · rename_i k' m f
      simp only [Bool.and_eq_true, beq_iff_eq] at h
      obtain ⟨⟨rfl, rfl, rfl⟩, hr⟩ := h
      refine ⟨f, rfl, fun j hj => ?_⟩
      have := kRng hr j hj
      rw [Bool.and_eq_true, decide_eq_true_eq, decide_eq_true_eq] at this
      exact this
    · rename_i k' m f
      simp only [Bool.and_eq_true, beq_iff_eq] at h
      obtain ⟨⟨rfl, rfl, rfl⟩, hr⟩ := h
      exact ⟨f, rfl, fun j hj => of_decide_eq_true (kRng hr j hj)⟩
    · cases h
  · rename_i ci gs
    split at h
    · rename_i hci
      rw [Bool.and_eq_true] at h
      obtain ⟨h1, h2⟩ := h
      split at h2
      · rw [Bool.and_eq_true, beq_iff_eq, decide_eq_true_eq] at h2
        obtain ⟨rfl, rfl⟩ := h2
        exact rCr.mobj hci (rEs_exa h1)
      · cases h2
    · split at h
      · rename_i hci
        subst hci
        split at h
        · rename_i i1 v1 i2 v2 i3 v3 k n f
          simp only [Bool.and_eq_true, beq_iff_eq, decide_eq_true_eq] at h
          obtain ⟨⟨rfl, rfl⟩, ⟨h1, h2⟩, h3⟩ := h
          exact ⟨_, rfl, f, rfl, rMe_m h1 h2 h3⟩
        · cases h
      · split at h
        · rename_i hci
          subst hci
          split at h
          · rename_i b v k n f
            simp only [Bool.and_eq_true, beq_iff_eq, decide_eq_true_eq] at h
            obtain ⟨⟨rfl, rfl⟩, rfl, h2⟩ := h
            refine ⟨_, rfl, f, 0, v, rfl, rfl, (by decide), (by decide), fun j hj => ?_, fun _ => h2⟩
            have z : (0 : Int32).toInt = 0 := rfl
            rw [z] at hj
            omega
          · cases h
        · split at h
          · rename_i hci
            subst hci
            split at h
            · rename_i k n f
              simp only [Bool.and_eq_true, beq_iff_eq] at h
              obtain ⟨⟨rfl, rfl⟩, hr⟩ := h
              have hall : ∀ v ∈ gs, rE ρ v = some v := fun v hv => by
                obtain ⟨j, hj, rfl⟩ := List.getElem_of_mem hv
                have := of_decide_eq_true (kRng hr j hj)
                rw [List.getElem?_eq_getElem hj] at this
                injection this with this
                rw [this]
                rfl
              have hes : ∀ (l : List Value), (∀ v ∈ l, rE ρ v = some v) → rEs ρ l = some l := by
                intro l
                induction l with
                | nil => intro _; rfl
                | cons v r ih => intro hv; exact rEs_mk (hv v List.mem_cons_self) (ih (fun w hw => hv w (List.mem_cons_of_mem _ hw)))
              refine ⟨gs, hes gs hall, f, rfl, fun j v hv => ?_⟩
              have hj : j < gs.length := (List.getElem?_eq_some_iff.mp hv).1
              have := of_decide_eq_true (kRng hr j hj)
              rw [hv] at this
              injection this
            · cases h
          · cases h
/-- what is looked at: everything but the script -/
def kAll (p : List rC) (h : mH) : Bool := (List.range 206).all (fun i => i == 0 || (match rGt p i, h[i]? with
  | some a, some c => kCr a c
  | _, _ => false))
def nStc : Bool := nRr nG1 && (nRr nG2 && (decide ((nHp nG1).length = 183) && (decide ((nHp nG2).length = 205) && kAll nEh nBh)))
set_option maxRecDepth 100000 in
theorem nStV : nStc = true := by decide +kernel
theorem nOld_le (L : Nat) (xs : Nat → Int32) : mLe nOld0 (nOld L xs) := by
  refine ⟨by unfold nOld0 nOld; rw [List.length_map, List.length_map], fun i c h => ?_⟩
  unfold nOld0 at h
  unfold nOld
  rw [List.getElem?_map] at h ⊢
  cases hr : (List.range 158)[i]? with
  | none => rw [hr] at h; cases h
  | some j =>
    rw [hr] at h
    simp only [Option.map_some] at h ⊢
    by_cases hj : j = 0
    · rw [if_pos hj] at h; cases h
    · rw [if_neg hj] at h
      rw [← h]
      unfold nCell
      rw [if_neg hj, if_neg hj]
theorem nOld_len (L : Nat) (xs : Nat → Int32) : (nOld L xs).length = 158 := by unfold nOld; rw [List.length_map, List.length_range]
theorem nOld_0 (L : Nat) (xs : Nat → Int32) : (nOld L xs)[0]? = some (some (.inl (4, L, .inl xs))) := rfl
theorem nSub (v5 : Value) : ∀ mi pc e, mP' nCods mi pc = some e → mP' (nCodw v5) mi pc = some e := by
  intro mi pc e h
  unfold mP' at h ⊢
  unfold nCodw
  by_cases hm : mi = 226
  · subst hm
    rw [if_pos rfl]
    have hc : nCods 226 = nC226 := rfl
    rw [hc] at h
    unfold nC226w
    by_cases hp : pc = 2
    · subst hp
      have h2 : nC226[2]? = some none := by rfl
      rw [h2] at h
      cases h
    · rw [List.getElem?_set_ne (Ne.symm hp)]
      exact h
  · rw [if_neg hm]
    exact h
theorem nLift (v5 : Value) {A A2 B : mH} (hA : mLe A A2) (o : mC) {d n mi : Nat} {as : List Value} (g : evM 158 nDflt (mP' nCods) nHn nMxx' d n mi as (A ++ [o]) = some (.inl none, B)) : ∃ h1, evM 158 nDflt (mP' (nCodw v5)) nHn nMxx' d n mi as (A2 ++ [o]) = some (.inl none, h1) ∧ mLe B h1 := evM_le (nSub v5) d n mi as _ _ _ _ (hA.push o) g
set_option maxRecDepth 20000 in
theorem nEh_len : nEh.length ≤ 206 := by decide +kernel
/-- the heap at the loop's first turn -/
theorem nCtor (v5 : Value) (L : Nat) (xs : Nat → Int32) : ∃ h1 h2 : mH, evM 158 nDflt (mP' (nCodw v5)) nHn nMxx' 15 400 1 [.ref 158] (nOld L xs ++ [some (.inr (0, nDflt 0))]) = some (.inl none, h1) ∧ h1.length = 183 ∧ evM 158 nDflt (mP' (nCodw v5)) nHn nMxx' 15 400 2 [.ref 183] (h1 ++ [some (.inr (7, nDflt 7))]) = some (.inl none, h2) ∧ h2.length = 205 ∧ h2[0]? = some (some (.inl (4, L, .inl xs))) ∧ mLe nBh (h2 ++ [some (.inl (1, 1, .inr (.inl (fun _ => 0))))]) ∧ h2.take 158 = nOld L xs ∧ ∀ i a, 0 < i → rGt nEh i = some a → ∃ c, (h2 ++ [some (.inl (1, 1, .inr (.inl (fun _ => 0))))])[i]? = some c ∧ (a = none ∨ ∀ ρ, rCr ρ a c) := by
  have hv := nStV
  unfold nStc at hv
  simp only [Bool.and_eq_true, decide_eq_true_eq] at hv
  obtain ⟨v1, v2, v3, v4, v5'⟩ := hv
  have rv : ∀ {o : Option (mO × mH)}, nRr o = true → o = some (.inl none, nHp o) := fun {o} h => by
    unfold nRr at h
    split at h
    · rfl
    · cases h
  have g1 : evM 158 nDflt (mP' nCods) nHn nMxx' 15 400 1 [.ref 158] (nOld0 ++ [some (.inr (0, nDflt 0))]) = some (.inl none, nHp nG1) := rv v1
  have g2 : evM 158 nDflt (mP' nCods) nHn nMxx' 15 400 2 [.ref 183] (nHp nG1 ++ [some (.inr (7, nDflt 7))]) = some (.inl none, nHp nG2) := rv v2
  obtain ⟨h1, a1, a2'⟩ := nLift v5 (nOld_le L xs) _ g1
  obtain ⟨h2, b1, b2'⟩ := nLift v5 a2' _ g2
  have l1 : h1.length = 183 := a2'.1.symm.trans v3
  have l2 : h2.length = 205 := b2'.1.symm.trans v4
  have o1 := evM_old a1 (by rw [List.length_append, nOld_len]; decide)
  have o2 := evM_old b1 (by rw [List.length_append, l1]; decide)
  have ht : h2.take 158 = nOld L xs := by
    apply List.ext_getElem?
    intro i
    rw [List.getElem?_take]
    split
    · rename_i hi
      rw [o2.2 i hi, List.getElem?_append_left (by omega), o1.2 i hi, List.getElem?_append_left (by rw [nOld_len]; exact hi)]
    · rw [List.getElem?_eq_none (by rw [nOld_len]; omega)]
  refine ⟨h1, h2, a1, l1, b1, l2, ?_, b2'.push _, ht, fun i a hi ha => ?_⟩
  · rw [o2.2 0 (by decide), List.getElem?_append_left (by omega), o1.2 0 (by decide), List.getElem?_append_left (by rw [nOld_len]; decide)]
    exact nOld_0 L xs
  · have h206 : i < 206 := rX_lt (l := nEh) nEh_len ha
    have hk := kRng v5' i h206
    rw [Bool.or_eq_true, beq_iff_eq] at hk
    rcases hk with hk | hk
    · omega
    · rw [ha] at hk
      split at hk
      · rename_i a' c e1 e2
        cases e1
        have b3 := b2'.push (some (.inl (1, 1, .inr (.inl (fun _ => 0)))))
        have e2' : (nHp nG2 ++ [some (.inl (1, 1, .inr (.inl (fun _ => 0))))])[i]? = some c := e2
        cases c with
        | some x => exact ⟨some x, b3.2 i x e2', Or.inr (fun ρ => kCr_ok ρ hk)⟩
        | none =>
          have hlt : i < (h2 ++ [some (.inl (1, 1, .inr (.inl (fun _ => 0))))] : mH).length := by rw [List.length_append, l2]; exact h206
          refine ⟨_, List.getElem?_eq_getElem hlt, Or.inl ?_⟩
          unfold kCr at hk
          split at hk
          · rfl
          · cases hk
          · rename_i ci gs
            exfalso
            split at hk
            · rw [Bool.and_eq_true] at hk
              cases hk.2
            · split at hk
              · split at hk
                · rename_i q; cases q
                · cases hk
              · split at hk
                · split at hk
                  · rename_i q; cases q
                  · cases hk
                · split at hk
                  · cases hk
                  · cases hk
      · cases hk
