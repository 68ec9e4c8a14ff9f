/-! ONE STEP TURNED ROUND IS SOUND -/
section ZN
variable {dflt : Nat → List Value} {c0 : mH} {σ σ' : zS} {pc pc' : Nat} {lv lv' : mL} {st st' : List Value} {h : mH} {k0 : Nat} {i : Instr} {o : Nat × Nat × Nat × Value} {q : Nat × mL × List Value × mH} {c : Option Prop}
theorem nx_G (hA : ∀ st, mA i st = none) (hB : ∀ lv, mB i lv = none) (hD : ∀ n lv st, mD i n lv st = none) (hJ : ∀ pc st, mJ i pc st = none) (hP : ∀ a b c st h, mP k0 i a b c st h = none) (hN : ∀ a st h, mN dflt i a st h = none) (hV : mIv i = false) : mNx k0 dflt (i, o) pc lv st h = (mG i o.1 o.2.1 o.2.2.2 st h).map (fun st' => (pc + mLen i, lv, st', h)) := by
  unfold mNx
  simp only [hA, hB, hD, hJ, hP, hN, hV]
  cases mG i o.1 o.2.1 o.2.2.2 st h with
  | none => rfl
  | some s => rfl
theorem nx_P (hA : ∀ st, mA i st = none) (hB : ∀ lv, mB i lv = none) (hD : ∀ n lv st, mD i n lv st = none) (hJ : ∀ pc st, mJ i pc st = none) (hG : ∀ a b c st h, mG i a b c st h = none) (hN : ∀ a st h, mN dflt i a st h = none) (hV : mIv i = false) : mNx k0 dflt (i, o) pc lv st h = (mP k0 i o.1 o.2.1 o.2.2.1 st h).map (fun p => (pc + mLen i, lv, p.1, p.2)) := by
  unfold mNx
  simp only [hA, hB, hD, hJ, hG, hN, hV]
  cases mP k0 i o.1 o.2.1 o.2.2.1 st h with
  | none => rfl
  | some s => rfl
theorem zAk_ok {kd a n : Nat} (hz : zAk kd a = some n) : ∃ k, a = 158 + k ∧ k < 48 ∧ zTab[k]? = some (.inr (kd, n)) := by
  unfold zAk at hz
  split at hz
  · cases hz
  · rename_i hb
    split at hz
    · rename_i kd' n' ht
      split at hz
      · rename_i hk
        cases hz
        cases Nat.eq_of_beq_eq_true hk
        have := Nat.le_of_ble_eq_true hb
        exact ⟨a - 158, by omega, (List.getElem?_eq_some_iff.mp ht).1, ht⟩
      · cases hz
    · cases hz
theorem zC_arr {k kd n : Nat} (ht : zTab[k]? = some (.inr (kd, n))) (h1 : kd ≠ 1) : zCell σ k = some (.inl (kd, n, .inl (σ.2.2.1 k))) := by
  unfold zCell zCl0
  rw [ht]
  split
  · rename_i e; cases e
  · rename_i e; cases e; exact absurd rfl h1
  · rename_i e; cases e; rfl
  · rename_i e; cases e
theorem zC_lng {k n : Nat} (ht : zTab[k]? = some (.inr (1, n))) : zCell σ k = some (.inl (1, n, .inr (.inl (σ.2.2.2.1 k)))) := by
  unfold zCell zCl0
  rw [ht]
  rfl
theorem zC_obj {k ci : Nat} {ks : List Nat} (ht : zTab[k]? = some (.inl (ci, ks))) : zCell σ k = some (.inr (ci, zVs σ k 0 ks)) := by
  unfold zCell zCl0
  rw [ht]
theorem zLi_ok {kd : Nat} (h0 : c0.length = 158) (hk : kd ≠ 1) (hG : ∀ (j : Int32) (a n : Nat) (f : Nat → Int32) (r : List Value) (h : mH), h[a]? = some (some (.inl (kd, n, .inl f))) → mG i o.1 o.2.1 o.2.2.2 (.int j :: .ref a :: r) h = if mIn j n = true then some (.int (f j.toNatClampNeg) :: r) else none) (hn : mNx 158 dflt (i, o) pc lv st (zH c0 σ) = (mG i o.1 o.2.1 o.2.2.2 st (zH c0 σ)).map (fun st' => (pc + 1, lv, st', zH c0 σ))) (hz : zLi kd pc lv st σ = some (c, pc', lv', st', σ')) (hq : mNx 158 dflt (i, o) pc lv st (zH c0 σ) = some q) : (∀ p, c = some p → p) ∧ q = (pc', lv', st', zH c0 σ') := by
  unfold zLi at hz
  split at hz
  · rename_i j a r
    split at hz
    · rename_i n ha
      cases hz
      obtain ⟨k, rfl, k1, k2⟩ := zAk_ok ha
      have hc := zH_get (σ := σ) h0 k1
      rw [zC_arr k2 hk] at hc
      rw [hn, hG _ _ _ _ _ _ hc] at hq
      split at hq
      · rename_i hi
        cases hq
        rw [Nat.add_sub_cancel_left]
        exact ⟨fun p hp => (by cases hp; exact hi), rfl⟩
      · cases hq
    · cases hz
  · cases hz
theorem zLl_ok (h0 : c0.length = 158) (hz : zLl pc lv st σ = some (c, pc', lv', st', σ')) (hq : mNx 158 dflt (.laload, o) pc lv st (zH c0 σ) = some q) : (∀ p, c = some p → p) ∧ q = (pc', lv', st', zH c0 σ') := by
  unfold zLl at hz
  split at hz
  · rename_i j a r
    split at hz
    · rename_i n ha
      cases hz
      obtain ⟨k, rfl, k1, k2⟩ := zAk_ok ha
      have hc := zH_get (σ := σ) h0 k1
      rw [zC_lng k2] at hc
      rw [nx_G (fun _ => rfl) (fun _ => rfl) (fun _ _ _ => rfl) (fun _ _ => rfl) (fun _ _ _ _ _ => rfl) (fun _ _ _ => rfl) rfl] at hq
      simp only [mG, hc] at hq
      split at hq
      · rename_i hi
        cases hq
        rw [Nat.add_sub_cancel_left]
        exact ⟨fun p hp => (by cases hp; exact hi), rfl⟩
      · cases hq
    · cases hz
  · cases hz
theorem zSi_ok {kd : Nat} {nar : Int32 → Int32} (h0 : c0.length = 158) (hk : kd ≠ 1) (hG : ∀ (x j : Int32) (a n : Nat) (f : Nat → Int32) (r : List Value) (h : mH), h[a]? = some (some (.inl (kd, n, .inl f))) → mP 158 i o.1 o.2.1 o.2.2.1 (.int x :: .int j :: .ref a :: r) h = if mIn j n = true ∧ 158 ≤ a then some (r, h.set a (some (.inl (kd, n, .inl (upd f j.toNatClampNeg (nar x)))))) else none) (hn : mNx 158 dflt (i, o) pc lv st (zH c0 σ) = (mP 158 i o.1 o.2.1 o.2.2.1 st (zH c0 σ)).map (fun p => (pc + 1, lv, p.1, p.2))) (hz : zSi kd pc nar lv st σ = some (c, pc', lv', st', σ')) (hq : mNx 158 dflt (i, o) pc lv st (zH c0 σ) = some q) : (∀ p, c = some p → p) ∧ q = (pc', lv', st', zH c0 σ') := by
  unfold zSi at hz
  split at hz
  · rename_i x j a r
    split at hz
    · rename_i n ha
      cases hz
      obtain ⟨k, rfl, k1, k2⟩ := zAk_ok ha
      have hc := zH_get (σ := σ) h0 k1
      rw [zC_arr k2 hk] at hc
      rw [hn, hG _ _ _ _ _ _ _ hc] at hq
      split at hq
      · rename_i hi
        cases hq
        rw [Nat.add_sub_cancel_left, ← zH_A h0 k1 k2 hk]
        exact ⟨fun p hp => (by cases hp; exact hi.1), rfl⟩
      · cases hq
    · cases hz
  · cases hz
theorem zSl_ok (h0 : c0.length = 158) (hz : zSl pc lv st σ = some (c, pc', lv', st', σ')) (hq : mNx 158 dflt (.lastore, o) pc lv st (zH c0 σ) = some q) : (∀ p, c = some p → p) ∧ q = (pc', lv', st', zH c0 σ') := by
  unfold zSl at hz
  split at hz
  · rename_i x j a r
    split at hz
    · rename_i n ha
      cases hz
      obtain ⟨k, rfl, k1, k2⟩ := zAk_ok ha
      have hc := zH_get (σ := σ) h0 k1
      rw [zC_lng k2] at hc
      rw [nx_P (fun _ => rfl) (fun _ => rfl) (fun _ _ _ => rfl) (fun _ _ => rfl) (fun _ _ _ _ _ => rfl) (fun _ _ _ => rfl) rfl] at hq
      simp only [mP, hc] at hq
      split at hq
      · rename_i hi
        cases hq
        rw [Nat.add_sub_cancel_left, ← zH_B h0 k1 k2]
        exact ⟨fun p hp => (by cases hp; exact hi.1), rfl⟩
      · cases hq
    · cases hz
  · cases hz
theorem zDi_ok {f : Int32 → Int32 → Int32} (hn : ∀ (x y : Int32) (r : List Value), mNx 158 dflt (i, o) pc lv (.int y :: .int x :: r) (zH c0 σ) = if y = 0 then none else some (pc + 1, lv, .int (f x y) :: r, zH c0 σ)) (hz : zDi f pc lv st σ = some (c, pc', lv', st', σ')) (hq : mNx 158 dflt (i, o) pc lv st (zH c0 σ) = some q) : (∀ p, c = some p → p) ∧ q = (pc', lv', st', zH c0 σ') := by
  unfold zDi at hz
  split at hz
  · rename_i y x r
    cases hz
    rw [hn] at hq
    split at hq
    · cases hq
    · rename_i hy
      cases hq
      exact ⟨fun p hp => (by cases hp; exact hy), rfl⟩
  · cases hz
theorem zDl_ok {f : Int64 → Int64 → Int64} (hn : ∀ (x y : Int64) (r : List Value), mNx 158 dflt (i, o) pc lv (.long y :: .long x :: r) (zH c0 σ) = if y = 0 then none else some (pc + 1, lv, .long (f x y) :: r, zH c0 σ)) (hz : zDl f pc lv st σ = some (c, pc', lv', st', σ')) (hq : mNx 158 dflt (i, o) pc lv st (zH c0 σ) = some q) : (∀ p, c = some p → p) ∧ q = (pc', lv', st', zH c0 σ') := by
  unfold zDl at hz
  split at hz
  · rename_i y x r
    cases hz
    rw [hn] at hq
    split at hq
    · cases hq
    · rename_i hy
      cases hq
      exact ⟨fun p hp => (by cases hp; exact hy), rfl⟩
  · cases hz
theorem zPl_ok (hz : zPl (i, o) pc lv st σ = some (c, pc', lv', st', σ')) (hq : mNx 158 dflt (i, o) pc lv st (zH c0 σ) = some q) : (∀ p, c = some p → p) ∧ q = (pc', lv', st', zH c0 σ') := by
  unfold zPl at hz
  unfold mNx at hq
  split at hz
  · rename_i s hA
    cases hz
    simp only [hA] at hq
    cases hq
    exact ⟨fun p hp => (by cases hp), rfl⟩
  · rename_i hA
    simp only [hA] at hq
    split at hz
    · rename_i v hB
      cases hz
      simp only [hB] at hq
      cases hq
      exact ⟨fun p hp => (by cases hp), rfl⟩
    · rename_i hB
      simp only [hB] at hq
      split at hz
      · rename_i p hD
        cases hz
        simp only [hD] at hq
        cases hq
        exact ⟨fun p hp => (by cases hp), rfl⟩
      · rename_i hD
        simp only [hD] at hq
        split at hz
        · rename_i off hi
          dsimp only at hi
          subst hi
          split at hz
          · rename_i q' ht
            cases hz
            simp only [mJ, ht, Option.map_some] at hq
            cases hq
            exact ⟨fun p hp => (by cases hp), rfl⟩
          · cases hz
        all_goals first
          | (rename_i x hi
             dsimp only at hi
             subst hi
             cases hz
             simp only [mJ, mG] at hq
             cases hq
             exact ⟨fun p hp => (by cases hp), rfl⟩)
          | cases hz
theorem zRf_ok {o1 o2 a : Nat} {v : Option Prop × Value} (h0 : zC0 c0) (hz : zRf σ o1 o2 a = some v) {fs : List Value} {w : Value} (hf : (zH c0 σ)[a]? = some (some (.inr (o1, fs)))) (hw : fs[o2]? = some w) : (∀ p, v.1 = some p → p) ∧ w = v.2 := by
  unfold zRf at hz
  split at hz
  · rename_i hb
    cases Nat.eq_of_beq_eq_true hb
    obtain ⟨a1, a2, a3⟩ := zH_13 h0 (Or.inl rfl) hf
    obtain ⟨b1, rfl⟩ := zO13 a1 a3
    split at hz
    · cases hz; cases hw; exact ⟨fun p hp => (by cases hp; exact b1), rfl⟩
    · cases hz; cases hw; exact ⟨fun p hp => (by cases hp; exact b1), rfl⟩
    · cases hz; cases hw; exact ⟨fun p hp => (by cases hp; exact b1), rfl⟩
    · cases hz
  · split at hz
    · rename_i hb
      cases Nat.eq_of_beq_eq_true hb
      obtain ⟨a1, a2, a3⟩ := zH_13 h0 (Or.inr rfl) hf
      obtain ⟨b1, rfl⟩ := zO14 a1 a3
      split at hz
      · cases hz; cases hw; exact ⟨fun p hp => (by cases hp; exact b1), rfl⟩
      · cases hz; cases hw; exact ⟨fun p hp => (by cases hp; exact b1), rfl⟩
      · cases hz
    · split at hz
      · cases hz
      · rename_i hb
        split at hz
        · rename_i ci ks ht
          split at hz
          · rename_i hc
            cases Nat.eq_of_beq_eq_true hc
            split at hz
            · rename_i kd hk
              cases hz
              have hle := Nat.le_of_ble_eq_true hb
              have := zH_get (σ := σ) h0.1 (List.getElem?_eq_some_iff.mp ht).1
              rw [zC_obj ht, show 158 + (a - 158) = a by omega] at this
              rw [this] at hf
              cases hf
              rw [zVs_get, Nat.zero_add, hk] at hw
              cases hw
              exact ⟨fun p hp => (by cases hp), rfl⟩
            · cases hz
          · cases hz
        · cases hz
theorem mIn_lt {i : Int32} {n : Nat} (h : mIn i n = true) : i.toNatClampNeg < n := by
  unfold mIn at h
  rw [Bool.and_eq_true] at h
  exact of_decide_eq_true h.2
theorem zLo_ok {kd : Nat} (h0 : zC0 c0) (hG : ∀ (j : Int32) (a n : Nat) (f : Nat → Int32) (r : List Value) (h : mH), h[a]? = some (some (.inl (kd, n, .inl f))) → mG i o.1 o.2.1 o.2.2.2 (.int j :: .ref a :: r) h = if mIn j n = true then some (.int (f j.toNatClampNeg) :: r) else none) (hn : mNx 158 dflt (i, o) pc lv st (zH c0 σ) = (mG i o.1 o.2.1 o.2.2.2 st (zH c0 σ)).map (fun st' => (pc + 1, lv, st', zH c0 σ))) (hz : zLo kd pc lv st σ = some (c, pc', lv', st', σ')) (hq : mNx 158 dflt (i, o) pc lv st (zH c0 σ) = some q) : (∀ p, c = some p → p) ∧ q = (pc', lv', st', zH c0 σ') := by
  unfold zLo at hz
  split at hz
  · rename_i j a r
    split at hz
    · rename_i hb
      rw [Bool.and_eq_true] at hb
      split at hz
      · rename_i kd' n f hc
        split at hz
        · rename_i hk
          cases Nat.eq_of_beq_eq_true hk
          cases hz
          obtain ⟨cc, ho, hz2⟩ := zH_old (σ := σ) h0 (Nat.le_of_ble_eq_true hb.1) (Nat.le_of_ble_eq_true hb.2)
          rw [hc] at hz2
          obtain ⟨f', hf1, hf2⟩ : ∃ f', cc = some (.inl (kd, n, .inl f')) ∧ ∀ j, j < n → f' j = f j := by
            rcases hz2 with e | ⟨k, m, g, g', e1, e2, e3⟩ | ⟨k, m, g, g', e1, e2, e3⟩
            · exact ⟨f, e, fun _ _ => rfl⟩
            · cases e2
              exact ⟨g, e1, e3⟩
            · cases e2
          rw [hf1] at ho
          rw [hn, hG _ _ _ _ _ _ ho] at hq
          split at hq
          · rename_i hi
            cases hq
            rw [hf2 _ (mIn_lt hi)]
            exact ⟨fun p hp => (by cases hp; exact hi), rfl⟩
          · cases hq
        · cases hz
      · cases hz
    · cases hz
  · cases hz
theorem zLa_ok (h0 : zC0 c0) (hz : zLa pc lv st σ = some (c, pc', lv', st', σ')) (hq : mNx 158 dflt (.aaload, o) pc lv st (zH c0 σ) = some q) : (∀ p, c = some p → p) ∧ q = (pc', lv', st', zH c0 σ') := by
  unfold zLa at hz
  split at hz
  · rename_i j a r
    split at hz
    · rename_i hb
      cases Nat.eq_of_beq_eq_true hb
      cases hz
      obtain ⟨cc, ho, hz2⟩ := zH_old (σ := σ) h0 (a := 52) (by decide) (by decide)
      obtain ⟨f', hf1, hf2⟩ : ∃ f', cc = some (.inl (6, 50, .inr (.inr (.inr (.inr f'))))) ∧ ∀ j, j < 50 → f' j = some (j + 2) := by
        have hz3 : zEq cc (some (.inl (6, 50, .inr (.inr (.inr (.inr (fun j => some (j + 2)))))))) := hz2
        rcases hz3 with e | ⟨k, m, g, g', e1, e2, e3⟩ | ⟨k, m, g, g', e1, e2, e3⟩
        · exact ⟨_, e, fun _ _ => rfl⟩
        · cases e2
        · cases e2
          exact ⟨g, e1, e3⟩
      rw [hf1] at ho
      rw [nx_G (fun _ => rfl) (fun _ => rfl) (fun _ _ _ => rfl) (fun _ _ => rfl) (fun _ _ _ _ _ => rfl) (fun _ _ _ => rfl) rfl] at hq
      simp only [mG, ho] at hq
      split at hq
      · rename_i hi
        rw [hf2 _ (mIn_lt hi)] at hq
        cases hq
        exact ⟨fun p hp => (by cases hp; exact hi), rfl⟩
      · cases hq
    · cases hz
  · cases hz
theorem zWk_ok {k ci o2 o3 : Nat} {ks : List Nat} {v : Value} (h0 : c0.length = 158) (hk : k < 48) (ht : zTab[k]? = some (.inl (ci, ks))) (hf : mFit o3 v = true) (hz : zWk σ k o2 o3 ks[o2]? v = some (c, σ')) : (∀ p, c = some p → p) ∧ (zH c0 σ).set (158 + k) (some (.inr (ci, (zVs σ k 0 ks).set o2 v))) = zH c0 σ' := by
  unfold zWk at hz
  split at hz
  · rename_i x hi
    cases hz
    exact ⟨fun p hp => (by cases hp), zH_I h0 hk ht hi (Or.inl rfl)⟩
  · rename_i x hi
    cases hz
    exact ⟨fun p hp => (by cases hp; exact hf), zH_I h0 hk ht hi (Or.inr rfl)⟩
  · rename_i x hi
    cases hz
    exact ⟨fun p hp => (by cases hp), zH_L h0 hk ht hi⟩
  · rename_i x hi
    cases hz
    exact ⟨fun p hp => (by cases hp), zH_Q h0 hk ht hi⟩
  · cases hz
theorem zCy_ok {x : Nat} (h0 : c0.length = 158) (hz : zCy o.2.2.1 pc lv st σ = some (c, pc', lv', st', σ')) (hq : mNx 158 dflt (.invokestatic x, o) pc lv st (zH c0 σ) = some q) : (∀ p, c = some p → p) ∧ q = (pc', lv', st', zH c0 σ') := by
  have hn : mNx 158 dflt (.invokestatic x, o) pc lv st (zH c0 σ) = (match mX o.2.2.1 st (zH c0 σ) with
    | some (st', h') => some (pc + 3, lv, st', h')
    | none => match mY 158 o.2.2.1 st (zH c0 σ) with
      | some (st', h') => some (pc + 3, lv, st', h')
      | none => none) := rfl
  rw [hn] at hq
  unfold zCy at hz
  split at hz
  · rename_i ho
    split at hz
    · cases hz
      rw [ho] at hq
      simp only [mX, mY] at hq
      split at hq
      · cases hq
        rename_i hs
        split at hs
        · cases hs
          exact ⟨fun p hp => (by cases hp), rfl⟩
        · cases hs
      · cases hq
    · cases hz
  · rename_i ho
    split at hz
    · cases hz
      rw [ho] at hq
      simp only [mX, mY] at hq
      split at hq
      · cases hq
        rename_i hs
        split at hs
        · cases hs
          exact ⟨fun p hp => (by cases hp), rfl⟩
        · cases hs
      · cases hq
    · cases hz
  · rename_i ho
    split at hz
    · rename_i n dp a sp b
      split at hz
      · rename_i n1 n0 ha hb
        cases hz
        obtain ⟨k, rfl, k1, k2⟩ := zAk_ok ha
        obtain ⟨j, rfl, j1, j2⟩ := zAk_ok hb
        have hc := zH_get (σ := σ) h0 k1
        rw [zC_arr k2 (by decide)] at hc
        have hd := zH_get (σ := σ) h0 j1
        rw [zC_arr j2 (by decide)] at hd
        rw [ho] at hq
        simp only [mX, mY, hc, hd] at hq
        split at hq
        · cases hq
          rename_i hs
          split at hs
          · rename_i hcond
            cases hs
            rw [Nat.add_sub_cancel_left, Nat.add_sub_cancel_left, ← zH_A h0 k1 k2 (by decide)]
            exact ⟨fun p hp => (by cases hp; exact hcond.1), rfl⟩
          · cases hs
        · cases hq
      · cases hz
    · cases hz
  · rename_i ho
    split at hz
    · rename_i n dp a sp b
      split at hz
      · rename_i n1 n0 ha hb
        cases hz
        obtain ⟨k, rfl, k1, k2⟩ := zAk_ok ha
        obtain ⟨j, rfl, j1, j2⟩ := zAk_ok hb
        have hc := zH_get (σ := σ) h0 k1
        rw [zC_lng k2] at hc
        have hd := zH_get (σ := σ) h0 j1
        rw [zC_lng j2] at hd
        rw [ho] at hq
        simp only [mX, mY, hc, hd] at hq
        split at hq
        · cases hq
          rename_i hs
          split at hs
          · rename_i hcond
            cases hs
            rw [Nat.add_sub_cancel_left, Nat.add_sub_cancel_left, ← zH_B h0 k1 k2]
            exact ⟨fun p hp => (by cases hp; exact hcond.1), rfl⟩
          · cases hs
        · cases hq
      · cases hz
    · cases hz
  · cases hz
theorem zLn_ok (h0 : zC0 c0) (hz : zLn pc lv st σ = some (c, pc', lv', st', σ')) (hq : mNx 158 dflt (.arraylength, o) pc lv st (zH c0 σ) = some q) : (∀ p, c = some p → p) ∧ q = (pc', lv', st', zH c0 σ') := by
  unfold zLn at hz
  rw [nx_G (fun _ => rfl) (fun _ => rfl) (fun _ _ _ => rfl) (fun _ _ => rfl) (fun _ _ _ _ _ => rfl) (fun _ _ _ => rfl) rfl] at hq
  split at hz
  · rename_i a r
    split at hz
    · rename_i hb
      rw [Bool.and_eq_true] at hb
      obtain ⟨cc, ho, hz2⟩ := zH_old (σ := σ) h0 (Nat.le_of_ble_eq_true hb.1) (Nat.le_of_ble_eq_true hb.2)
      split at hz
      · rename_i n f hc
        cases hz
        rw [hc] at hz2
        rcases hz2 with e | ⟨k, m, g, g', e1, e2, e3⟩ | ⟨k, m, g, g', e1, e2, e3⟩
        · rw [e] at ho
          simp only [mG, ho] at hq
          cases hq
          exact ⟨fun p hp => (by cases hp), rfl⟩
        · cases e2
          rw [e1] at ho
          simp only [mG, ho] at hq
          cases hq
          exact ⟨fun p hp => (by cases hp), rfl⟩
        · cases e2
      · rename_i n f hc
        cases hz
        rw [hc] at hz2
        rcases hz2 with e | ⟨k, m, g, g', e1, e2, e3⟩ | ⟨k, m, g, g', e1, e2, e3⟩
        · rw [e] at ho
          simp only [mG, ho] at hq
          cases hq
          exact ⟨fun p hp => (by cases hp), rfl⟩
        · cases e2
        · cases e2
          rw [e1] at ho
          simp only [mG, ho] at hq
          cases hq
          exact ⟨fun p hp => (by cases hp), rfl⟩
      · cases hz
    · split at hz
      · rename_i n ha
        cases hz
        obtain ⟨k, rfl, k1, k2⟩ := zAk_ok ha
        have hc := zH_get (σ := σ) h0.1 k1
        rw [zC_arr k2 (by decide)] at hc
        simp only [mG, hc] at hq
        cases hq
        exact ⟨fun p hp => (by cases hp), rfl⟩
      · cases hz
  · cases hz
theorem zSt_ok (h0 : zC0 c0) (hz : zSt (i, o) pc lv st σ = some (c, pc', lv', st', σ')) (hq : mNx 158 dflt (i, o) pc lv st (zH c0 σ) = some q) : (∀ p, c = some p → p) ∧ q = (pc', lv', st', zH c0 σ') := by
  unfold zSt at hz
  split at hz
  · rename_i x hi
    dsimp only at hi
    subst hi
    split at hz
    · rename_i a r
      split at hz
      · rename_i v hv
        cases hz
        rw [nx_G (fun _ => rfl) (fun _ => rfl) (fun _ _ _ => rfl) (fun _ _ => rfl) (fun _ _ _ _ _ => rfl) (fun _ _ _ => rfl) rfl] at hq
        cases hg : mG (.getfield x) o.1 o.2.1 o.2.2.2 (.ref a :: r) (zH c0 σ) with
        | none => rw [hg] at hq; cases hq
        | some s1 =>
          rw [hg] at hq
          cases hq
          simp only [mG] at hg
          split at hg
          · rename_i ci fs hf
            split at hg
            · rename_i hci
              subst hci
              cases hw : fs[o.2.1]? with
              | none => rw [hw] at hg; cases hg
              | some w =>
                rw [hw] at hg
                cases hg
                obtain ⟨g1, rfl⟩ := zRf_ok h0 hv hf hw
                exact ⟨g1, rfl⟩
            · cases hg
          · cases hg
      · cases hz
    · cases hz
  · rename_i x hi
    dsimp only at hi
    subst hi
    split at hz
    · rename_i v a r
      split at hz
      · rename_i p hp
        cases hz
        unfold zWf at hp
        split at hp
        · cases hp
        · rename_i hb
          split at hp
          · rename_i ci ks ht
            split at hp
            · rename_i hc
              have hae : 158 + (a - 158) = a := Nat.add_sub_cancel' (Nat.le_of_ble_eq_true hb)
              have hk := (List.getElem?_eq_some_iff.mp ht).1
              have hg := zH_get (σ := σ) h0.1 hk
              rw [zC_obj ht, hae] at hg
              rw [nx_P (fun _ => rfl) (fun _ => rfl) (fun _ _ _ => rfl) (fun _ _ => rfl) (fun _ _ _ _ _ => rfl) (fun _ _ _ => rfl) rfl] at hq
              simp only [mP, hg] at hq
              split at hq
              · rename_i hf
                cases hq
                obtain ⟨w1, w2⟩ := zWk_ok (c := p.1) (σ' := p.2) h0.1 hk ht hf.2.2.2 hp
                rw [hae] at w2
                exact ⟨w1, by rw [← w2]; rfl⟩
              · cases hq
            · cases hp
          · cases hp
      · cases hz
    · cases hz
  · rename_i hi
    dsimp only at hi
    subst hi
    split at hz
    · rename_i z hz1
      cases hz
      exact zLi_ok h0.1 (by decide) (fun j a n f r h hc => by simp only [mG, hc]) (nx_G (fun _ => rfl) (fun _ => rfl) (fun _ _ _ => rfl) (fun _ _ => rfl) (fun _ _ _ _ _ => rfl) (fun _ _ _ => rfl) rfl) hz1 hq
    · exact zLo_ok h0 (fun j a n f r h hc => by simp only [mG, hc]) (nx_G (fun _ => rfl) (fun _ => rfl) (fun _ _ _ => rfl) (fun _ _ => rfl) (fun _ _ _ _ _ => rfl) (fun _ _ _ => rfl) rfl) hz hq
  · rename_i hi
    dsimp only at hi
    subst hi
    exact zLi_ok h0.1 (by decide) (fun j a n f r h hc => by simp only [mG, hc]) (nx_G (fun _ => rfl) (fun _ => rfl) (fun _ _ _ => rfl) (fun _ _ => rfl) (fun _ _ _ _ _ => rfl) (fun _ _ _ => rfl) rfl) hz hq
  · rename_i hi
    dsimp only at hi
    subst hi
    split at hz
    · rename_i z hz1
      cases hz
      exact zLi_ok h0.1 (by decide) (fun j a n f r h hc => by simp only [mG, hc]) (nx_G (fun _ => rfl) (fun _ => rfl) (fun _ _ _ => rfl) (fun _ _ => rfl) (fun _ _ _ _ _ => rfl) (fun _ _ _ => rfl) rfl) hz1 hq
    · exact zLo_ok h0 (fun j a n f r h hc => by simp only [mG, hc]) (nx_G (fun _ => rfl) (fun _ => rfl) (fun _ _ _ => rfl) (fun _ _ => rfl) (fun _ _ _ _ _ => rfl) (fun _ _ _ => rfl) rfl) hz hq
  · rename_i hi
    dsimp only at hi
    subst hi
    exact zLa_ok h0 hz hq
  · rename_i hi
    dsimp only at hi
    subst hi
    exact zLl_ok h0.1 hz hq
  · rename_i hi
    dsimp only at hi
    subst hi
    exact zSi_ok h0.1 (by decide) (fun x j a n f r h hc => by simp only [mP, hc]) (nx_P (fun _ => rfl) (fun _ => rfl) (fun _ _ _ => rfl) (fun _ _ => rfl) (fun _ _ _ _ _ => rfl) (fun _ _ _ => rfl) rfl) hz hq
  · rename_i hi
    dsimp only at hi
    subst hi
    exact zSi_ok h0.1 (by decide) (fun x j a n f r h hc => by simp only [mP, hc]) (nx_P (fun _ => rfl) (fun _ => rfl) (fun _ _ _ => rfl) (fun _ _ => rfl) (fun _ _ _ _ _ => rfl) (fun _ _ _ => rfl) rfl) hz hq
  · rename_i hi
    dsimp only at hi
    subst hi
    exact zSi_ok h0.1 (by decide) (fun x j a n f r h hc => by simp only [mP, hc]) (nx_P (fun _ => rfl) (fun _ => rfl) (fun _ _ _ => rfl) (fun _ _ => rfl) (fun _ _ _ _ _ => rfl) (fun _ _ _ => rfl) rfl) hz hq
  · rename_i hi
    dsimp only at hi
    subst hi
    exact zSl_ok h0.1 hz hq
  · rename_i hi
    dsimp only at hi
    subst hi
    exact zDi_ok (fun x y r => by
      by_cases hy : y = 0
      · rw [if_pos hy]; simp only [mNx, mA, m2d, if_pos hy]; rfl
      · rw [if_neg hy]; simp only [mNx, mA, m2d, if_neg hy]; rfl) hz hq
  · rename_i hi
    dsimp only at hi
    subst hi
    exact zDi_ok (fun x y r => by
      by_cases hy : y = 0
      · rw [if_pos hy]; simp only [mNx, mA, m2d, if_pos hy]; rfl
      · rw [if_neg hy]; simp only [mNx, mA, m2d, if_neg hy]; rfl) hz hq
  · rename_i hi
    dsimp only at hi
    subst hi
    exact zDl_ok (fun x y r => by
      by_cases hy : y = 0
      · rw [if_pos hy]; simp only [mNx, mA, m2e, if_pos hy]; rfl
      · rw [if_neg hy]; simp only [mNx, mA, m2e, if_neg hy]; rfl) hz hq
  · rename_i hi
    dsimp only at hi
    subst hi
    exact zDl_ok (fun x y r => by
      by_cases hy : y = 0
      · rw [if_pos hy]; simp only [mNx, mA, m2e, if_pos hy]; rfl
      · rw [if_neg hy]; simp only [mNx, mA, m2e, if_neg hy]; rfl) hz hq
  · rename_i x hi
    dsimp only at hi
    subst hi
    exact zCy_ok h0.1 hz hq
  · rename_i hi
    dsimp only at hi
    subst hi
    exact zLn_ok h0 hz hq
  · exact zPl_ok hz hq
end ZN
