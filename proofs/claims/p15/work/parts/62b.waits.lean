/-! WAITS: the same on both sides -/
def wtE (G O K H : Nat → Int32) (i : Nat) : Prop := ((G i = -1 ∧ O i = 0) ∨ ((G i).toInt = 100 * (K i).toInt + (H i).toInt ∧ ¬ O i = 0)) ∧ (0 ≤ (K i).toInt ∧ (K i).toInt ≤ 2) ∧ (0 ≤ (H i).toInt ∧ (H i).toInt < 100)
def wtP (P R S : Nat → Int32) (i : Nat) : Prop := P i = R i ∧ 0 ≤ (P i).toInt ∧ (P i).toInt < 200 ∧ ¬ S (P i).toNatClampNeg = 0
theorem nb0 : vp_nar .boolean 0 = 0 := by decide
theorem nb1 : vp_nar .boolean 1 = 1 := by decide
theorem wtE_iff {G O K H : Nat → Int32} {i : Nat} {tg kd x : Int32} (h : wtE G O K H i) (htg : tg.toInt = 100 * kd.toInt + x.toInt) (hkd : 0 ≤ kd.toInt ∧ kd.toInt ≤ 2) (hx : 0 ≤ x.toInt ∧ x.toInt < 100) : G i = tg ↔ (¬ O i = 0 ∧ K i = kd ∧ H i = x) := by
  obtain ⟨h1, h2, h3⟩ := h
  constructor
  · intro e
    rcases h1 with ⟨a, b⟩ | ⟨a, b⟩
    · exfalso
      rw [e] at a
      rw [a, show (-1 : Int32).toInt = -1 from rfl] at htg
      omega
    · rw [e] at a
      exact ⟨b, Int32.toInt_inj.mp (by omega), Int32.toInt_inj.mp (by omega)⟩
  · rintro ⟨a, b, c⟩
    rcases h1 with ⟨a', b'⟩ | ⟨a', b'⟩
    · exact absurd b' a
    · apply Int32.toInt_inj.mp
      rw [a', b, c, htg]
theorem fill_ok {tg vl cur kd x : Int32} {ln P K H R S : Nat → Int32} {wc fi : Nat} (htg : tg.toInt = 100 * kd.toInt + x.toInt) (hkd : 0 ≤ kd.toInt ∧ kd.toInt ≤ 2) (hx : 0 ≤ x.toInt ∧ x.toInt < 100) (hln : ∀ i, i < wc → (ln i = cur ↔ fi ≤ i)) (hP : ∀ i, i < wc → wtP P R S i) : ∀ (k i : Nat) (W G I O : Nat → Int32), i + k = wc → fi ≤ wc → vlR 200 W S I → (∀ j, j < wc → wtE G O K H j) → (zFill tg vl cur ln P k i W G = none ∧ ySetF kd x vl K H R (fi - i) i I O = none) ∨ ∃ W' G' I' O', zFill tg vl cur ln P k i W G = some (W', G') ∧ ySetF kd x vl K H R (fi - i) i I O = some (I', O') ∧ vlR 200 W' S I' ∧ (∀ j, j < wc → wtE G' O' K H j)
  | 0, i, W, G, I, O, hi, hfi, hW, hG => by
    rw [show fi - i = 0 by omega]
    exact .inr ⟨W, G, I, O, rfl, rfl, hW, hG⟩
  | k + 1, i, W, G, I, O, hi, hfi, hW, hG => by
    have hc := wtE_iff (hG i (by omega)) htg hkd hx
    unfold zFill
    by_cases hf : fi ≤ i
    · rw [if_neg (fun q => q.2 ((hln i (by omega)).2 hf))]
      have ih := fill_ok (vl := vl) htg hkd hx hln hP k (i + 1) W G I O (by omega) hfi hW hG
      rw [show fi - (i + 1) = 0 by omega] at ih
      rw [show fi - i = 0 by omega]
      exact ih
    · have hnl : ¬ ln i = cur := fun q => hf ((hln i (by omega)).1 q)
      rw [show fi - i = (fi - (i + 1)) + 1 by omega]
      unfold ySetF
      by_cases hg : G i = tg
      · rw [if_pos ⟨hg, hnl⟩, if_pos (hc.1 hg)]
        by_cases hm : zMag vl < 4096
        · rw [if_pos hm, if_pos hm]
          obtain ⟨p1, p2, p3, p4⟩ := hP i (by omega)
          have hp := tn_i p2
          rcases hW _ (show (P i).toNatClampNeg < 200 by omega) with ⟨_, w⟩ | ⟨w1, w2, w3⟩
          · exact absurd w p4
          · refine fill_ok (vl := vl) htg hkd hx hln hP k (i + 1) _ _ _ _ (by omega) hfi ?_ ?_
            · intro a ha
              rw [upd_eq, upd_eq, ← p1]
              by_cases e : a = (P i).toNatClampNeg
              · rw [if_pos e, if_pos e]
                right
                rw [zSto_adr w1 hm, w2, e]
                exact ⟨yAdr_nn hm, rfl, w3⟩
              · rw [if_neg e, if_neg e]
                exact hW a ha
            · intro j hj
              unfold wtE
              rw [upd_eq, upd_eq, nb0]
              by_cases e : j = i
              · rw [if_pos e, if_pos e]
                exact ⟨.inl ⟨rfl, rfl⟩, (hG j hj).2⟩
              · rw [if_neg e, if_neg e]
                exact hG j hj
        · rw [if_neg hm, if_neg hm]
          exact .inl ⟨rfl, rfl⟩
      · rw [if_neg (fun q => hg q.1), if_neg (fun q => hg (hc.2 q))]
        exact fill_ok (vl := vl) htg hkd hx hln hP k (i + 1) W G I O (by omega) hfi hW hG
/-- which waits have an end -/
theorem ySetF_O {kd x w : Int32} {K H R : Nat → Int32} : ∀ (n i : Nat) (I O I' O' : Nat → Int32), ySetF kd x w K H R n i I O = some (I', O') → ∀ j, ((i ≤ j ∧ j < i + n) ∧ K j = kd ∧ H j = x → O' j = 0) ∧ (¬ ((i ≤ j ∧ j < i + n) ∧ K j = kd ∧ H j = x) → O' j = O j)
  | 0, i, I, O, I', O', h, j => by
    cases h
    exact ⟨fun q => by omega, fun _ => rfl⟩
  | n + 1, i, I, O, I', O', h, j => by
    unfold ySetF at h
    split at h
    · rename_i hc
      split at h
      · have ih := ySetF_O n (i + 1) _ _ _ _ h j
        rw [upd_eq, nb0] at ih
        by_cases e : j = i
        · rw [if_pos e] at ih
          have z := ih.2 (fun q => by omega)
          exact ⟨fun _ => z, fun q => absurd (by rw [e]; exact ⟨⟨by omega, by omega⟩, hc.2⟩) q⟩
        · rw [if_neg e] at ih
          exact ⟨fun q => ih.1 ⟨⟨by omega, by omega⟩, q.2⟩, fun q => ih.2 (fun q' => q ⟨⟨by omega, by omega⟩, q'.2⟩)⟩
      · cases h
    · rename_i hc
      have ih := ySetF_O n (i + 1) _ _ _ _ h j
      by_cases e : j = i
      · have z := ih.2 (fun q => by omega)
        refine ⟨fun q => ?_, fun _ => z⟩
        rw [z]
        apply Decidable.byContradiction
        intro k
        rw [e] at k q
        exact hc ⟨k, q.2⟩
      · exact ⟨fun q => ih.1 ⟨⟨by omega, by omega⟩, q.2⟩, fun q => ih.2 (fun q' => q ⟨⟨by omega, by omega⟩, q'.2⟩)⟩
