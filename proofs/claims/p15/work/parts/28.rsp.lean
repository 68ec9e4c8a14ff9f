/-! A STEP WITH CALLS, RETURNS AND THROWS IS SOUND -/
/-- one of what can come of a state comes of it -/
def rHit (c0 : mH) (ρ : List Int) (E : Nat → Nat → mL → List Value → mH → Option (mO × mH)) (pc : Nat) (lc : mL) (stc : List Value) (hc : mH) (q : rT ⊕ rR) : Prop := match q with
  | .inl t => ∃ ex, rOk (ρ ++ ex) t.1 ∧ ∃ lc' stc' hc', rEv (ρ ++ ex) t.2.2.1 = some lc' ∧ rEs (ρ ++ ex) t.2.2.2.1 = some stc' ∧ rHr c0 (ρ ++ ex) t.2.2.2.2 hc' ∧ ∃ j, ∀ n, E (n + j) pc lc stc hc = E n t.2.1 lc' stc' hc'
  | .inr r => ∃ ex, rOk (ρ ++ ex) r.1 ∧ ∃ oc hc', rOut (ρ ++ ex) r.2.1 oc hc' ∧ rHr c0 (ρ ++ ex) r.2.2 hc' ∧ ∃ j, ∀ n, E (n + j) pc lc stc hc = some (oc, hc')
theorem rMap_mem {α β : Type} {f : α → Option β} : ∀ {l : List α} {ls : List β} {x : α}, rMap f l = some ls → x ∈ l → ∃ y, f x = some y ∧ y ∈ ls
  | [], _, _, _, hx => by cases hx
  | a :: r, ls, x, h, hx => by
    unfold rMap at h
    split at h
    · cases h
    · rename_i b hb
      split at h
      · cases h
      · rename_i l hl
        cases h
        rcases List.mem_cons.mp hx with rfl | hx
        · exact ⟨b, hb, List.mem_cons_self⟩
        · obtain ⟨y, y1, y2⟩ := rMap_mem hl hx
          exact ⟨y, y1, List.mem_cons_of_mem _ y2⟩
theorem rEs_app {ρ : List Int} : ∀ {a b x y : List Value}, rEs ρ a = some x → rEs ρ b = some y → rEs ρ (a ++ b) = some (x ++ y)
  | [], b, x, y, h1, h2 => by cases h1; exact h2
  | v :: r, b, x, y, h1, h2 => by
    obtain ⟨c, l, e1, e2, rfl⟩ := rEs_cons h1
    exact rEs_mk e1 (rEs_app e2 h2)
theorem rEs_take {ρ : List Int} : ∀ (k : Nat) {a x : List Value}, rEs ρ a = some x → rEs ρ (a.take k) = some (x.take k) ∧ rEs ρ (a.drop k) = some (x.drop k)
  | 0, a, x, h => ⟨rfl, h⟩
  | k + 1, [], x, h => by cases h; exact ⟨rfl, rfl⟩
  | k + 1, v :: r, x, h => by
    obtain ⟨c, l, e1, e2, rfl⟩ := rEs_cons h
    obtain ⟨k1, k2⟩ := rEs_take k e2
    exact ⟨rEs_mk e1 k1, k2⟩
theorem rEs_rev {ρ : List Int} {a x : List Value} (h : rEs ρ a = some x) : rEs ρ a.reverse = some x.reverse := by
  induction a generalizing x with
  | nil => cases h; rfl
  | cons v r ih =>
    obtain ⟨c, l, e1, e2, rfl⟩ := rEs_cons h
    rw [List.reverse_cons, List.reverse_cons]
    exact rEs_app (ih e2) (rEs_mk e1 rfl)
section SP
variable {ρ : List Int} {c0 : mH} {k0 : Nat} {dflt : Nat → List Value} {P : Nat → Nat → Option mI} {Hn : Nat → List (Nat × Nat × Nat × Nat)} {dp : Nat} {acall : Nat → List Value → rF → rH → Option (List rR)} {call : Nat → List Value → mH → Option (mO × mH)} {mi : Nat}
set_option maxHeartbeats 2000000 in
theorem rSp_ok (hcall : ∀ (ρ : List Int) ce as fs h rs asc hc, acall ce as fs h = some rs → rOk ρ fs → rEs ρ as = some asc → rHr c0 ρ h hc → ∃ r ∈ rs, ∃ ex, rOk (ρ ++ ex) r.1 ∧ ∃ oc hc', rOut (ρ ++ ex) r.2.1 oc hc' ∧ rHr c0 (ρ ++ ex) r.2.2 hc' ∧ call ce asc hc = some (oc, hc'))
    {s : rT} {l : List (rT ⊕ rR)} {lc : mL} {stc : List Value} {hc : mH} (hn : s.1.length < 60000) (hO : rOk ρ s.1) (hl : rEv ρ s.2.2.1 = some lc) (hs : rEs ρ s.2.2.2.1 = some stc) (hh : rHr c0 ρ s.2.2.2.2 hc) (h : rSp k0 P Hn dp acall mi s = some l) : ∃ q ∈ l, rHit c0 ρ (fun n => evF k0 dflt P Hn dp call n mi) s.2.1 lc stc hc q := by
  obtain ⟨fs, pc, lv, st, hp⟩ := s
  dsimp only at hn hO hl hs hh ⊢
  unfold rSp at h
  dsimp only at h
  split at h
  · cases h
  rename_i e he
  split at h
  · rename_i hrt
    split at h
    · rename_i v hv
      cases h
      obtain ⟨oc, o1, o2⟩ := rRt_ok hO hs hv hc
      refine ⟨_, List.mem_cons_self, [], by rw [List.append_nil]; exact hO, .inl oc, hc, by rw [List.append_nil]; exact o2, by rw [List.append_nil]; exact hh, 1, fun n => ?_⟩
      dsimp only
      rw [evF, he]
      dsimp only
      rw [o1]
    · cases h
  rename_i hrt
  split at h
  · rename_i x hx
    split at h
    · rename_i hq
      cases ht : rTl fs hp.2 with
      | none => rw [ht] at h; cases h
      | some t =>
        rw [ht] at h
        cases h
        have hst : st = [] := by simpa using hq.2
        subst hst
        cases hs
        obtain ⟨⟨y, y1, y0, y2⟩, y3, y4, y5⟩ := hh
        have hy : ∃ y', rE ρ t = some (.int y') ∧ 0 ≤ y'.toInt ∧ y'.toInt = y.toInt + 1 := by
          unfold rTl at ht
          split at ht
          · rename_i b hb
            rw [hb] at y1
            obtain ⟨w, w1, w2, -, -⟩ := rPlus_ok hO ht hn y1
            exact ⟨w, w1, by omega, w2⟩
          · rename_i xx hb
            split at ht
            · rename_i hlt
              cases ht
              rw [hb] at y1
              cases y1
              have e1 : (1 : Int32).toInt = 1 := rfl
              have e2 : (y + 1).toInt = y.toInt + 1 := by
                rw [rAdd_ok (by rw [e1]; unfold rI0; omega) (by rw [e1]; unfold rI1; omega), e1]
              exact ⟨_, rfl, by omega, e2⟩
            · cases ht
          · cases ht
        obtain ⟨y', w1, w2, w3⟩ := hy
        refine ⟨_, List.mem_cons_self, [], by rw [List.append_nil]; exact hO, .inr (x, hc.length), hc ++ [mEx x], by rw [List.append_nil]; exact ⟨hc.length, by rw [List.length_append]; exact Nat.lt_succ_self _, rfl⟩, ?_, 1, fun n => ?_⟩
        · rw [List.append_nil]
          refine ⟨⟨y', w1, w2, by rw [List.length_append]; show ((hc.length + 1 : Nat) : Int) = 206 + y'.toInt; omega⟩, fun i a ha => ?_, fun i hi hn2 => ?_, y5⟩
          · obtain ⟨c, c1, c2⟩ := y3 i a ha
            exact ⟨c, by rw [List.getElem?_append_left (List.getElem?_eq_some_iff.mp c1).1]; exact c1, c2⟩
          · rw [List.getElem?_append_left (by omega)]
            exact y4 i hi hn2
        · dsimp only
          rw [evF, he]
          dsimp only
          rw [rRx_no hrt, hx]
          dsimp only
          rw [if_pos ⟨hq.1, rfl⟩]
    · cases h
  rename_i hth
  split at h
  · rename_i hiv
    split at h
    · rename_i hq
      split at h
      · rename_i rs hrs
        obtain ⟨ht, hd⟩ := rEs_take e.2.2.1 hs
        obtain ⟨r, r1, ex, r2, oc, hc', r3, r4, r5⟩ := hcall ρ _ _ _ _ _ _ hc hrs hO (rEs_rev ht) hh
        obtain ⟨y, y1, y2⟩ := rMap_mem h r1
        refine ⟨y, y2, ?_⟩
        have hcl : mCl e stc hc = some (e.2.1, (stc.take e.2.2.1).reverse, stc.drop e.2.2.1) := by
          unfold mCl
          refine if_pos ⟨hiv.1, hiv.2, by rw [rEs_len hs]; exact hq.1, ?_, rRc_ok hO hh (rEs_rev ht) hq.2.2⟩
          rw [rEs_cats hd]
          exact hq.2.1
        obtain ⟨rf, ro, rh⟩ := r
        cases ro with
        | inl v =>
          unfold rAf at y1
          dsimp only at y1
          split at y1
          rotate_left
          · cases y1
          cases y1
          cases v with
          | none =>
            have r3 : oc = .inl none := r3
            subst r3
            refine ⟨ex, r2, lc, stc.drop e.2.2.1, hc', rEv_ext ex hl, rEs_ext ex hd, r4, 1, fun n => ?_⟩
            dsimp only
            rw [evF, he]
            dsimp only
            rw [rRx_no hrt, hth]
            dsimp only
            rw [hcl]
            dsimp only
            rw [r5]
            rfl
          | some v =>
            obtain ⟨c, c1, rfl⟩ := r3
            refine ⟨ex, r2, lc, c :: stc.drop e.2.2.1, hc', rEv_ext ex hl, rEs_mk c1 (rEs_ext ex hd), r4, 1, fun n => ?_⟩
            dsimp only
            rw [evF, he]
            dsimp only
            rw [rRx_no hrt, hth]
            dsimp only
            rw [hcl]
            dsimp only
            rw [r5]
            rfl
        | inr x =>
          obtain ⟨a, a1, rfl⟩ := r3
          unfold rAf at y1
          dsimp only at y1
          split at y1
          · rename_i hp' hhd
            split at y1
            · rename_i q hq3
              split at y1
              rotate_left
              · cases y1
              cases y1
              obtain ⟨⟨z, z1, z0, z2⟩, z3⟩ := id r4
              obtain ⟨z', e1, e2, e3⟩ := rRg_ok r2 hq3 z1
              cases e1
              have hpush := r2.push (z := (a : Int)) (l := 0) (u := 206 + q.2) (by omega) (by omega) (by omega) (by have := rRg_le hq3; unfold rI1 at this; omega)
              refine ⟨ex ++ [(a : Int)], by rw [← List.append_assoc]; exact hpush, lc, [.ref a], hc', by rw [← List.append_assoc]; exact rEv_ext _ (rEv_ext ex hl), ?_, by rw [← List.append_assoc]; exact rHr_ext _ r4, 1, fun n => ?_⟩
              · rw [← List.append_assoc]
                refine rEs_mk ?_ rfl
                rw [rE_r, ← r2.1, List.getElem?_append_right (Nat.le_refl _), Nat.sub_self]
                rfl
              · dsimp only
                rw [evF, he]
                dsimp only
                rw [rRx_no hrt, hth]
                dsimp only
                rw [hcl]
                dsimp only
                rw [r5]
                dsimp only
                rw [hhd]
            · cases y1
          · rename_i hhd
            split at y1
            · rename_i hemp
              cases y1
              refine ⟨ex, r2, .inr (x, a), hc', ⟨a, a1, rfl⟩, r4, 1, fun n => ?_⟩
              dsimp only
              rw [evF, he]
              dsimp only
              rw [rRx_no hrt, hth]
              dsimp only
              rw [hcl]
              dsimp only
              rw [r5]
              dsimp only
              rw [hhd]
              exact if_pos hemp
            · cases y1
      · cases h
    · cases h
  · rename_i hiv
    split at h
    · rename_i l' hx
      cases h
      obtain ⟨t, t1, ex, t2, lc', stc', hc', t3, t4, t5, t6⟩ := rNx_ok (dflt := dflt) hO hn hl hs hh hx
      refine ⟨.inl t, List.mem_map.mpr ⟨t, t1, rfl⟩, ex, t2, lc', stc', hc', t3, t4, t5, ?_⟩
      rcases t6 with ⟨z1, z2, z3, z4⟩ | z
      · refine ⟨0, fun n => ?_⟩
        dsimp only
        rw [z1, z2, z3, z4]
        rfl
      · refine ⟨1, fun n => ?_⟩
        have hcl : mCl e stc hc = none := if_neg (fun k => hiv ⟨k.1, k.2.1⟩)
        dsimp only
        rw [evF, he]
        dsimp only
        rw [rRx_no hrt, hth]
        dsimp only
        rw [hcl]
        dsimp only
        rw [z]
    · cases h
end SP
