/-! HOW MANY NUMBERS THERE ARE -/
theorem rMap_mem2 {α β : Type} {f : α → Option β} : ∀ {l : List α} {ls : List β} {y : β}, rMap f l = some ls → y ∈ ls → ∃ x ∈ l, f x = some y
  | [], _, _, h, hy => by cases h; cases hy
  | a :: r, ls, y, h, hy => by
    unfold rMap at h
    split at h
    · cases h
    · rename_i b hb
      split at h
      · cases h
      · rename_i l hl
        cases h
        rcases List.mem_cons.mp hy with rfl | hy
        · exact ⟨a, List.mem_cons_self, hb⟩
        · obtain ⟨x, x1, x2⟩ := rMap_mem2 hl hy
          exact ⟨x, List.mem_cons_of_mem _ x1, x2⟩
section LEN
variable {fs : rF}
theorem rNi_len (fs : rF) (l u : Int) : (rNi fs l u).1.length ≤ fs.length + 1 := by
  unfold rNi
  split
  · exact Nat.le_succ _
  · split <;> (rw [List.length_append]; exact Nat.le_refl _)
theorem rNl_len (fs : rF) (l u : Int) : (rNl fs l u).1.length ≤ fs.length + 1 := by
  unfold rNl
  split
  · exact Nat.le_succ _
  · split <;> (rw [List.length_append]; exact Nat.le_refl _)
theorem rU_len {i : Instr} {st : List Value} {q : rF × List Value} (h : rU fs i st = some q) : q.1.length ≤ fs.length + 1 := by
  unfold rU at h
  repeat' split at h
  all_goals first
    | (cases h; done)
    | (cases h; first | exact rNi_len _ _ _ | exact rNl_len _ _ _ | exact Nat.le_succ _)
    | (obtain ⟨a, -, rfl⟩ := Option.map_eq_some_iff.mp h; first | exact rNi_len _ _ _ | exact rNl_len _ _ _)
theorem rG_len {i : Instr} {o1 o2 : Nat} {v : Value} {st : List Value} {h : rH} {q : rF × List Value} (hg : rG fs i o1 o2 v st h = some q) : q.1.length ≤ fs.length + 1 := by
  unfold rG at hg
  repeat' split at hg
  all_goals first
    | (cases hg; done)
    | (cases hg; first | exact rNi_len _ _ _ | exact rNl_len _ _ _ | exact Nat.le_succ _)
    | (obtain ⟨a, -, rfl⟩ := Option.map_eq_some_iff.mp hg; exact Nat.le_succ _)
theorem rX_len {o3 : Nat} {st : List Value} {q : rF × List Value} (hg : rX fs o3 st = some q) : q.1.length ≤ fs.length + 1 := by
  unfold rX at hg
  repeat' split at hg
  all_goals first
    | (cases hg; done)
    | (cases hg; first | exact rNi_len _ _ _ | exact Nat.le_succ _)
theorem rMa_len {k0 : Nat} {i : Instr} {st : List Value} {h : rH} {q : rF × List Value × rH} (hg : rMa fs k0 i st h = some q) : q.1.length ≤ fs.length + 1 := by
  unfold rMa at hg
  repeat' split at hg
  all_goals first
    | (cases hg; done)
    | (cases hg; first | exact rNi_len _ _ _ | exact Nat.le_succ _)
    | (obtain ⟨a, -, rfl⟩ := Option.map_eq_some_iff.mp hg; exact Nat.le_succ _)
theorem rCut_len {v : Value} {lo hi : Int} {g : rF} (h : rCut fs v lo hi = some g) : g.length = fs.length := by
  unfold rCut at h
  repeat' split at h
  all_goals first
    | (cases h; done)
    | (cases h; first | rw [List.length_set] | rfl)
theorem rTwo_len {v w : Value} {a b c d : Int} {g : rF} (h : g ∈ rTwo fs v w a b c d) : g.length = fs.length := by
  unfold rTwo at h
  split at h
  · rename_i g1 h1
    split at h
    · rename_i g2 h2
      rw [List.mem_singleton] at h
      subst h
      rw [rCut_len h2, rCut_len h1]
    · cases h
  · cases h
theorem rRef_len {c : ClassFile.Cond} {v w : Value} {x y : Int × Int} {g : rF} (h : g ∈ rRef c fs v w x y) : g.length = fs.length := by
  unfold rRef at h
  split at h
  · exact rTwo_len h
  · exact rTwo_len h
  · exact rTwo_len h
  · exact rTwo_len h
  · exact rTwo_len h
  · split at h
    · rw [List.mem_singleton] at h; rw [h]
    · split at h
      · rcases List.mem_append.mp h with h | h <;> exact rTwo_len h
      · split at h
        · rcases List.mem_append.mp h with h | h <;> exact rTwo_len h
        · rw [List.mem_singleton] at h; rw [h]
theorem rWay_len {c : ClassFile.Cond} {v w : Value} {x y : Int × Int} {pc : Nat} {off : Int} {r : List Value} {l : List (rF × Nat × List Value)} (h : rWay c fs v w x y pc off r = some l) {k : rF × Nat × List Value} (hk : k ∈ l) : k.1.length = fs.length := by
  unfold rWay at h
  split at h
  · cases h
    rcases List.mem_append.mp hk with hk | hk
    · obtain ⟨g, g1, rfl⟩ := List.mem_map.mp hk
      exact rRef_len g1
    · obtain ⟨g, g1, rfl⟩ := List.mem_map.mp hk
      exact rRef_len g1
  · cases h
theorem rZ_len {i : Instr} {pc : Nat} {st : List Value} {l : List (rF × Nat × List Value)} (h : rZ fs i pc st = some l) {k : rF × Nat × List Value} (hk : k ∈ l) : k.1.length = fs.length := by
  unfold rZ at h
  split at h
  · split at h
    · exact rWay_len h hk
    · cases h
  · split at h
    · exact rWay_len h hk
    · cases h
  · split at h
    · split at h
      · split at h
        · cases h
          rcases List.mem_cons.mp hk with rfl | hk
          · rfl
          · rw [List.mem_singleton] at hk
            rw [hk]
        · cases h
      · cases h
    · cases h
  · split at h
    · cases h
      rcases List.mem_append.mp hk with hk | hk
      · obtain ⟨g, g1, rfl⟩ := List.mem_map.mp hk
        exact rRef_len g1
      · rcases List.mem_append.mp hk with hk | hk
        · obtain ⟨g, g1, rfl⟩ := List.mem_map.mp hk
          exact rRef_len g1
        · obtain ⟨g, g1, rfl⟩ := List.mem_map.mp hk
          exact rRef_len g1
    · cases h
  · split at h
    · split at h
      · cases h
        obtain ⟨g, g1, rfl⟩ := List.mem_map.mp hk
        rcases List.mem_append.mp g1 with g1 | g1
        · exact rTwo_len g1
        · rcases List.mem_append.mp g1 with g1 | g1
          · exact rTwo_len g1
          · obtain ⟨j, -, g2⟩ := List.mem_flatMap.mp g1
            split at g2
            · exact rTwo_len g2
            · cases g2
      · cases h
    · cases h
  · split at h
    · cases h
      obtain ⟨g, g1, rfl⟩ := List.mem_map.mp hk
      rcases List.mem_append.mp g1 with g1 | g1
      · exact rTwo_len g1
      · rcases List.mem_append.mp g1 with g1 | g1 <;> exact rTwo_len g1
    · cases h
  · cases h
theorem rNx_len {k0 : Nat} {e : mI} {pc : Nat} {lv : mL} {st : List Value} {h : rH} {l : List rT} (hx : rNx k0 e fs pc lv st h = some l) {t : rT} (ht : t ∈ l) : t.1.length ≤ fs.length + 1 := by
  unfold rNx at hx
  split at hx
  · cases hx; rw [List.mem_singleton] at ht; subst ht; exact Nat.le_succ _
  split at hx
  · cases hx; rw [List.mem_singleton] at ht; subst ht; exact Nat.le_succ _
  split at hx
  · rename_i q hq
    cases hx; rw [List.mem_singleton] at ht; subst ht
    split at hq
    · cases hq
    · exact rU_len hq
  split at hx
  · cases hx; rw [List.mem_singleton] at ht; subst ht; exact Nat.le_succ _
  split at hx
  · cases hx; rw [List.mem_singleton] at ht; subst ht; exact Nat.le_succ _
  split at hx
  · cases hx; rw [List.mem_singleton] at ht; subst ht; exact Nat.le_succ _
  split at hx
  · rename_i q hq
    cases hx; rw [List.mem_singleton] at ht; subst ht; exact rG_len hq
  split at hx
  · cases hx; rw [List.mem_singleton] at ht; subst ht; exact Nat.le_succ _
  split at hx
  · rename_i q hq
    cases hx; rw [List.mem_singleton] at ht; subst ht; exact rMa_len hq
  split at hx
  · split at hx
    · rename_i q hq
      cases hx; rw [List.mem_singleton] at ht; subst ht; exact rX_len hq
    · split at hx
      · cases hx; rw [List.mem_singleton] at ht; subst ht; exact Nat.le_succ _
      · cases hx
  · split at hx
    · rename_i l' hl
      cases hx
      obtain ⟨g, g1, rfl⟩ := List.mem_map.mp ht
      exact Nat.le_trans (Nat.le_of_eq (rZ_len hl g1)) (Nat.le_succ _)
    · cases hx
theorem rSp_len {k0 : Nat} {P : Nat → Nat → Option mI} {Hn : Nat → List (Nat × Nat × Nat × Nat)} {dp : Nat} {call : Nat → List Value → rF → rH → Option (List rR)} {mi : Nat} {s : rT} {l : List (rT ⊕ rR)} (h : rSp k0 P Hn dp call mi s = some l) {t : rT} (ht : .inl t ∈ l) : t.1.length ≤ s.1.length + 1 ∨ t.1.length ≤ 50000 := by
  unfold rSp at h
  split at h
  · cases h
  · split at h
    · split at h
      · cases h
        rw [List.mem_singleton] at ht
        cases ht
      · cases h
    · split at h
      · split at h
        · obtain ⟨a, -, rfl⟩ := Option.map_eq_some_iff.mp h
          rw [List.mem_singleton] at ht
          cases ht
        · cases h
      · split at h
        · split at h
          · split at h
            · rename_i rs hrs
              refine Or.inr ?_
              obtain ⟨r, r1, r2⟩ := rMap_mem2 h ht
              obtain ⟨rf, ro, rh⟩ := r
              unfold rAf at r2
              repeat' split at r2
              all_goals cases r2
              all_goals dsimp only
              all_goals first
                | omega
                | (rw [List.length_append]; show _ + 1 ≤ 50000; omega)
            · cases h
          · cases h
        · split at h
          · rename_i l' hl
            cases h
            obtain ⟨g, g1, g2⟩ := List.mem_map.mp ht
            cases g2
            exact Or.inl (rNx_len hl g1)
          · cases h
end LEN
