/-! TABLES FOR ONE CHECK -/
def rTab : List (Nat × List rCo) → Nat → List rCo
  | [], _ => []
  | q :: r, mi => if q.1 = mi then q.2 else rTab r mi
def rLk : List (Nat × Nat × List (Option mI)) → Nat → Nat → Option mI
  | [], _, _ => none
  | q :: r, mi, pc => if q.1 = mi then (match q.2.2[pc]? with
    | some (some e) => some e
    | _ => none) else rLk r mi pc
def rLm : List (Nat × Nat × List (Option mI)) → Nat → Nat
  | [], _ => 0
  | q :: r, mi => if q.1 = mi then q.2.1 else rLm r mi
def rHl : List (Nat × Nat × rHt) → Nat → Nat → Option rHt
  | [], _, _ => none
  | q :: r, mi, pc => if q.1 = mi ∧ q.2.1 = pc then some q.2.2 else rHl r mi pc
def rAllK (Q : rCo → Prop) : List rCo → Prop
  | [] => True
  | C :: r => Q C ∧ rAllK Q r
theorem rAllK_ok {Q : rCo → Prop} : ∀ {L : List rCo}, rAllK Q L → ∀ C ∈ L, Q C
  | [], _, C, h => by cases h
  | q :: r, ha, C, h => by
    rcases List.mem_cons.mp h with rfl | h
    · exact ha.1
    · exact rAllK_ok ha.2 C h
def rAllC (Q : Nat → rCo → Prop) : List (Nat × List rCo) → Prop
  | [] => True
  | q :: r => rAllK (Q q.1) q.2 ∧ rAllC Q r
theorem rTab_ok {Q : Nat → rCo → Prop} : ∀ {L : List (Nat × List rCo)}, rAllC Q L → ∀ mi, ∀ C ∈ rTab L mi, Q mi C
  | [], _, mi, C, h => by cases h
  | q :: r, ha, mi, C, h => by
    unfold rTab at h
    split at h
    · rename_i e
      rw [← e]
      exact rAllK_ok ha.1 C h
    · exact rTab_ok ha.2 mi C h
def rAllP (cods : Nat → List (Option mI)) (mx : Nat → Nat) : List (Nat × Nat × List (Option mI)) → Prop
  | [] => True
  | q :: r => (cods q.1 = q.2.2 ∧ mx q.1 = q.2.1) ∧ rAllP cods mx r
theorem rLk_ok {cods : Nat → List (Option mI)} {mx : Nat → Nat} : ∀ {L : List (Nat × Nat × List (Option mI))}, rAllP cods mx L → ∀ mi pc e, rLk L mi pc = some e → mP' cods mi pc = some e
  | [], _, _, _, _, h => by cases h
  | q :: r, ha, mi, pc, e, h => by
    unfold rLk at h
    split at h
    · rename_i hq
      subst hq
      unfold mP'
      rw [ha.1.1]
      exact h
    · exact rLk_ok ha.2 mi pc e h
theorem rLm_ok {cods : Nat → List (Option mI)} {mx : Nat → Nat} : ∀ {L : List (Nat × Nat × List (Option mI))}, rAllP cods mx L → ∀ mi, rLm L mi ≤ mx mi
  | [], _, mi => Nat.zero_le _
  | q :: r, ha, mi => by
    unfold rLm
    split
    · rename_i hq
      subst hq
      rw [ha.1.2]
      exact Nat.le_refl _
    · exact rLm_ok ha.2 mi
def nJ0 : Nat → Nat → Nat → rT → Option rT := fun _ _ k s => rMisc 190 201 183 37 k s
def nOr0 : Nat → List Value → rF → rH → Option (List rR) := fun _ _ _ _ => none
