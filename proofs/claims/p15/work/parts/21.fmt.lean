/-! THE ONE STATIC OF WHICH ONLY 'A REFERENCE OR NULL' IS SAID: it is passed on and dropped -/
def nC226w (w : Value) : List (Option mI) := nC226.set 2 (some (.getstatic 1053, 0, 0, 0, w))
def nCodw (w : Value) (i : Nat) : List (Option mI) := if i = 226 then nC226w w else nCods i
set_option maxRecDepth 100000 in
theorem nFk : nS nH226 (.fieldLink "java/lang/String" 1053 "jdk/internal/util/Preconditions" "SIOOBE_FORMATTER" "Ljava/util/function/BiFunction;") = true := by decide +kernel
set_option maxRecDepth 100000 in
theorem nFd : decide (decode (nMt 226).2.1 2 = .ok (.getstatic 1053, 3)) = true := by decide +kernel
set_option maxRecDepth 100000 in
theorem nFl : nC226.length = 10 ∧ (nC226[2]?).getD none = none ∧ (nMt 226).1.cls = "java/lang/String" := by decide +kernel
theorem mVM_same {cl : List vw_C} {zs : List (String × String × String × Value)} {Ts : List Cond} {dflt : Nat → List Value} {strs : List (String × Nat × String)} {ncs : List (Nat × Nat)} {EX : Nat → String} {ct : Nat → Nat} {P Q : Nat → Nat → Option mI} {Hn : Nat → List (Nat × Nat × Nat × Nat)} {mx : Nat → Nat} {mt : Nat → mMt} {mi : Nat} (h : ∀ pc, Q mi pc = P mi pc) (hv : mVM cl zs Ts dflt strs ncs EX ct P Hn mx mt mi) : mVM cl zs Ts dflt strs ncs EX ct Q Hn mx mt mi := by
  obtain ⟨w1, w2, w3, w4, w5, w6, w7, w8, w9⟩ := hv
  exact ⟨w1, w2, w3, w4, w5, w6, fun pc en he => w7 pc en (by rw [← h]; exact he), w8, fun hn pc en he => w9 hn pc en (by rw [← h]; exact he)⟩
theorem nVMw (v3 v4 v5 : Value) (mi : Nat) (h : mP' (nCodw v5) mi 0 ≠ none) : mVM nCl (nZ0 ++ nZv v3 v4 v5) (mTs' nTb) nDflt nStrs nNcs nEX nCt (mP' (nCodw v5)) nHn (fun i => (nMt i).2.2.1) nMt mi := by
  by_cases hm : mi = 226
  · subst hm
    have h0 : mP' nCods 226 0 ≠ none := by
      intro q
      have : (mP' nCods 226 0).isSome = true := by decide +kernel
      rw [q] at this
      cases this
    obtain ⟨w1, w2, w3, w4, w5, w6, w7, w8, w9⟩ := nVM (nZv v3 v4 v5) 226 h0
    obtain ⟨l1, l2, l3⟩ := nFl
    refine ⟨w1, w2, w3, w4, w5, w6, fun pc en he => ?_, w8, fun hn => absurd rfl hn⟩
    have he : mP' (nCodw v5) 226 pc = some en := he
    unfold mP' at he
    have e1 : nCodw v5 226 = nC226w v5 := if_pos rfl
    rw [e1] at he
    unfold nC226w at he
    by_cases hp : pc = 2
    · subst hp
      rw [List.getElem?_set_self (by rw [l1]; decide)] at he
      cases he
      refine ⟨of_decide_eq_true nFd, ⟨trivial, ⟨_, _, _, List.mem_append_right _ (List.mem_cons_of_mem _ (List.mem_cons_of_mem _ List.mem_cons_self)), Or.inl ?_⟩, trivial, fun _ => trivial, fun q => by cases q⟩, trivial, fun _ => trivial, fun x hx => by cases hx⟩
      rw [l3]
      exact nS_ok _ _ nFk
    · rw [List.getElem?_set_ne (Ne.symm hp)] at he
      exact w7 pc en he
  · have e1 : nCodw v5 mi = nCods mi := if_neg hm
    have e2 : ∀ pc, mP' (nCodw v5) mi pc = mP' nCods mi pc := fun pc => by unfold mP'; rw [e1]
    exact mVM_same e2 (nVM (nZv v3 v4 v5) mi (by rw [← e2]; exact h))
