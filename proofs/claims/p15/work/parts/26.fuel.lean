/-! MORE FUEL DOES NO HARM -/
section FU
variable {k0 : Nat} {dflt : Nat → List Value} {P : Nat → Nat → Option mI} {Hn : Nat → List (Nat × Nat × Nat × Nat)} {dp : Nat}
theorem evF_up {call call' : Nat → List Value → mH → Option (mO × mH)} (hc : ∀ ce as h r, call ce as h = some r → call' ce as h = some r) : ∀ (n n' : Nat) {mi pc : Nat} {lv : mL} {st : List Value} {h : mH} {r : mO × mH}, n ≤ n' → evF k0 dflt P Hn dp call n mi pc lv st h = some r → evF k0 dflt P Hn dp call' n' mi pc lv st h = some r
  | 0, _, _, _, _, _, _, _, _, he => by cases he
  | n + 1, 0, _, _, _, _, _, _, hn, _ => by omega
  | n + 1, n' + 1, mi, pc, lv, st, h, r, hn, he => by
    unfold evF at he ⊢
    split at he
    · cases he
    · rename_i e hp
      try dsimp only at he ⊢
      split at he
      · rename_i v hv
        exact he
      · rename_i hv
        try dsimp only
        split at he
        · rename_i x hx
          exact he
        · rename_i hx
          try dsimp only
          split at he
          · rename_i ce as rest hcl
            try dsimp only
            split at he
            · rename_i v h' hcr
              rw [hc _ _ _ _ hcr]
              exact evF_up hc n n' (by omega) he
            · rename_i x a h' hcr
              rw [hc _ _ _ _ hcr]
              try dsimp only
              split at he
              · rename_i hp' hhd
                exact evF_up hc n n' (by omega) he
              · exact he
            · cases he
          · rename_i hcl
            try dsimp only
            split at he
            · exact evF_up hc n n' (by omega) he
            · cases he
theorem evM_up {mx : Nat → Nat} : ∀ (d n n' : Nat) {mi : Nat} {as : List Value} {h : mH} {r : mO × mH}, n ≤ n' → evM k0 dflt P Hn mx d n mi as h = some r → evM k0 dflt P Hn mx d n' mi as h = some r
  | 0, _, _, _, _, _, _, _, he => by cases he
  | d + 1, n, n', mi, as, h, r, hn, he => by
    unfold evM at he ⊢
    split at he
    · rename_i hl
      rw [if_pos hl]
      exact evF_up (fun ce as h r hr => evM_up d n n' hn hr) n n' hn he
    · cases he
end FU
