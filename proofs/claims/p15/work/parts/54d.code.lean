/-! OPERATIONS BY THEIR NAMES -/
def zByt (nm : Int64) (i : Nat) : Int32 := (((nm >>> (((Int8.ofInt 8).toInt32 * Int32.ofNat i).toInt64 &&& 63)) &&& 255).toInt32.toUInt32 % 65536).toInt32
def opL (s : Nat) (nm : Int64) : Nat → Nat → Int32 → Option Int32
  | 0, _, g => some g
  | k + 1, i, g => if zCh s (Int32.ofNat i) = 63 then opL s nm k (i + 1) (zRx (zByt nm i)) else if zByt nm i = zCh s (Int32.ofNat i) then opL s nm k (i + 1) g else none
abbrev zPs (q : Nat) : Nat := nSix (q - 2)
abbrev zCd (q : Nat) : Int32 := (nOp (q - 2)).2.2.1
def opC (q : Nat) (nm : Int64) : Int32 := match opL (zPs q) nm (zSb (zPs q)).length 0 0 with
  | none => -1
  | some g => if nm >>> (((Int8.ofInt 8).toInt32 * Int32.ofNat (zSb (zPs q)).length).toInt64 &&& 63) = 0 ∧ ¬ g < 0 then zCd q + g else -1
abbrev sp125 (as : List Value) (σ : zS) : Option zCs := match as with
  | [.ref q, .long nm] => some (fun o σ' => (2 ≤ q ∧ q < 52) ∧ zR σ (opC q nm) o σ')
  | _ => none
theorem nBy_len (k : Nat) : (nBy k).length ≤ 8 := by
  by_cases h : k < 51
  · have key : ∀ k : Fin 51, (nBy k.val).length ≤ 8 := by decide +kernel
    exact key ⟨k, h⟩
  · unfold nBy
    have hl : nByt.length = 51 := by decide +kernel
    rw [List.getD_eq_getElem?_getD, List.getElem?_eq_none (by omega)]
    exact Nat.zero_le _
section OP
variable {c0 : mH} {v5 : Value}
theorem z125_l (h0 : zC0 c0) {d n : Nat} {r : mO × mH} {σ : zS} {q : Nat} {nm : Int64} : ∀ (m i : Nat) (g c w : Int32), i ≤ 8 → zF v5 d n 125 m 5 [(4, .int (Int32.ofNat i)), (3, .int g), (6, .int c), (5, .int w), (0, .ref q), (1, .long nm)] [] (zH c0 σ) = some r → (2 ≤ q ∧ q < 52) ∧ r = zOut c0 (.inl (some (.int (match opL (zPs q) nm ((zSb (zPs q)).length - i) i g with
    | none => -1
    | some g => if nm >>> (((Int8.ofInt 8).toInt32 * Int32.ofNat (zSb (zPs q)).length).toInt64 &&& 63) = 0 ∧ ¬ g < 0 then zCd q + g else -1)))) σ := by
  intro m
  induction m using Nat.strongRecOn with
  | ind m ih =>
    intro i g c w hi hx
    have hI : (Int32.ofNat i).toInt = i := zOfI (by omega)
    have hlen : (zSb (zPs q)).length ≤ 8 := nBy_len _
    have hL : (Int32.ofNat (zSb (zPs q)).length).toInt = (zSb (zPs q)).length := zOfI (by omega)
    replace hx := zTr (C := nC125) (tb := [(183, sp183), (184, sp184), (185, sp185)]) h0 rfl rfl ⟨z183 h0, z184 h0, z185 h0, trivial⟩ (fun pc => pc.beq 5 || pc.beq 76) 60 hx
    obtain ⟨hq, _, _, ⟨-, rfl, rfl⟩, hx⟩ := hx
    refine ⟨hq, ?_⟩
    rcases hx with ⟨h1, m', hm, hx⟩ | ⟨h1, hx⟩
    · have h1 : ¬ (i : Int) < (zSb (zPs q)).length := fun h' => cGeT h1 (Int32.lt_iff_toInt_lt.mpr (by rw [hI]; exact Int.lt_of_lt_of_le h' (Int.le_of_eq hL.symm)))
      rw [show (zSb (zPs q)).length - i = 0 by omega]
      have hx : zF v5 d n 125 m' 76 [(4, .int (Int32.ofNat i)), (3, .int g), (6, .int c), (5, .int w), (0, .ref q), (1, .long nm)] [] (zH c0 σ) = some r := hx
      replace hx := zTr (C := nC125) (tb := [(183, sp183)]) h0 rfl rfl ⟨z183 h0, trivial⟩ (fun pc => pc.beq 98) 60 hx
      obtain ⟨-, _, _, ⟨-, rfl, rfl⟩, hx⟩ := hx
      unfold opL
      dsimp only
      rcases hx with ⟨h1, m', hm, hx⟩ | ⟨h1, m', hm, hx⟩
      · rw [if_neg (fun h => lNeT h1 h.1)]
        replace hx := zTr (C := nC125) (tb := []) h0 rfl rfl trivial (fun _ => false) 60 hx
        rcases hx with ⟨-, hx⟩ | ⟨h, -⟩
        · exact hx
        · exact absurd rfl (cEqF h)
      · replace hx := zTr (C := nC125) (tb := []) h0 rfl rfl trivial (fun _ => false) 60 hx
        rcases hx with ⟨h, -⟩ | ⟨-, ⟨h2, hx⟩ | ⟨h2, -, hx⟩⟩
        · exact absurd (cEqT h) (by decide)
        · rw [if_neg (fun h => h.2 (cLtT h2))]
          exact hx
        · rw [if_pos ⟨lNeF h1, cLtF h2⟩]
          exact hx
    · have h1 : (i : Int) < (zSb (zPs q)).length := by
        have := Int32.lt_iff_toInt_lt.mp (cGeF h1)
        rw [hI] at this
        exact Int.lt_of_lt_of_le this (Int.le_of_eq hL)
      rw [show (zSb (zPs q)).length - i = ((zSb (zPs q)).length - (i + 1)) + 1 by omega]
      unfold opL
      obtain ⟨-, _, _, ⟨-, -, rfl, rfl⟩, hx⟩ := hx
      rcases hx with ⟨h2, hx⟩ | ⟨h2, hx⟩
      · rw [if_neg (show ¬ zCh (zPs q) (Int32.ofNat i) = 63 from cNeT h2)]
        rcases hx with ⟨h3, m', hm, hx⟩ | ⟨h3, hx⟩
        · rw [if_pos (show zByt nm i = zCh (zPs q) (Int32.ofNat i) from cEqT h3)]
          have hx : zF v5 d n 125 m' 5 [(4, .int (Int32.ofNat i + 1)), (6, .int (zByt nm i)), (5, .int (zCh (zPs q) (Int32.ofNat i))), (3, .int g), (0, .ref q), (1, .long nm)] [] (zH c0 σ) = some r := hx
          rw [← zOfS] at hx
          have hx := zF_lv (b := [(4, .int (Int32.ofNat (i + 1))), (3, .int g), (6, .int (zByt nm i)), (5, .int (zCh (zPs q) (Int32.ofNat i))), (0, .ref q), (1, .long nm)]) (fun q hq => by
            simp only [List.mem_cons, List.not_mem_nil, or_false] at hq
            rcases hq with rfl | rfl | rfl | rfl | rfl | rfl <;> rfl) hx
          exact (ih m' (by omega) (i + 1) g _ _ (by omega) hx).2
        · rw [if_neg (show ¬ zByt nm i = zCh (zPs q) (Int32.ofNat i) from cEqF h3)]
          exact hx
      · rw [if_pos (show zCh (zPs q) (Int32.ofNat i) = 63 from cNeF h2)]
        obtain ⟨_, _, ⟨rfl, rfl⟩, m', hm, hx⟩ := hx
        have hx : zF v5 d n 125 m' 5 [(4, .int (Int32.ofNat i + 1)), (3, .int (zRx (zByt nm i))), (6, .int (zByt nm i)), (5, .int (zCh (zPs q) (Int32.ofNat i))), (0, .ref q), (1, .long nm)] [] (zH c0 σ) = some r := hx
        rw [← zOfS] at hx
        exact (ih m' (by omega) (i + 1) _ _ _ (by omega) hx).2
theorem z125 (h0 : zC0 c0) : zSp c0 v5 125 sp125 := by
  intro d n as σ cs r hs hx
  unfold sp125 at hs
  split at hs
  · rename_i q nm
    cases hs
    obtain ⟨d', hx⟩ := zGo hx
    obtain ⟨m', hm, hx⟩ := zTr (C := nC125) (tb := []) h0 rfl rfl trivial (fun pc => pc.beq 5) 60 hx
    have hx : zF v5 d' n 125 m' 5 [(4, .int (Int32.ofNat 0)), (3, .int 0), (0, .ref q), (1, .long nm)] [] (zH c0 σ) = some r := hx
    have hx := zF_lv (b := [(4, .int (Int32.ofNat 0)), (3, .int 0), (6, .int 0), (5, .int 0), (0, .ref q), (1, .long nm)]) (fun q hq => by
            simp only [List.mem_cons, List.not_mem_nil, or_false] at hq
            rcases hq with rfl | rfl | rfl | rfl <;> rfl) hx
    obtain ⟨h1, h2⟩ := z125_l h0 m' 0 0 0 0 (by omega) hx
    exact ⟨_, _, ⟨h1, rfl, rfl⟩, h2⟩
  · cases hs
end OP
