/-! THE CHARACTERS OF A WRITE: both loops count the same bytes -/
theorem rGb_ge {E : Int64} {k : Nat} (hk : k ≤ 8) (h : ∀ j, j < k → rGk E j = true) : k ≤ rGb E := by
  have key : ∀ (p : Nat → Bool) (k : Nat), k ≤ 8 → (∀ j, j < k → p j = true) → k ≤ ((List.range 8).takeWhile p).length := by
    intro p k hk h
    have e : List.range 8 = [0, 1, 2, 3, 4, 5, 6, 7] := by decide
    rw [e]
    simp only [List.takeWhile_cons]
    rcases k with _ | _ | _ | _ | _ | _ | _ | _ | _ | k
    · exact Nat.zero_le _
    all_goals first | omega | skip
    all_goals
      have h0 := h 0 (by omega)
      simp only [h0, if_true, List.length_cons]
      try have h1 := h 1 (by omega); simp only [h1, if_true, List.length_cons]
      try have h2 := h 2 (by omega); simp only [h2, if_true, List.length_cons]
      try have h3 := h 3 (by omega); simp only [h3, if_true, List.length_cons]
      try have h4 := h 4 (by omega); simp only [h4, if_true, List.length_cons]
      try have h5 := h 5 (by omega); simp only [h5, if_true, List.length_cons]
      try have h6 := h 6 (by omega); simp only [h6, if_true, List.length_cons]
      try have h7 := h 7 (by omega); simp only [h7, if_true, List.length_cons]
      omega
  exact key _ k hk h
theorem rGb_lt {E : Int64} {i : Nat} (hi : i < 8) (h : rGk E i = false) : rGb E ≤ i := by
  have key : ∀ (p : Nat → Bool) (i : Nat), i < 8 → p i = false → ((List.range 8).takeWhile p).length ≤ i := by
    intro p i hi h
    have e : List.range 8 = [0, 1, 2, 3, 4, 5, 6, 7] := by decide
    rw [e]
    simp only [List.takeWhile_cons]
    rcases i with _ | _ | _ | _ | _ | _ | _ | _ | i
    all_goals first | omega | skip
    all_goals
      simp only [h]
      repeat' split
      all_goals simp_all
  exact key _ i hi h
theorem rGb_le (E : Int64) : rGb E ≤ 8 := by
  unfold rGb
  exact Nat.le_trans (List.takeWhile_sublist _).length_le (by decide)
theorem cSh : ∀ i : Fin 8, (((Int8.ofInt 8).toInt32 * Int32.ofNat i.val).toInt64 &&& 63) = Int64.ofNat (8 * i.val) := by decide
theorem cSh' {i : Nat} (h : i < 8) : (((Int8.ofInt 8).toInt32 * Int32.ofNat i).toInt64 &&& 63) = Int64.ofNat (8 * i) := cSh ⟨i, h⟩
theorem cAnd (x : Int64) : 0 ≤ (x &&& 255).toInt ∧ (x &&& 255).toInt ≤ 255 := by
  obtain ⟨w, w1, w2, w3⟩ := rBil_ok (i := .land) (p := (rL0, rL1)) (q := (255, 255)) (z := (0, 255)) (x := x) (y := 255) (by decide) (rAnyL x).1 (rAnyL x).2 (by decide) (by decide) []
  cases w1
  exact ⟨w2, w3⟩
theorem cCi {a b : Nat} (ha : a ≤ 8) (hb : b ≤ 8) : mCnd .ge (Int32.ofNat a) (Int32.ofNat b) = decide (b ≤ a) := by
  have key : ∀ a b : Fin 9, mCnd .ge (Int32.ofNat a.val) (Int32.ofNat b.val) = decide (b.val ≤ a.val) := by decide
  exact key ⟨a, by omega⟩ ⟨b, by omega⟩
theorem cEq (x : Int64) (y : Int64) : mCnd .eq (lg_cmp x y) 0 = decide (x.toInt = y.toInt) := by
  unfold lg_cmp mCnd
  simp only [gt_iff_lt, Int64.lt_iff_toInt_lt, ← Int64.toInt_inj]
  repeat' split
  all_goals simp_all <;> omega
theorem cLt (x : Int64) (y : Int64) : mCnd .lt (lg_cmp x y) 0 = decide (x.toInt < y.toInt) := by
  unfold lg_cmp mCnd
  simp only [gt_iff_lt, Int64.lt_iff_toInt_lt, ← Int64.toInt_inj]
  by_cases h1 : y.toInt < x.toInt
  · rw [if_pos h1]
    have : ¬ x.toInt < y.toInt := by omega
    simp [this]
  · rw [if_neg h1]
    by_cases h2 : x.toInt = y.toInt
    · rw [if_pos h2]
      have : ¬ x.toInt < y.toInt := by omega
      simp [this]
    · rw [if_neg h2]
      have : x.toInt < y.toInt := by omega
      simp [this]
theorem cLe (x : Int64) (y : Int64) : mCnd .le (lg_cmp x y) 0 = decide (x.toInt ≤ y.toInt) := by
  have h := lg_cmp_le x y
  unfold mCnd
  dsimp only
  rw [Int64.le_iff_toInt_le] at h
  exact decide_eq_decide.mpr h
section CH
variable {dflt : Nat → List Value} {cods : Nat → List (Option mI)} {Hn : Nat → List (Nat × Nat × Nat × Nat)} {dp : Nat} {call : Nat → List Value → mH → Option (mO × mH)} {E : Int64} {k : Nat} {h : mH}
def cV (i k : Nat) (E : Int64) : mL := [(3, .int (Int32.ofNat i)), (0, .long E), (2, .int (Int32.ofNat k))]
theorem cA_loop (hC : cods 56 = nC56) (hk : k ≤ 8) : ∀ (m i : Nat), i + m = k → (∀ j, j < i → rGk E j = true) → ∃ n, evF 158 dflt (mP' cods) Hn dp call n 56 2 (cV i k E) [] h = some (.inl (some (.int (if k ≤ rGb E then 1 else 0))), h)
  | 0, i, hm, hg => by
    obtain rfl : i = k := by omega
    have s1 := eW.r (k0 := 158) (dflt := dflt) (Hn := Hn) (dp := dp) (call := call) (mP'_ok hC) 2 (show eR 158 dflt nC56 2 2 (cV i i E) [] h = some (4, cV i i E, [.int (Int32.ofNat i), .int (Int32.ofNat i)], h) from rfl)
    have s2 := eW.icmp (k0 := 158) (dflt := dflt) (P := mP' cods) (Hn := Hn) (dp := dp) (call := call) (lv := cV i i E) (h := h) (mP'_ok hC 4 _ rfl) ((cCi hk hk).trans (decide_eq_true (Nat.le_refl i))) (show mBr true 4 50 [] = some (54, []) from rfl)
    refine (s1.trans s2) _ ⟨2, ?_⟩
    rw [if_pos (rGb_ge hk hg)]
    have e1 := evF_r (k0 := 158) (dflt := dflt) (Hn := Hn) (dp := dp) (call := call) (mP'_ok hC) 1 1 (show eR 158 dflt nC56 1 54 (cV i i E) [] h = some (55, cV i i E, [.int 1], h) from rfl)
    refine e1.trans ?_
    show evF 158 dflt (mP' cods) Hn dp call 1 56 55 (cV i i E) [.int 1] h = _
    conv => lhs; unfold evF
    rw [mP'_ok hC 55 _ rfl]
    rfl
  | m + 1, i, hm, hg => by
    have hi : i < 8 := by omega
    have s1 := eW.r (k0 := 158) (dflt := dflt) (Hn := Hn) (dp := dp) (call := call) (mP'_ok hC) 2 (show eR 158 dflt nC56 2 2 (cV i k E) [] h = some (4, cV i k E, [.int (Int32.ofNat k), .int (Int32.ofNat i)], h) from rfl)
    have s2 := eW.icmp (k0 := 158) (dflt := dflt) (P := mP' cods) (Hn := Hn) (dp := dp) (call := call) (lv := cV i k E) (h := h) (mP'_ok hC 4 _ rfl) ((cCi (Nat.le_of_lt hi) hk).trans (decide_eq_false (show ¬ k ≤ i by omega))) (show mBr false 4 50 [] = some (7, []) from rfl)
    let c : Int64 := (E >>> (((Int8.ofInt 8).toInt32 * Int32.ofNat i).toInt64 &&& 63)) &&& 255
    have hc : c = (E >>> Int64.ofNat (8 * i)) &&& 255 := by show (E >>> (((Int8.ofInt 8).toInt32 * Int32.ofNat i).toInt64 &&& 63)) &&& 255 = _; rw [cSh' hi]
    have hgk : rGk E i = (decide (c.toInt = 10) || (decide (32 ≤ c.toInt) && decide (c.toInt ≤ 126))) := by rw [hc]; rfl
    have s3 := eW.r (k0 := 158) (dflt := dflt) (Hn := Hn) (dp := dp) (call := call) (mP'_ok hC) 8 (show eR 158 dflt nC56 8 7 (cV i k E) [] h = some (19, (4, .long c) :: cV i k E, [], h) from rfl)
    have s4 := eW.r (k0 := 158) (dflt := dflt) (Hn := Hn) (dp := dp) (call := call) (mP'_ok hC) 3 (show eR 158 dflt nC56 3 19 ((4, .long c) :: cV i k E) [] h = some (25, (4, .long c) :: cV i k E, [.int (lg_cmp c 10)], h) from rfl)
    have t1 := ((s1.trans s2).trans s3).trans s4
    have up : eW (fun n => evF 158 dflt (mP' cods) Hn dp call n 56) 48 ((4, .long c) :: cV i k E) [] h 2 (cV (i + 1) k E) [] h := by
      have u1 := eW.r (k0 := 158) (dflt := dflt) (Hn := Hn) (dp := dp) (call := call) (mP'_ok hC) 2 (show eR 158 dflt nC56 2 48 ((4, .long c) :: cV i k E) [] h = some (2, (3, .int (Int32.ofNat i + Int32.ofInt 1)) :: (4, .long c) :: [(0, .long E), (2, .int (Int32.ofNat k))], [], h) from rfl)
      refine u1.trans (eW.lv ?_)
      have e1 : Int32.ofNat i + Int32.ofInt 1 = Int32.ofNat (i + 1) := by
        have key : ∀ i : Fin 8, Int32.ofNat i.val + Int32.ofInt 1 = Int32.ofNat (i.val + 1) := by decide
        exact key ⟨i, hi⟩
      dsimp only
      rw [e1]
      intro q hq
      simp only [cV, List.mem_cons, List.not_mem_nil, or_false] at hq
      rcases hq with rfl | rfl | rfl <;> rfl
    have dn : rGk E i = false → ∃ n, evF 158 dflt (mP' cods) Hn dp call n 56 46 ((4, .long c) :: cV i k E) [] h = some (.inl (some (.int (if k ≤ rGb E then 1 else 0))), h) := by
      intro hf
      have := rGb_lt hi hf
      rw [if_neg (show ¬ k ≤ rGb E by omega)]
      refine ⟨2, ?_⟩
      have e1 := evF_r (k0 := 158) (dflt := dflt) (Hn := Hn) (dp := dp) (call := call) (mP'_ok hC) 1 1 (show eR 158 dflt nC56 1 46 ((4, .long c) :: cV i k E) [] h = some (47, (4, .long c) :: cV i k E, [.int 0], h) from rfl)
      refine e1.trans ?_
      show evF 158 dflt (mP' cods) Hn dp call 1 56 47 ((4, .long c) :: cV i k E) [.int 0] h = _
      conv => lhs; unfold evF
      rw [mP'_ok hC 47 _ rfl]
      rfl
    have nx : rGk E i = true → ∃ n, evF 158 dflt (mP' cods) Hn dp call n 56 48 ((4, .long c) :: cV i k E) [] h = some (.inl (some (.int (if k ≤ rGb E then 1 else 0))), h) := by
      intro ht
      exact up _ (cA_loop hC hk m (i + 1) (by omega) (fun j hj => by
        by_cases hji : j = i
        · rw [hji]; exact ht
        · exact hg j (by omega)))
    by_cases h10 : c.toInt = 10
    · have s5 := eW.cond (k0 := 158) (dflt := dflt) (P := mP' cods) (Hn := Hn) (dp := dp) (call := call) (lv := (4, .long c) :: cV i k E) (h := h) (r := []) (mP'_ok hC 25 _ rfl) ((cEq c 10).trans (decide_eq_true h10)) (show mBr true 25 23 [] = some (48, []) from rfl)
      exact (t1.trans s5) _ (nx (by rw [hgk, decide_eq_true h10, Bool.true_or]))
    · have s5 := eW.cond (k0 := 158) (dflt := dflt) (P := mP' cods) (Hn := Hn) (dp := dp) (call := call) (lv := (4, .long c) :: cV i k E) (h := h) (r := []) (mP'_ok hC 25 _ rfl) ((cEq c 10).trans (decide_eq_false h10)) (show mBr false 25 23 [] = some (28, []) from rfl)
      have s6 := eW.r (k0 := 158) (dflt := dflt) (Hn := Hn) (dp := dp) (call := call) (mP'_ok hC) 3 (show eR 158 dflt nC56 3 28 ((4, .long c) :: cV i k E) [] h = some (34, (4, .long c) :: cV i k E, [.int (lg_cmp c 32)], h) from rfl)
      have t2 := (t1.trans s5).trans s6
      by_cases h32 : c.toInt < 32
      · have s7 := eW.cond (k0 := 158) (dflt := dflt) (P := mP' cods) (Hn := Hn) (dp := dp) (call := call) (lv := (4, .long c) :: cV i k E) (h := h) (r := []) (mP'_ok hC 34 _ rfl) ((cLt c 32).trans (decide_eq_true h32)) (show mBr true 34 12 [] = some (46, []) from rfl)
        exact (t2.trans s7) _ (dn (by rw [hgk, decide_eq_false h10, decide_eq_false (show ¬ 32 ≤ c.toInt by omega)]; rfl))
      · have s7 := eW.cond (k0 := 158) (dflt := dflt) (P := mP' cods) (Hn := Hn) (dp := dp) (call := call) (lv := (4, .long c) :: cV i k E) (h := h) (r := []) (mP'_ok hC 34 _ rfl) ((cLt c 32).trans (decide_eq_false h32)) (show mBr false 34 12 [] = some (37, []) from rfl)
        have s8 := eW.r (k0 := 158) (dflt := dflt) (Hn := Hn) (dp := dp) (call := call) (mP'_ok hC) 3 (show eR 158 dflt nC56 3 37 ((4, .long c) :: cV i k E) [] h = some (43, (4, .long c) :: cV i k E, [.int (lg_cmp c 126)], h) from rfl)
        have t3 := (t2.trans s7).trans s8
        by_cases h126 : c.toInt ≤ 126
        · have s9 := eW.cond (k0 := 158) (dflt := dflt) (P := mP' cods) (Hn := Hn) (dp := dp) (call := call) (lv := (4, .long c) :: cV i k E) (h := h) (r := []) (mP'_ok hC 43 _ rfl) ((cLe c 126).trans (decide_eq_true h126)) (show mBr true 43 5 [] = some (48, []) from rfl)
          exact (t3.trans s9) _ (nx (by rw [hgk, decide_eq_false h10, decide_eq_true (show 32 ≤ c.toInt by omega), decide_eq_true h126]; rfl))
        · have s9 := eW.cond (k0 := 158) (dflt := dflt) (P := mP' cods) (Hn := Hn) (dp := dp) (call := call) (lv := (4, .long c) :: cV i k E) (h := h) (r := []) (mP'_ok hC 43 _ rfl) ((cLe c 126).trans (decide_eq_false h126)) (show mBr false 43 5 [] = some (46, []) from rfl)
          exact (t3.trans s9) _ (dn (by rw [hgk, decide_eq_false h10, decide_eq_true (show 32 ≤ c.toInt by omega), decide_eq_false h126]; rfl))
/-- areCharacters: are the first k bytes characters -/
theorem cA (mx : Nat → Nat) (hC : cods 56 = nC56) (hM : mx 56 = 6) (hk : k ≤ 8) (d : Nat) : ∃ n, evM 158 dflt (mP' cods) Hn mx (d + 1) n 56 [.long E, .int (Int32.ofNat k)] h = some (.inl (some (.int (if k ≤ rGb E then 1 else 0))), h) := by
  obtain ⟨c1, hcl⟩ := rLim (k0 := 158) (dflt := dflt) (P := mP' cods) (Hn := Hn) (mx := mx) d
  obtain ⟨n, hn⟩ := cA_loop (dflt := dflt) (Hn := Hn) (dp := d + 1) (call := c1) (E := E) (h := h) hC hk k 0 (by omega) (fun j hj => by omega)
  have s1 := eW.r (k0 := 158) (dflt := dflt) (Hn := Hn) (dp := d + 1) (call := c1) (mP'_ok hC) 2 (show eR 158 dflt nC56 2 0 (lv_args 0 [.long E, .int (Int32.ofNat k)]) [] h = some (2, cV 0 k E, [], h) from rfl)
  obtain ⟨n2, hn2⟩ := s1 _ ⟨n, hn⟩
  exact rLimM hcl (by rw [hM]; exact (show 3 ≤ 6 by decide)) hn2
end CH
